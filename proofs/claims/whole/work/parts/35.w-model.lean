section Wk
variable {p : Program} {l : Launch} {e : Env} {s : State} {m : MethodId} {args : Array Value} {below : List Frame} {meth : Method} {c : Code}
variable {D : va_G} {ca : Ca} {ad : Int → Nat} {A : Nat → Prop} {r0 : Int} {σ0 : Mem}
/-! X12_thrown -/
abbrev rm_X12_thrown : Room := { frames := 0, cells := 0, slots := 0, locals := 0 }
theorem hiX12_thrown_X12 : ∀ w ∈ u_ws RX12 TX12 24, w ∈ wsX12_thrown := fun _ h => (List.mem_cons_of_mem _ (List.mem_append_right _ h))
set_option maxHeartbeats 4000000 in
set_option maxRecDepth 100000 in
theorem c_X12_thrown {σ : Mem} (hf : f_X12_thrown  σ = some (r0, σ0)) : CTi l D ca ad A yX12_thrown wsX12_thrown rm_X12_thrown [.ref (ad 120)] σ r0 σ0 := by
  refine ct_i (cc := cX12_thrown) (own := RX12) (maxL := 1) (ret := (some .int)) (lv0 := [some (.ref (ad 120))]) (by decide) rfl rfl rfl (Nat.le_of_ble_eq_true rfl) ?_
  intro p e s m below meth c C hr hlk hnm
  unfold f_X12_thrown at hf
  refine g_aload_n (i := 0) C dX12_thrown_0 rfl rfl ?_
  refine gg_X12_thrown (i := 1) C hiX12_thrown_X12 rfl dX12_thrown_1 ?_
  obtain ⟨e1, e2⟩ := some_inv hf
  exact g_iret C hr hlk e1 e2 dX12_thrown_4
/-! X12_isIn -/
abbrev rm_X12_isIn : Room := { frames := 0, cells := 0, slots := 0, locals := 0 }
set_option maxHeartbeats 4000000 in
set_option maxRecDepth 100000 in
theorem c_X12_isIn {v0 v2 v4 : Int} {σ : Mem} (hf : f_X12_isIn v0 v2 v4 σ = some (r0, σ0)) : CTi l D ca ad A yX12_isIn wsX12_isIn rm_X12_isIn [.long (lI v0), .long (lI v2), .long (lI v4)] σ r0 σ0 := by
  refine ct_i (cc := cX12_isIn) (own := RX12) (maxL := 6) (ret := (some .boolean)) (lv0 := [some (.long (lI v0)), none, some (.long (lI v2)), none, some (.long (lI v4)), none]) (by decide) rfl rfl rfl (Nat.le_of_ble_eq_true rfl) ?_
  intro p e s m below meth c C hr hlk hnm
  unfold f_X12_isIn at hf
  refine g_lload_n (i := 0) C dX12_isIn_0 rfl rfl ?_
  refine g_lload_n (i := 2) C dX12_isIn_1 rfl rfl ?_
  refine g_lcmp_lt (tgt := 17) C dX12_isIn_2 dX12_isIn_3 (by decide) rfl rfl (fun c1 => ?_) (fun c1 => ?_)
  · have hf := if_t c1 hf
    refine g_iconst C dX12_isIn_17 ?_
    obtain ⟨e1, e2⟩ := some_inv hf
    exact g_zret C hr hlk (by decide) e1 e2 dX12_isIn_18
  · have hf := if_f c1 hf
    refine g_lload_n (i := 0) C dX12_isIn_6 rfl rfl ?_
    refine g_lload C dX12_isIn_7 rfl ?_
    refine g_lcmp_gt (tgt := 17) C dX12_isIn_9 dX12_isIn_10 (by decide) rfl rfl (fun c2 => ?_) (fun c2 => ?_)
    · have hf := if_t c2 hf
      refine g_iconst C dX12_isIn_17 ?_
      obtain ⟨e1, e2⟩ := some_inv hf
      exact g_zret C hr hlk (by decide) e1 e2 dX12_isIn_18
    · have hf := if_f c2 hf
      refine g_iconst C dX12_isIn_13 ?_
      refine g_goto (tgt := 18) C dX12_isIn_14 (by decide) ?_
      obtain ⟨e1, e2⟩ := some_inv hf
      exact g_zret C hr hlk (by decide) e1 e2 dX12_isIn_18
/-! X12_isSort -/
abbrev rm_X12_isSort : Room := { frames := 1, cells := 0, slots := 0, locals := 25 }
theorem hiX12_isSort_X12 : ∀ w ∈ u_ws RX12 TX12 24, w ∈ wsX12_isSort := fun _ h => (List.mem_cons_of_mem _ (List.mem_append_right _ h))
set_option maxHeartbeats 4000000 in
set_option maxRecDepth 100000 in
theorem c_X12_isSort {v1 : Int} {σ : Mem} (hf : f_X12_isSort v1 σ = some (r0, σ0)) : CTi l D ca ad A yX12_isSort wsX12_isSort rm_X12_isSort [.ref (ad 120), .int (iI v1)] σ r0 σ0 := by
  refine ct_i (cc := cX12_isSort) (own := RX12) (maxL := 2) (ret := (some .boolean)) (lv0 := [some (.ref (ad 120)), some (.int (iI v1))]) (by decide) rfl rfl rfl (Nat.le_of_ble_eq_true rfl) ?_
  intro p e s m below meth c C hr hlk hnm
  unfold f_X12_isSort at hf
  refine g_iload_n (i := 1) C dX12_isSort_0 rfl rfl ?_
  refine g_i2l C dX12_isSort_1 rfl ?_
  refine g_lconst (z := 0) C dX12_isSort_2 (by decide) ?_
  refine g_aload_n (i := 0) C dX12_isSort_3 rfl rfl ?_
  refine gg_X12_s (i := 1) C hiX12_isSort_X12 rfl dX12_isSort_4 ?_
  refine g_iconst C dX12_isSort_7 ?_
  refine g_iaload (N := 39) (j := 0) C (by decide) dX12_isSort_8 (by decide) (by decide) ?_
  refine g_iconst C dX12_isSort_9 ?_
  refine g_isub C dX12_isSort_10 ?_
  refine g_i2l C dX12_isSort_11 rfl ?_
  obtain ⟨r2, σ1, h3, hf⟩ := ob_inv hf
  refine g_callSi C (c_X12_isIn  h3) (va_cwS 3 C.2.2.2.2.1 gX12_isSort_X12_isIn rfl rfl rfl (by decide +kernel) ⟨Nat.le_of_ble_eq_true rfl, Nat.le_of_ble_eq_true rfl⟩) rfl rfl (Nat.le_of_ble_eq_true rfl) dX12_isSort_12 ⟨Nat.zero_le _, Nat.zero_le _⟩ ?_
  obtain ⟨hz4, hf⟩ := if_inv hf
  obtain ⟨e1, e2⟩ := some_inv hf
  exact g_zret C hr hlk hz4 e1 e2 dX12_isSort_15
/-! X12_isMark -/
abbrev rm_X12_isMark : Room := { frames := 1, cells := 0, slots := 0, locals := 25 }
theorem hiX12_isMark_X12 : ∀ w ∈ u_ws RX12 TX12 24, w ∈ wsX12_isMark := fun _ h => (List.mem_cons_of_mem _ (List.mem_append_right _ h))
set_option maxHeartbeats 4000000 in
set_option maxRecDepth 100000 in
theorem c_X12_isMark {v1 : Int} {σ : Mem} (hf : f_X12_isMark v1 σ = some (r0, σ0)) : CTi l D ca ad A yX12_isMark wsX12_isMark rm_X12_isMark [.ref (ad 120), .int (iI v1)] σ r0 σ0 := by
  refine ct_i (cc := cX12_isMark) (own := RX12) (maxL := 2) (ret := (some .boolean)) (lv0 := [some (.ref (ad 120)), some (.int (iI v1))]) (by decide) rfl rfl rfl (Nat.le_of_ble_eq_true rfl) ?_
  intro p e s m below meth c C hr hlk hnm
  unfold f_X12_isMark at hf
  refine g_iload_n (i := 1) C dX12_isMark_0 rfl rfl ?_
  refine g_i2l C dX12_isMark_1 rfl ?_
  refine g_lconst (z := 0) C dX12_isMark_2 (by decide) ?_
  refine g_aload_n (i := 0) C dX12_isMark_3 rfl rfl ?_
  refine gg_X12_s (i := 1) C hiX12_isMark_X12 rfl dX12_isMark_4 ?_
  refine g_iconst C dX12_isMark_7 ?_
  refine g_iaload (N := 39) (j := 1) C (by decide) dX12_isMark_8 (by decide) (by decide) ?_
  refine g_iconst C dX12_isMark_9 ?_
  refine g_isub C dX12_isMark_10 ?_
  refine g_i2l C dX12_isMark_11 rfl ?_
  obtain ⟨r2, σ1, h3, hf⟩ := ob_inv hf
  refine g_callSi C (c_X12_isIn  h3) (va_cwS 3 C.2.2.2.2.1 gX12_isMark_X12_isIn rfl rfl rfl (by decide +kernel) ⟨Nat.le_of_ble_eq_true rfl, Nat.le_of_ble_eq_true rfl⟩) rfl rfl (Nat.le_of_ble_eq_true rfl) dX12_isMark_12 ⟨Nat.zero_le _, Nat.zero_le _⟩ ?_
  obtain ⟨hz4, hf⟩ := if_inv hf
  obtain ⟨e1, e2⟩ := some_inv hf
  exact g_zret C hr hlk hz4 e1 e2 dX12_isMark_15
/-! X12_isOpen -/
abbrev rm_X12_isOpen : Room := { frames := 0, cells := 0, slots := 0, locals := 0 }
theorem hiX12_isOpen_X12 : ∀ w ∈ u_ws RX12 TX12 24, w ∈ wsX12_isOpen := fun _ h => (List.mem_cons_of_mem _ (List.mem_append_right _ h))
set_option maxHeartbeats 4000000 in
set_option maxRecDepth 100000 in
theorem c_X12_isOpen {σ : Mem} (hf : f_X12_isOpen  σ = some (r0, σ0)) : CTi l D ca ad A yX12_isOpen wsX12_isOpen rm_X12_isOpen [.ref (ad 120)] σ r0 σ0 := by
  refine ct_i (cc := cX12_isOpen) (own := RX12) (maxL := 1) (ret := (some .boolean)) (lv0 := [some (.ref (ad 120))]) (by decide) rfl rfl rfl (Nat.le_of_ble_eq_true rfl) ?_
  intro p e s m below meth c C hr hlk hnm
  unfold f_X12_isOpen at hf
  refine g_aload_n (i := 0) C dX12_isOpen_0 rfl rfl ?_
  refine gg_X12_s (i := 1) C hiX12_isOpen_X12 rfl dX12_isOpen_1 ?_
  refine g_iconst C dX12_isOpen_4 ?_
  refine g_iaload (N := 39) (j := 0) C (by decide) dX12_isOpen_5 (by decide) (by decide) ?_
  refine g_if_le (tgt := 13) C dX12_isOpen_6 (by decide) rfl (fun c1 => ?_) (fun c1 => ?_)
  · have hf := if_t c1 hf
    refine g_iconst C dX12_isOpen_13 ?_
    obtain ⟨e1, e2⟩ := some_inv hf
    exact g_zret C hr hlk (by decide) e1 e2 dX12_isOpen_14
  · have hf := if_f c1 hf
    refine g_iconst C dX12_isOpen_9 ?_
    refine g_goto (tgt := 14) C dX12_isOpen_10 (by decide) ?_
    obtain ⟨e1, e2⟩ := some_inv hf
    exact g_zret C hr hlk (by decide) e1 e2 dX12_isOpen_14
/-! X12_isShelf -/
abbrev rm_X12_isShelf : Room := { frames := 1, cells := 0, slots := 0, locals := 25 }
set_option maxHeartbeats 4000000 in
set_option maxRecDepth 100000 in
theorem c_X12_isShelf {v0 : Int} {σ : Mem} (hf : f_X12_isShelf v0 σ = some (r0, σ0)) : CTi l D ca ad A yX12_isShelf wsX12_isShelf rm_X12_isShelf [.int (iI v0)] σ r0 σ0 := by
  refine ct_i (cc := cX12_isShelf) (own := RX12) (maxL := 1) (ret := (some .boolean)) (lv0 := [some (.int (iI v0))]) (by decide) rfl rfl rfl (Nat.le_of_ble_eq_true rfl) ?_
  intro p e s m below meth c C hr hlk hnm
  unfold f_X12_isShelf at hf
  refine g_iload_n (i := 0) C dX12_isShelf_0 rfl rfl ?_
  refine g_i2l C dX12_isShelf_1 rfl ?_
  refine g_lconst (z := 0) C dX12_isShelf_2 (by decide) ?_
  refine g_ldc2 (i := 1) (z := 7) C dX12_isShelf_3 rfl (by decide) ?_
  obtain ⟨r2, σ1, h3, hf⟩ := ob_inv hf
  refine g_callSi C (c_X12_isIn  h3) (va_cwS 3 C.2.2.2.2.1 gX12_isShelf_X12_isIn rfl rfl rfl (by decide +kernel) ⟨Nat.le_of_ble_eq_true rfl, Nat.le_of_ble_eq_true rfl⟩) rfl rfl (Nat.le_of_ble_eq_true rfl) dX12_isShelf_6 ⟨Nat.zero_le _, Nat.zero_le _⟩ ?_
  obtain ⟨hz4, hf⟩ := if_inv hf
  obtain ⟨e1, e2⟩ := some_inv hf
  exact g_zret C hr hlk hz4 e1 e2 dX12_isShelf_9
/-! X12_becomes -/
abbrev rm_X12_becomes : Room := { frames := 0, cells := 0, slots := 0, locals := 0 }
theorem hiX12_becomes_X12 : ∀ w ∈ u_ws RX12 TX12 24, w ∈ wsX12_becomes := fun _ h => (List.mem_cons_of_mem _ (List.mem_append_right _ h))
set_option maxHeartbeats 4000000 in
set_option maxRecDepth 100000 in
theorem c_X12_becomes {v1 v2 : Int} {σ : Mem} (hf : f_X12_becomes v1 v2 σ = some (r0, σ0)) : CTi l D ca ad A yX12_becomes wsX12_becomes rm_X12_becomes [.ref (ad 120), .int (iI v1), .int (iI v2)] σ r0 σ0 := by
  refine ct_i (cc := cX12_becomes) (own := RX12) (maxL := 4) (ret := (some .int)) (lv0 := [some (.ref (ad 120)), some (.int (iI v1)), some (.int (iI v2)), none]) (by decide) rfl rfl rfl (Nat.le_of_ble_eq_true rfl) ?_
  intro p e s m below meth c C hr hlk hnm
  unfold f_X12_becomes at hf
  refine g_aload_n (i := 0) C dX12_becomes_0 rfl rfl ?_
  refine gg_X12_s (i := 1) C hiX12_becomes_X12 rfl dX12_becomes_1 ?_
  refine g_iload_n (i := 1) C dX12_becomes_4 rfl rfl ?_
  obtain ⟨hb1, hf⟩ := if_inv hf
  refine g_iaload (N := 39) C (by decide) dX12_becomes_5 rfl hb1 ?_
  refine g_istore_n (i := 3) C dX12_becomes_6 rfl (by decide) rfl ?_
  refine g_aload_n (i := 0) C dX12_becomes_7 rfl rfl ?_
  refine gg_X12_s (i := 1) C hiX12_becomes_X12 rfl dX12_becomes_8 ?_
  refine g_iload_n (i := 1) C dX12_becomes_11 rfl rfl ?_
  refine g_iload_n (i := 2) C dX12_becomes_12 rfl rfl ?_
  refine g_iastore (N := 39) C (by decide) dX12_becomes_13 rfl hb1 ?_
  refine g_iload_n (i := 3) C dX12_becomes_14 rfl rfl ?_
  obtain ⟨e1, e2⟩ := some_inv hf
  exact g_iret C hr hlk e1 e2 dX12_becomes_15
/-! X12_sign -/
abbrev rm_X12_sign : Room := { frames := 0, cells := 0, slots := 0, locals := 0 }
theorem hiX12_sign_X12 : ∀ w ∈ u_ws RX12 TX12 24, w ∈ wsX12_sign := fun _ h => (List.mem_cons_of_mem _ (List.mem_append_right _ h))
set_option maxHeartbeats 4000000 in
set_option maxRecDepth 100000 in
theorem c_X12_sign {σ : Mem} (hf : f_X12_sign  σ = some (r0, σ0)) : CTi l D ca ad A yX12_sign wsX12_sign rm_X12_sign [.ref (ad 120)] σ r0 σ0 := by
  refine ct_i (cc := cX12_sign) (own := RX12) (maxL := 1) (ret := (some .int)) (lv0 := [some (.ref (ad 120))]) (by decide) rfl rfl rfl (Nat.le_of_ble_eq_true rfl) ?_
  intro p e s m below meth c C hr hlk hnm
  unfold f_X12_sign at hf
  refine g_aload_n (i := 0) C dX12_sign_0 rfl rfl ?_
  refine gg_X12_pos (i := 1) C hiX12_sign_X12 rfl dX12_sign_1 ?_
  refine g_aload_n (i := 0) C dX12_sign_4 rfl rfl ?_
  refine gg_X12_end (i := 2) C hiX12_sign_X12 rfl dX12_sign_5 ?_
  refine g_icmp_ge (tgt := 28) C dX12_sign_8 (by decide) rfl rfl (fun c1 => ?_) (fun c1 => ?_)
  · have hf := if_t c1 hf
    refine g_sipush C dX12_sign_28 (by decide) ?_
    obtain ⟨e1, e2⟩ := some_inv hf
    exact g_iret C hr hlk e1 e2 dX12_sign_31
  · have hf := if_f c1 hf
    refine g_aload_n (i := 0) C dX12_sign_11 rfl rfl ?_
    refine gg_X12_element (i := 3) C hiX12_sign_X12 rfl dX12_sign_12 ?_
    refine g_aload_n (i := 0) C dX12_sign_15 rfl rfl ?_
    refine gg_X12_base (i := 4) C hiX12_sign_X12 rfl dX12_sign_16 ?_
    refine g_aload_n (i := 0) C dX12_sign_19 rfl rfl ?_
    refine gg_X12_pos (i := 1) C hiX12_sign_X12 rfl dX12_sign_20 ?_
    refine g_iadd C dX12_sign_23 ?_
    obtain ⟨hb2, hf⟩ := if_inv hf
    refine g_iaload (N := 960) C (by decide) dX12_sign_24 rfl hb2 ?_
    refine g_goto (tgt := 31) C dX12_sign_25 (by decide) ?_
    obtain ⟨e1, e2⟩ := some_inv hf
    exact g_iret C hr hlk e1 e2 dX12_sign_31
/-! X12_takes -/
abbrev rm_X12_takes : Room := { frames := 1, cells := 0, slots := 0, locals := 20 }
theorem hiX12_takes_X12 : ∀ w ∈ u_ws RX12 TX12 24, w ∈ wsX12_takes := fun _ h => (List.mem_cons_of_mem _ (List.mem_append_right _ h))
set_option maxHeartbeats 4000000 in
set_option maxRecDepth 100000 in
theorem c_X12_takes {v1 : Int} {σ : Mem} (hf : f_X12_takes v1 σ = some (r0, σ0)) : CTi l D ca ad A yX12_takes wsX12_takes rm_X12_takes [.ref (ad 120), .int (iI v1)] σ r0 σ0 := by
  refine ct_i (cc := cX12_takes) (own := RX12) (maxL := 2) (ret := (some .boolean)) (lv0 := [some (.ref (ad 120)), some (.int (iI v1))]) (by decide) rfl rfl rfl (Nat.le_of_ble_eq_true rfl) ?_
  intro p e s m below meth c C hr hlk hnm
  unfold f_X12_takes at hf
  refine g_aload_n (i := 0) C dX12_takes_0 rfl rfl ?_
  obtain ⟨r2, σ1, h3, hf⟩ := ob_inv hf
  refine g_callVi C (c_X12_sign  h3) (cwV 0 C.2.2.2.2.1 gX12_takes_X12_sign rfl rfl rfl (by decide +kernel) ⟨Nat.le_of_ble_eq_true rfl, Nat.le_of_ble_eq_true rfl⟩) ob_X12 rfl rfl rfl rfl (Nat.le_of_ble_eq_true rfl) dX12_takes_1 ⟨Nat.zero_le _, Nat.zero_le _⟩ ?_
  refine g_iload_n (i := 1) C dX12_takes_4 rfl rfl ?_
  refine g_icmp_eq (tgt := 10) C dX12_takes_5 (by decide) rfl rfl (fun c4 => ?_) (fun c4 => ?_)
  · have hf := if_t c4 hf
    refine g_aload_n (i := 0) C dX12_takes_10 rfl rfl ?_
    refine g_dup C dX12_takes_11 rfl ?_
    refine gg_X12_pos (i := 1) C hiX12_takes_X12 rfl dX12_takes_12 ?_
    refine g_iconst C dX12_takes_15 ?_
    refine g_iadd C dX12_takes_16 ?_
    refine gp_X12_pos (i := 1) C hiX12_takes_X12 rfl dX12_takes_17 ?_
    refine g_iconst C dX12_takes_20 ?_
    obtain ⟨e1, e2⟩ := some_inv hf
    exact g_zret C hr hlk (by decide) e1 e2 dX12_takes_21
  · have hf := if_f c4 hf
    refine g_iconst C dX12_takes_8 ?_
    obtain ⟨e1, e2⟩ := some_inv hf
    exact g_zret C hr hlk (by decide) e1 e2 dX12_takes_9
/-! X12_readsNumber -/
abbrev rm_X12_readsNumber : Room := { frames := 1, cells := 0, slots := 0, locals := 25 }
theorem hiX12_readsNumber_X12 : ∀ w ∈ u_ws RX12 TX12 24, w ∈ wsX12_readsNumber := fun _ h => (List.mem_cons_of_mem _ (List.mem_append_right _ h))
set_option maxHeartbeats 4000000 in
set_option maxRecDepth 100000 in
theorem it_X12_readsNumber_42 (C : Cx p s m args c cX12_readsNumber 2 RX12 wsX12_readsNumber D ca A) (hr : meth.sig.returnType = (some .boolean)) (hlk : meth.locks = false) {o : (Int × Mem) ⊕ (Mem)} (hc : ∀ (x1 : Int) (σ : Mem), o = .inl (x1, σ) → G p l e rm_X12_readsNumber s m args below meth c 2 D ca ad A 0 0 (MQ below (Qi D ca ad A r0 σ0) args s 0 0 A) σ 42 [some (.ref (ad 120)), some (.int (iI x1))] []) (he : ∀ (σ : Mem), o = .inr σ → G p l e rm_X12_readsNumber s m args below meth c 2 D ca ad A 0 0 (MQ below (Qi D ca ad A r0 σ0) args s 0 0 A) σ 106 [some (.ref (ad 120)), none] []) {x1 : Int} {σ : Mem} (hf : f_X12_readsNumber_42  x1 σ = some o) : G p l e rm_X12_readsNumber s m args below meth c 2 D ca ad A 0 0 (MQ below (Qi D ca ad A r0 σ0) args s 0 0 A) σ 42 [some (.ref (ad 120)), some (.int (iI x1))] [] := by
  unfold f_X12_readsNumber_42 at hf
  refine g_iload_n (i := 1) C dX12_readsNumber_42 rfl rfl ?_
  refine g_iconst C dX12_readsNumber_43 ?_
  refine g_icmp_ge (b' := 3) (tgt := 106) C dX12_readsNumber_44 (by decide) rfl (by decide) (fun c13 => ?_) (fun c13 => ?_)
  · have hf := if_t c13 hf
    exact g_mask [true, false] (he _ (Option.some.inj hf).symm)
  · have hf := if_f c13 hf
    refine g_aload_n (i := 0) C dX12_readsNumber_47 rfl rfl ?_
    refine gg_X12_number (i := 3) C hiX12_readsNumber_X12 rfl dX12_readsNumber_48 ?_
    refine g_if_le (tgt := 106) C dX12_readsNumber_51 (by decide) rfl (fun c14 => ?_) (fun c14 => ?_)
    · have hf := if_t c14 hf
      exact g_mask [true, false] (he _ (Option.some.inj hf).symm)
    · have hf := if_f c14 hf
      refine g_aload_n (i := 0) C dX12_readsNumber_54 rfl rfl ?_
      obtain ⟨r16, σ15, h17, hf⟩ := ob_inv hf
      refine g_callVi C (c_X12_sign  h17) (cwV 0 C.2.2.2.2.1 gX12_readsNumber_X12_sign rfl rfl rfl (by decide +kernel) ⟨Nat.le_of_ble_eq_true rfl, Nat.le_of_ble_eq_true rfl⟩) ob_X12 rfl rfl rfl rfl (Nat.le_of_ble_eq_true rfl) dX12_readsNumber_55 ⟨Nat.zero_le _, Nat.zero_le _⟩ ?_
      refine g_i2l C dX12_readsNumber_58 rfl ?_
      refine g_ldc2 (i := 1) (z := 48) C dX12_readsNumber_59 rfl (by decide) ?_
      refine g_ldc2 (i := 2) (z := 57) C dX12_readsNumber_62 rfl (by decide) ?_
      obtain ⟨r19, σ18, h20, hf⟩ := ob_inv hf
      refine g_callSi C (c_X12_isIn  h20) (va_cwS 3 C.2.2.2.2.1 gX12_readsNumber_X12_isIn rfl rfl rfl (by decide +kernel) ⟨Nat.le_of_ble_eq_true rfl, Nat.le_of_ble_eq_true rfl⟩) rfl rfl (Nat.le_of_ble_eq_true rfl) dX12_readsNumber_65 ⟨Nat.zero_le _, Nat.zero_le _⟩ ?_
      refine g_if_eq (tgt := 106) C dX12_readsNumber_68 (by decide) rfl (fun c21 => ?_) (fun c21 => ?_)
      · have hf := if_t c21 hf
        exact g_mask [true, false] (he _ (Option.some.inj hf).symm)
      · have hf := if_f c21 hf
        refine g_aload_n (i := 0) C dX12_readsNumber_71 rfl rfl ?_
        refine g_bipush C dX12_readsNumber_72 (by decide) ?_
        refine g_aload_n (i := 0) C dX12_readsNumber_74 rfl rfl ?_
        refine gg_X12_number (i := 3) C hiX12_readsNumber_X12 rfl dX12_readsNumber_75 ?_
        refine g_imul C dX12_readsNumber_78 ?_
        refine g_aload_n (i := 0) C dX12_readsNumber_79 rfl rfl ?_
        obtain ⟨r23, σ22, h24, hf⟩ := ob_inv hf
        refine g_callVi C (c_X12_sign  h24) (cwV 0 C.2.2.2.2.1 gX12_readsNumber_X12_sign rfl rfl rfl (by decide +kernel) ⟨Nat.le_of_ble_eq_true rfl, Nat.le_of_ble_eq_true rfl⟩) ob_X12 rfl rfl rfl rfl (Nat.le_of_ble_eq_true rfl) dX12_readsNumber_80 ⟨Nat.zero_le _, Nat.zero_le _⟩ ?_
        refine g_iadd C dX12_readsNumber_83 ?_
        refine g_bipush C dX12_readsNumber_84 (by decide) ?_
        refine g_isub C dX12_readsNumber_86 ?_
        refine gp_X12_number (i := 3) C hiX12_readsNumber_X12 rfl dX12_readsNumber_87 ?_
        refine g_aload_n (i := 0) C dX12_readsNumber_90 rfl rfl ?_
        refine g_dup C dX12_readsNumber_91 rfl ?_
        refine gg_X12_pos (i := 4) C hiX12_readsNumber_X12 rfl dX12_readsNumber_92 ?_
        refine g_iconst C dX12_readsNumber_95 ?_
        refine g_iadd C dX12_readsNumber_96 ?_
        refine gp_X12_pos (i := 4) C hiX12_readsNumber_X12 rfl dX12_readsNumber_97 ?_
        refine g_iinc C dX12_readsNumber_100 rfl (by decide) rfl ?_
        refine g_goto (tgt := 42) C dX12_readsNumber_103 (by decide) ?_
        exact g_mask [true, true] (hc _ _ (Option.some.inj hf).symm)
set_option maxHeartbeats 4000000 in
set_option maxRecDepth 100000 in
theorem w_X12_readsNumber_42 (C : Cx p s m args c cX12_readsNumber 2 RX12 wsX12_readsNumber D ca A) (hr : meth.sig.returnType = (some .boolean)) (hlk : meth.locks = false) {n : Nat} {x1 : Int} {σ : Mem} {b : (Mem)} (h : itr (fun z : Int × Mem => f_X12_readsNumber_42  z.1 z.2) n (x1, σ) = some b) (he : ∀ (σ : Mem), b = σ → G p l e rm_X12_readsNumber s m args below meth c 2 D ca ad A 0 0 (MQ below (Qi D ca ad A r0 σ0) args s 0 0 A) σ 106 [some (.ref (ad 120)), none] []) : G p l e rm_X12_readsNumber s m args below meth c 2 D ca ad A 0 0 (MQ below (Qi D ca ad A r0 σ0) args s 0 0 A) σ 42 [some (.ref (ad 120)), some (.int (iI x1))] [] :=
  itr_rule (P := fun z : Int × Mem => G p l e rm_X12_readsNumber s m args below meth c 2 D ca ad A 0 0 (MQ below (Qi D ca ad A r0 σ0) args s 0 0 A) z.2 42 [some (.ref (ad 120)), some (.int (iI z.1))] []) (E := fun b => ∀ (σ : Mem), b = σ → G p l e rm_X12_readsNumber s m args below meth c 2 D ca ad A 0 0 (MQ below (Qi D ca ad A r0 σ0) args s 0 0 A) σ 106 [some (.ref (ad 120)), none] []) (fun z o hb hc he => it_X12_readsNumber_42 C hr hlk (fun _ _ e => hc _ e) (fun _ e => (he _ e) _ rfl) hb) n _ _ h he
set_option maxHeartbeats 4000000 in
set_option maxRecDepth 100000 in
theorem c_X12_readsNumber {σ : Mem} (hf : f_X12_readsNumber  σ = some (r0, σ0)) : CTi l D ca ad A yX12_readsNumber wsX12_readsNumber rm_X12_readsNumber [.ref (ad 120)] σ r0 σ0 := by
  refine ct_i (cc := cX12_readsNumber) (own := RX12) (maxL := 2) (ret := (some .boolean)) (lv0 := [some (.ref (ad 120)), none]) (by decide) rfl rfl rfl (Nat.le_of_ble_eq_true rfl) ?_
  intro p e s m below meth c C hr hlk hnm
  unfold f_X12_readsNumber at hf
  refine g_aload_n (i := 0) C dX12_readsNumber_0 rfl rfl ?_
  obtain ⟨r2, σ1, h3, hf⟩ := ob_inv hf
  refine g_callVi C (c_X12_sign  h3) (cwV 0 C.2.2.2.2.1 gX12_readsNumber_X12_sign rfl rfl rfl (by decide +kernel) ⟨Nat.le_of_ble_eq_true rfl, Nat.le_of_ble_eq_true rfl⟩) ob_X12 rfl rfl rfl rfl (Nat.le_of_ble_eq_true rfl) dX12_readsNumber_1 ⟨Nat.zero_le _, Nat.zero_le _⟩ ?_
  refine g_i2l C dX12_readsNumber_4 rfl ?_
  refine g_ldc2 (i := 1) (z := 48) C dX12_readsNumber_5 rfl (by decide) ?_
  refine g_ldc2 (i := 2) (z := 57) C dX12_readsNumber_8 rfl (by decide) ?_
  obtain ⟨r5, σ4, h6, hf⟩ := ob_inv hf
  refine g_callSi C (c_X12_isIn  h6) (va_cwS 3 C.2.2.2.2.1 gX12_readsNumber_X12_isIn rfl rfl rfl (by decide +kernel) ⟨Nat.le_of_ble_eq_true rfl, Nat.le_of_ble_eq_true rfl⟩) rfl rfl (Nat.le_of_ble_eq_true rfl) dX12_readsNumber_11 ⟨Nat.zero_le _, Nat.zero_le _⟩ ?_
  refine g_if_ne (tgt := 19) C dX12_readsNumber_14 (by decide) rfl (fun c7 => ?_) (fun c7 => ?_)
  · have hf := if_f c7 hf
    refine g_aload_n (i := 0) C dX12_readsNumber_19 rfl rfl ?_
    refine g_aload_n (i := 0) C dX12_readsNumber_20 rfl rfl ?_
    obtain ⟨r9, σ8, h10, hf⟩ := ob_inv hf
    refine g_callVi C (c_X12_sign  h10) (cwV 0 C.2.2.2.2.1 gX12_readsNumber_X12_sign rfl rfl rfl (by decide +kernel) ⟨Nat.le_of_ble_eq_true rfl, Nat.le_of_ble_eq_true rfl⟩) ob_X12 rfl rfl rfl rfl (Nat.le_of_ble_eq_true rfl) dX12_readsNumber_21 ⟨Nat.zero_le _, Nat.zero_le _⟩ ?_
    refine g_bipush C dX12_readsNumber_24 (by decide) ?_
    refine g_isub C dX12_readsNumber_26 ?_
    refine gp_X12_number (i := 3) C hiX12_readsNumber_X12 rfl dX12_readsNumber_27 ?_
    refine g_aload_n (i := 0) C dX12_readsNumber_30 rfl rfl ?_
    refine g_dup C dX12_readsNumber_31 rfl ?_
    refine gg_X12_pos (i := 4) C hiX12_readsNumber_X12 rfl dX12_readsNumber_32 ?_
    refine g_iconst C dX12_readsNumber_35 ?_
    refine g_iadd C dX12_readsNumber_36 ?_
    refine gp_X12_pos (i := 4) C hiX12_readsNumber_X12 rfl dX12_readsNumber_37 ?_
    refine g_iconst C dX12_readsNumber_40 ?_
    refine g_istore_n (i := 1) C dX12_readsNumber_41 rfl (by decide) rfl ?_
    obtain ⟨q27, hl28, hf⟩ := lb_inv hf
    refine g_mask [true, true] (w_X12_readsNumber_42 C hr hlk hl28 ?_)
    · rintro σ29 rfl
      refine g_aload_n (i := 0) C dX12_readsNumber_106 rfl rfl ?_
      refine gg_X12_numbers (i := 5) C hiX12_readsNumber_X12 rfl dX12_readsNumber_107 ?_
      refine g_aload_n (i := 0) C dX12_readsNumber_110 rfl rfl ?_
      refine gg_X12_told (i := 6) C hiX12_readsNumber_X12 rfl dX12_readsNumber_111 ?_
      refine g_aload_n (i := 0) C dX12_readsNumber_114 rfl rfl ?_
      refine gg_X12_number (i := 3) C hiX12_readsNumber_X12 rfl dX12_readsNumber_115 ?_
      obtain ⟨hb30, hf⟩ := if_inv hf
      refine g_iastore (N := 120) C (by decide) dX12_readsNumber_118 rfl hb30 ?_
      refine g_aload_n (i := 0) C dX12_readsNumber_119 rfl rfl ?_
      refine g_dup C dX12_readsNumber_120 rfl ?_
      refine gg_X12_told (i := 6) C hiX12_readsNumber_X12 rfl dX12_readsNumber_121 ?_
      refine g_iconst C dX12_readsNumber_124 ?_
      refine g_iadd C dX12_readsNumber_125 ?_
      refine gp_X12_told (i := 6) C hiX12_readsNumber_X12 rfl dX12_readsNumber_126 ?_
      refine g_iconst C dX12_readsNumber_129 ?_
      obtain ⟨e1, e2⟩ := some_inv hf
      exact g_zret C hr hlk (by decide) e1 e2 dX12_readsNumber_130
  · have hf := if_t c7 hf
    refine g_iconst C dX12_readsNumber_17 ?_
    obtain ⟨e1, e2⟩ := some_inv hf
    exact g_zret C hr hlk (by decide) e1 e2 dX12_readsNumber_18
/-! X12_readsStatement -/
abbrev rm_X12_readsStatement : Room := { frames := 2, cells := 0, slots := 0, locals := 46 }
theorem hiX12_readsStatement_X12 : ∀ w ∈ u_ws RX12 TX12 24, w ∈ wsX12_readsStatement := fun _ h => (List.mem_cons_of_mem _ (List.mem_append_right _ h))
set_option maxHeartbeats 4000000 in
set_option maxRecDepth 100000 in
theorem it_X12_readsStatement_84 (C : Cx p s m args c cX12_readsStatement 4 RX12 wsX12_readsStatement D ca A) (hr : meth.sig.returnType = (some .boolean)) (hlk : meth.locks = false) {p2 p3 : Int} {o : (Mem) ⊕ ((Int × Mem) ⊕ (Mem))} (hc : ∀ (σ : Mem), o = .inl σ → G p l e rm_X12_readsStatement s m args below meth c 4 D ca ad A 0 0 (MQ below (Qi D ca ad A r0 σ0) args s 0 0 A) σ 84 [some (.ref (ad 120)), none, some (.int (iI p2)), some (.int (iI p3))] []) (he1 : ∀ (r1 : Int) (σ1 : Mem), o = .inr (.inl (r1, σ1)) → r1 = r0 ∧ σ1 = σ0) (he2 : ∀ (σ : Mem), o = .inr (.inr σ) → G p l e rm_X12_readsStatement s m args below meth c 4 D ca ad A 0 0 (MQ below (Qi D ca ad A r0 σ0) args s 0 0 A) σ 125 [none, none, none, none] []) {σ : Mem} (hf : f_X12_readsStatement_84 p2 p3  σ = some o) : G p l e rm_X12_readsStatement s m args below meth c 4 D ca ad A 0 0 (MQ below (Qi D ca ad A r0 σ0) args s 0 0 A) σ 84 [some (.ref (ad 120)), none, some (.int (iI p2)), some (.int (iI p3))] [] := by
  unfold f_X12_readsStatement_84 at hf
  refine g_aload_n (i := 0) C dX12_readsStatement_84 rfl rfl ?_
  refine gg_X12_told (i := 1) C hiX12_readsStatement_X12 rfl dX12_readsStatement_85 ?_
  refine g_iload_n (i := 2) C dX12_readsStatement_88 rfl rfl ?_
  refine g_icmp_ge (tgt := 127) C dX12_readsStatement_89 (by decide) rfl rfl (fun c44 => ?_) (fun c44 => ?_)
  · have hf := if_t c44 hf
    refine g_aload_n (i := 0) C dX12_readsStatement_127 rfl rfl ?_
    refine g_bipush C dX12_readsStatement_128 (by decide) ?_
    obtain ⟨r46, σ45, h47, hf⟩ := ob_inv hf
    refine g_callVi C (c_X12_takes  h47) (cwV 1 C.2.2.2.2.1 gX12_readsStatement_X12_takes rfl rfl rfl (by decide +kernel) ⟨Nat.le_of_ble_eq_true rfl, Nat.le_of_ble_eq_true rfl⟩) ob_X12 rfl rfl rfl rfl (Nat.le_of_ble_eq_true rfl) dX12_readsStatement_130 ⟨Nat.zero_le _, Nat.zero_le _⟩ ?_
    obtain ⟨hz48, hf⟩ := if_inv hf
    obtain ⟨e1, e2⟩ := he1 _ _ (Option.some.inj hf).symm
    exact g_zret C hr hlk hz48 e1 e2 dX12_readsStatement_133
  · have hf := if_f c44 hf
    refine g_aload_n (i := 0) C dX12_readsStatement_92 rfl rfl ?_
    refine gg_X12_told (i := 1) C hiX12_readsStatement_X12 rfl dX12_readsStatement_93 ?_
    refine g_iload_n (i := 3) C dX12_readsStatement_96 rfl rfl ?_
    refine g_icmp_lt (tgt := 109) C dX12_readsStatement_97 (by decide) rfl rfl (fun c49 => ?_) (fun c49 => ?_)
    · have hf := if_t c49 hf
      refine g_aload_n (i := 0) C dX12_readsStatement_109 rfl rfl ?_
      refine g_bipush C dX12_readsStatement_110 (by decide) ?_
      obtain ⟨r51, σ50, h52, hf⟩ := ob_inv hf
      refine g_callVi C (c_X12_takes  h52) (cwV 1 C.2.2.2.2.1 gX12_readsStatement_X12_takes rfl rfl rfl (by decide +kernel) ⟨Nat.le_of_ble_eq_true rfl, Nat.le_of_ble_eq_true rfl⟩) ob_X12 rfl rfl rfl rfl (Nat.le_of_ble_eq_true rfl) dX12_readsStatement_112 ⟨Nat.zero_le _, Nat.zero_le _⟩ ?_
      refine g_if_eq (tgt := 125) C dX12_readsStatement_115 (by decide) rfl (fun c53 => ?_) (fun c53 => ?_)
      · have hf := if_t c53 hf
        exact g_mask [false, false, false, false] (he2 _ (Option.some.inj hf).symm)
      · have hf := if_f c53 hf
        refine g_aload_n (i := 0) C dX12_readsStatement_118 rfl rfl ?_
        obtain ⟨r55, σ54, h56, hf⟩ := ob_inv hf
        refine g_callVi C (c_X12_readsNumber  h56) (cwV 0 C.2.2.2.2.1 gX12_readsStatement_X12_readsNumber rfl rfl rfl (by decide +kernel) ⟨Nat.le_of_ble_eq_true rfl, Nat.le_of_ble_eq_true rfl⟩) ob_X12 rfl rfl rfl rfl (Nat.le_of_ble_eq_true rfl) dX12_readsStatement_119 ⟨Nat.zero_le _, Nat.zero_le _⟩ ?_
        refine g_if_ne (tgt := 84) C dX12_readsStatement_122 (by decide) rfl (fun c57 => ?_) (fun c57 => ?_)
        · have hf := if_f c57 hf
          exact g_mask [true, false, true, true] (hc _ (Option.some.inj hf).symm)
        · have hf := if_t c57 hf
          exact g_mask [false, false, false, false] (he2 _ (Option.some.inj hf).symm)
    · have hf := if_f c49 hf
      refine g_aload_n (i := 0) C dX12_readsStatement_100 rfl rfl ?_
      obtain ⟨r59, σ58, h60, hf⟩ := ob_inv hf
      refine g_callVi C (c_X12_sign  h60) (cwV 0 C.2.2.2.2.1 gX12_readsStatement_X12_sign rfl rfl rfl (by decide +kernel) ⟨Nat.le_of_ble_eq_true rfl, Nat.le_of_ble_eq_true rfl⟩) ob_X12 rfl rfl rfl rfl (Nat.le_of_ble_eq_true rfl) dX12_readsStatement_101 ⟨Nat.zero_le _, Nat.zero_le _⟩ ?_
      refine g_bipush C dX12_readsStatement_104 (by decide) ?_
      refine g_icmp_ne (b' := 32) (tgt := 127) C dX12_readsStatement_106 (by decide) rfl (by decide) (fun c61 => ?_) (fun c61 => ?_)
      · have hf := if_f c61 hf
        refine g_aload_n (i := 0) C dX12_readsStatement_127 rfl rfl ?_
        refine g_bipush C dX12_readsStatement_128 (by decide) ?_
        obtain ⟨r63, σ62, h64, hf⟩ := ob_inv hf
        refine g_callVi C (c_X12_takes  h64) (cwV 1 C.2.2.2.2.1 gX12_readsStatement_X12_takes rfl rfl rfl (by decide +kernel) ⟨Nat.le_of_ble_eq_true rfl, Nat.le_of_ble_eq_true rfl⟩) ob_X12 rfl rfl rfl rfl (Nat.le_of_ble_eq_true rfl) dX12_readsStatement_130 ⟨Nat.zero_le _, Nat.zero_le _⟩ ?_
        obtain ⟨hz65, hf⟩ := if_inv hf
        obtain ⟨e1, e2⟩ := he1 _ _ (Option.some.inj hf).symm
        exact g_zret C hr hlk hz65 e1 e2 dX12_readsStatement_133
      · have hf := if_t c61 hf
        refine g_aload_n (i := 0) C dX12_readsStatement_109 rfl rfl ?_
        refine g_bipush C dX12_readsStatement_110 (by decide) ?_
        obtain ⟨r67, σ66, h68, hf⟩ := ob_inv hf
        refine g_callVi C (c_X12_takes  h68) (cwV 1 C.2.2.2.2.1 gX12_readsStatement_X12_takes rfl rfl rfl (by decide +kernel) ⟨Nat.le_of_ble_eq_true rfl, Nat.le_of_ble_eq_true rfl⟩) ob_X12 rfl rfl rfl rfl (Nat.le_of_ble_eq_true rfl) dX12_readsStatement_112 ⟨Nat.zero_le _, Nat.zero_le _⟩ ?_
        refine g_if_eq (tgt := 125) C dX12_readsStatement_115 (by decide) rfl (fun c69 => ?_) (fun c69 => ?_)
        · have hf := if_t c69 hf
          exact g_mask [false, false, false, false] (he2 _ (Option.some.inj hf).symm)
        · have hf := if_f c69 hf
          refine g_aload_n (i := 0) C dX12_readsStatement_118 rfl rfl ?_
          obtain ⟨r71, σ70, h72, hf⟩ := ob_inv hf
          refine g_callVi C (c_X12_readsNumber  h72) (cwV 0 C.2.2.2.2.1 gX12_readsStatement_X12_readsNumber rfl rfl rfl (by decide +kernel) ⟨Nat.le_of_ble_eq_true rfl, Nat.le_of_ble_eq_true rfl⟩) ob_X12 rfl rfl rfl rfl (Nat.le_of_ble_eq_true rfl) dX12_readsStatement_119 ⟨Nat.zero_le _, Nat.zero_le _⟩ ?_
          refine g_if_ne (tgt := 84) C dX12_readsStatement_122 (by decide) rfl (fun c73 => ?_) (fun c73 => ?_)
          · have hf := if_f c73 hf
            exact g_mask [true, false, true, true] (hc _ (Option.some.inj hf).symm)
          · have hf := if_t c73 hf
            exact g_mask [false, false, false, false] (he2 _ (Option.some.inj hf).symm)
set_option maxHeartbeats 4000000 in
set_option maxRecDepth 100000 in
theorem w_X12_readsStatement_84 (C : Cx p s m args c cX12_readsStatement 4 RX12 wsX12_readsStatement D ca A) (hr : meth.sig.returnType = (some .boolean)) (hlk : meth.locks = false) {p2 p3 : Int} {n : Nat} {σ : Mem} {b : ((Int × Mem) ⊕ (Mem))} (h : itr (fun z : Mem => f_X12_readsStatement_84 p2 p3 z) n σ = some b) (he1 : ∀ (r1 : Int) (σ1 : Mem), b = .inl (r1, σ1) → r1 = r0 ∧ σ1 = σ0) (he2 : ∀ (σ : Mem), b = .inr σ → G p l e rm_X12_readsStatement s m args below meth c 4 D ca ad A 0 0 (MQ below (Qi D ca ad A r0 σ0) args s 0 0 A) σ 125 [none, none, none, none] []) : G p l e rm_X12_readsStatement s m args below meth c 4 D ca ad A 0 0 (MQ below (Qi D ca ad A r0 σ0) args s 0 0 A) σ 84 [some (.ref (ad 120)), none, some (.int (iI p2)), some (.int (iI p3))] [] :=
  itr_rule (P := fun z : Mem => G p l e rm_X12_readsStatement s m args below meth c 4 D ca ad A 0 0 (MQ below (Qi D ca ad A r0 σ0) args s 0 0 A) z 84 [some (.ref (ad 120)), none, some (.int (iI p2)), some (.int (iI p3))] []) (E := fun b => (∀ (r1 : Int) (σ1 : Mem), b = .inl (r1, σ1) → r1 = r0 ∧ σ1 = σ0) ∧ (∀ (σ : Mem), b = .inr σ → G p l e rm_X12_readsStatement s m args below meth c 4 D ca ad A 0 0 (MQ below (Qi D ca ad A r0 σ0) args s 0 0 A) σ 125 [none, none, none, none] [])) (fun z o hb hc he => it_X12_readsStatement_84 C hr hlk (fun _ e => hc _ e) (fun r1 σ1 e => (he _ e).1 r1 σ1 rfl) (fun _ e => (he _ e).2 _ rfl) hb) n _ _ h ⟨he1, he2⟩
set_option maxHeartbeats 4000000 in
set_option maxRecDepth 100000 in
theorem c_X12_readsStatement {σ : Mem} (hf : f_X12_readsStatement  σ = some (r0, σ0)) : CTi l D ca ad A yX12_readsStatement wsX12_readsStatement rm_X12_readsStatement [.ref (ad 120)] σ r0 σ0 := by
  refine ct_i (cc := cX12_readsStatement) (own := RX12) (maxL := 4) (ret := (some .boolean)) (lv0 := [some (.ref (ad 120)), none, none, none]) (by decide) rfl rfl rfl (Nat.le_of_ble_eq_true rfl) ?_
  intro p e s m below meth c C hr hlk hnm
  unfold f_X12_readsStatement at hf
  refine g_aload_n (i := 0) C dX12_readsStatement_0 rfl rfl ?_
  obtain ⟨r2, σ1, h3, hf⟩ := ob_inv hf
  refine g_callVi C (c_X12_sign  h3) (cwV 0 C.2.2.2.2.1 gX12_readsStatement_X12_sign rfl rfl rfl (by decide +kernel) ⟨Nat.le_of_ble_eq_true rfl, Nat.le_of_ble_eq_true rfl⟩) ob_X12 rfl rfl rfl rfl (Nat.le_of_ble_eq_true rfl) dX12_readsStatement_1 ⟨Nat.zero_le _, Nat.zero_le _⟩ ?_
  refine g_istore_n (i := 1) C dX12_readsStatement_4 rfl (by decide) rfl ?_
  refine g_aload_n (i := 0) C dX12_readsStatement_5 rfl rfl ?_
  refine g_iconst C dX12_readsStatement_6 ?_
  refine gp_X12_told (i := 1) C hiX12_readsStatement_X12 rfl dX12_readsStatement_7 ?_
  refine g_iload_n (i := 1) C dX12_readsStatement_10 rfl rfl ?_
  refine g_bipush C dX12_readsStatement_11 (by decide) ?_
  refine g_icmp_eq (b' := 115) (tgt := 30) C dX12_readsStatement_13 (by decide) rfl (by decide) (fun c5 => ?_) (fun c5 => ?_)
  · have hf := if_t c5 hf
    refine g_aload_n (i := 0) C dX12_readsStatement_30 rfl rfl ?_
    refine g_dup C dX12_readsStatement_31 rfl ?_
    refine gg_X12_pos (i := 2) C hiX12_readsStatement_X12 rfl dX12_readsStatement_32 ?_
    refine g_iconst C dX12_readsStatement_35 ?_
    refine g_iadd C dX12_readsStatement_36 ?_
    refine gp_X12_pos (i := 2) C hiX12_readsStatement_X12 rfl dX12_readsStatement_37 ?_
    refine g_aload_n (i := 0) C dX12_readsStatement_40 rfl rfl ?_
    obtain ⟨r8, σ7, h9, hf⟩ := ob_inv hf
    refine g_callVi C (c_X12_readsNumber  h9) (cwV 0 C.2.2.2.2.1 gX12_readsStatement_X12_readsNumber rfl rfl rfl (by decide +kernel) ⟨Nat.le_of_ble_eq_true rfl, Nat.le_of_ble_eq_true rfl⟩) ob_X12 rfl rfl rfl rfl (Nat.le_of_ble_eq_true rfl) dX12_readsStatement_41 ⟨Nat.zero_le _, Nat.zero_le _⟩ ?_
    refine g_if_ne (tgt := 49) C dX12_readsStatement_44 (by decide) rfl (fun c10 => ?_) (fun c10 => ?_)
    · have hf := if_f c10 hf
      refine g_iload_n (i := 1) C dX12_readsStatement_49 rfl rfl ?_
      refine g_bipush C dX12_readsStatement_50 (by decide) ?_
      refine g_icmp_ne (b' := 115) (tgt := 59) C dX12_readsStatement_52 (by decide) rfl (by decide) (fun c11 => ?_) (fun c11 => ?_)
      · have hf := if_f c11 hf
        refine g_iload_n (i := 1) C dX12_readsStatement_59 rfl rfl ?_
        refine g_bipush C dX12_readsStatement_60 (by decide) ?_
        refine g_icmp_ne (b' := 116) (tgt := 69) C dX12_readsStatement_62 (by decide) rfl (by decide) (fun c12 => ?_) (fun c12 => ?_)
        · have hf := if_f c12 hf
          refine g_bipush C dX12_readsStatement_69 (by decide) ?_
          refine g_istore_n (i := 2) C dX12_readsStatement_71 rfl (by decide) rfl ?_
          refine g_iload_n (i := 1) C dX12_readsStatement_72 rfl rfl ?_
          refine g_bipush C dX12_readsStatement_73 (by decide) ?_
          refine g_icmp_ne (b' := 109) (tgt := 82) C dX12_readsStatement_75 (by decide) rfl (by decide) (fun c13 => ?_) (fun c13 => ?_)
          · have hf := if_f c13 hf
            refine g_iload_n (i := 2) C dX12_readsStatement_82 rfl rfl ?_
            refine g_istore_n (i := 3) C dX12_readsStatement_83 rfl (by decide) rfl ?_
            obtain ⟨q74, hl75, hf⟩ := lb_inv hf
            refine g_mask [true, false, true, true] (w_X12_readsStatement_84 C hr hlk hl75 ?_ ?_)
            · rintro r1 σ1 rfl
              exact some_inv hf
            · rintro σ76 rfl
              have hf := se_r hf
              refine g_iconst C dX12_readsStatement_125 ?_
              obtain ⟨e1, e2⟩ := some_inv hf
              exact g_zret C hr hlk (by decide) e1 e2 dX12_readsStatement_126
          · have hf := if_t c13 hf
            refine g_iconst C dX12_readsStatement_78 ?_
            refine g_goto (tgt := 83) C dX12_readsStatement_79 (by decide) ?_
            refine g_istore_n (i := 3) C dX12_readsStatement_83 rfl (by decide) rfl ?_
            obtain ⟨q78, hl79, hf⟩ := lb_inv hf
            refine g_mask [true, false, true, true] (w_X12_readsStatement_84 C hr hlk hl79 ?_ ?_)
            · rintro r1 σ1 rfl
              exact some_inv hf
            · rintro σ80 rfl
              have hf := se_r hf
              refine g_iconst C dX12_readsStatement_125 ?_
              obtain ⟨e1, e2⟩ := some_inv hf
              exact g_zret C hr hlk (by decide) e1 e2 dX12_readsStatement_126
        · have hf := if_t c12 hf
          refine g_iconst C dX12_readsStatement_65 ?_
          refine g_goto (tgt := 71) C dX12_readsStatement_66 (by decide) ?_
          refine g_istore_n (i := 2) C dX12_readsStatement_71 rfl (by decide) rfl ?_
          refine g_iload_n (i := 1) C dX12_readsStatement_72 rfl rfl ?_
          refine g_bipush C dX12_readsStatement_73 (by decide) ?_
          refine g_icmp_ne (b' := 109) (tgt := 82) C dX12_readsStatement_75 (by decide) rfl (by decide) (fun c82 => ?_) (fun c82 => ?_)
          · have hf := if_f c82 hf
            refine g_iload_n (i := 2) C dX12_readsStatement_82 rfl rfl ?_
            refine g_istore_n (i := 3) C dX12_readsStatement_83 rfl (by decide) rfl ?_
            obtain ⟨q83, hl84, hf⟩ := lb_inv hf
            refine g_mask [true, false, true, true] (w_X12_readsStatement_84 C hr hlk hl84 ?_ ?_)
            · rintro r1 σ1 rfl
              exact some_inv hf
            · rintro σ85 rfl
              have hf := se_r hf
              refine g_iconst C dX12_readsStatement_125 ?_
              obtain ⟨e1, e2⟩ := some_inv hf
              exact g_zret C hr hlk (by decide) e1 e2 dX12_readsStatement_126
          · have hf := if_t c82 hf
            refine g_iconst C dX12_readsStatement_78 ?_
            refine g_goto (tgt := 83) C dX12_readsStatement_79 (by decide) ?_
            refine g_istore_n (i := 3) C dX12_readsStatement_83 rfl (by decide) rfl ?_
            obtain ⟨q87, hl88, hf⟩ := lb_inv hf
            refine g_mask [true, false, true, true] (w_X12_readsStatement_84 C hr hlk hl88 ?_ ?_)
            · rintro r1 σ1 rfl
              exact some_inv hf
            · rintro σ89 rfl
              have hf := se_r hf
              refine g_iconst C dX12_readsStatement_125 ?_
              obtain ⟨e1, e2⟩ := some_inv hf
              exact g_zret C hr hlk (by decide) e1 e2 dX12_readsStatement_126
      · have hf := if_t c11 hf
        refine g_iconst C dX12_readsStatement_55 ?_
        refine g_goto (tgt := 71) C dX12_readsStatement_56 (by decide) ?_
        refine g_istore_n (i := 2) C dX12_readsStatement_71 rfl (by decide) rfl ?_
        refine g_iload_n (i := 1) C dX12_readsStatement_72 rfl rfl ?_
        refine g_bipush C dX12_readsStatement_73 (by decide) ?_
        refine g_icmp_ne (b' := 109) (tgt := 82) C dX12_readsStatement_75 (by decide) rfl (by decide) (fun c91 => ?_) (fun c91 => ?_)
        · have hf := if_f c91 hf
          refine g_iload_n (i := 2) C dX12_readsStatement_82 rfl rfl ?_
          refine g_istore_n (i := 3) C dX12_readsStatement_83 rfl (by decide) rfl ?_
          obtain ⟨q92, hl93, hf⟩ := lb_inv hf
          refine g_mask [true, false, true, true] (w_X12_readsStatement_84 C hr hlk hl93 ?_ ?_)
          · rintro r1 σ1 rfl
            exact some_inv hf
          · rintro σ94 rfl
            have hf := se_r hf
            refine g_iconst C dX12_readsStatement_125 ?_
            obtain ⟨e1, e2⟩ := some_inv hf
            exact g_zret C hr hlk (by decide) e1 e2 dX12_readsStatement_126
        · have hf := if_t c91 hf
          refine g_iconst C dX12_readsStatement_78 ?_
          refine g_goto (tgt := 83) C dX12_readsStatement_79 (by decide) ?_
          refine g_istore_n (i := 3) C dX12_readsStatement_83 rfl (by decide) rfl ?_
          obtain ⟨q96, hl97, hf⟩ := lb_inv hf
          refine g_mask [true, false, true, true] (w_X12_readsStatement_84 C hr hlk hl97 ?_ ?_)
          · rintro r1 σ1 rfl
            exact some_inv hf
          · rintro σ98 rfl
            have hf := se_r hf
            refine g_iconst C dX12_readsStatement_125 ?_
            obtain ⟨e1, e2⟩ := some_inv hf
            exact g_zret C hr hlk (by decide) e1 e2 dX12_readsStatement_126
    · have hf := if_t c10 hf
      refine g_iconst C dX12_readsStatement_47 ?_
      obtain ⟨e1, e2⟩ := some_inv hf
      exact g_zret C hr hlk (by decide) e1 e2 dX12_readsStatement_48
  · have hf := if_f c5 hf
    refine g_iload_n (i := 1) C dX12_readsStatement_16 rfl rfl ?_
    refine g_bipush C dX12_readsStatement_17 (by decide) ?_
    refine g_icmp_eq (b' := 109) (tgt := 30) C dX12_readsStatement_19 (by decide) rfl (by decide) (fun c100 => ?_) (fun c100 => ?_)
    · have hf := if_t c100 hf
      refine g_aload_n (i := 0) C dX12_readsStatement_30 rfl rfl ?_
      refine g_dup C dX12_readsStatement_31 rfl ?_
      refine gg_X12_pos (i := 2) C hiX12_readsStatement_X12 rfl dX12_readsStatement_32 ?_
      refine g_iconst C dX12_readsStatement_35 ?_
      refine g_iadd C dX12_readsStatement_36 ?_
      refine gp_X12_pos (i := 2) C hiX12_readsStatement_X12 rfl dX12_readsStatement_37 ?_
      refine g_aload_n (i := 0) C dX12_readsStatement_40 rfl rfl ?_
      obtain ⟨r103, σ102, h104, hf⟩ := ob_inv hf
      refine g_callVi C (c_X12_readsNumber  h104) (cwV 0 C.2.2.2.2.1 gX12_readsStatement_X12_readsNumber rfl rfl rfl (by decide +kernel) ⟨Nat.le_of_ble_eq_true rfl, Nat.le_of_ble_eq_true rfl⟩) ob_X12 rfl rfl rfl rfl (Nat.le_of_ble_eq_true rfl) dX12_readsStatement_41 ⟨Nat.zero_le _, Nat.zero_le _⟩ ?_
      refine g_if_ne (tgt := 49) C dX12_readsStatement_44 (by decide) rfl (fun c105 => ?_) (fun c105 => ?_)
      · have hf := if_f c105 hf
        refine g_iload_n (i := 1) C dX12_readsStatement_49 rfl rfl ?_
        refine g_bipush C dX12_readsStatement_50 (by decide) ?_
        refine g_icmp_ne (b' := 115) (tgt := 59) C dX12_readsStatement_52 (by decide) rfl (by decide) (fun c106 => ?_) (fun c106 => ?_)
        · have hf := if_f c106 hf
          refine g_iload_n (i := 1) C dX12_readsStatement_59 rfl rfl ?_
          refine g_bipush C dX12_readsStatement_60 (by decide) ?_
          refine g_icmp_ne (b' := 116) (tgt := 69) C dX12_readsStatement_62 (by decide) rfl (by decide) (fun c107 => ?_) (fun c107 => ?_)
          · have hf := if_f c107 hf
            refine g_bipush C dX12_readsStatement_69 (by decide) ?_
            refine g_istore_n (i := 2) C dX12_readsStatement_71 rfl (by decide) rfl ?_
            refine g_iload_n (i := 1) C dX12_readsStatement_72 rfl rfl ?_
            refine g_bipush C dX12_readsStatement_73 (by decide) ?_
            refine g_icmp_ne (b' := 109) (tgt := 82) C dX12_readsStatement_75 (by decide) rfl (by decide) (fun c108 => ?_) (fun c108 => ?_)
            · have hf := if_f c108 hf
              refine g_iload_n (i := 2) C dX12_readsStatement_82 rfl rfl ?_
              refine g_istore_n (i := 3) C dX12_readsStatement_83 rfl (by decide) rfl ?_
              obtain ⟨q109, hl110, hf⟩ := lb_inv hf
              refine g_mask [true, false, true, true] (w_X12_readsStatement_84 C hr hlk hl110 ?_ ?_)
              · rintro r1 σ1 rfl
                exact some_inv hf
              · rintro σ111 rfl
                have hf := se_r hf
                refine g_iconst C dX12_readsStatement_125 ?_
                obtain ⟨e1, e2⟩ := some_inv hf
                exact g_zret C hr hlk (by decide) e1 e2 dX12_readsStatement_126
            · have hf := if_t c108 hf
              refine g_iconst C dX12_readsStatement_78 ?_
              refine g_goto (tgt := 83) C dX12_readsStatement_79 (by decide) ?_
              refine g_istore_n (i := 3) C dX12_readsStatement_83 rfl (by decide) rfl ?_
              obtain ⟨q113, hl114, hf⟩ := lb_inv hf
              refine g_mask [true, false, true, true] (w_X12_readsStatement_84 C hr hlk hl114 ?_ ?_)
              · rintro r1 σ1 rfl
                exact some_inv hf
              · rintro σ115 rfl
                have hf := se_r hf
                refine g_iconst C dX12_readsStatement_125 ?_
                obtain ⟨e1, e2⟩ := some_inv hf
                exact g_zret C hr hlk (by decide) e1 e2 dX12_readsStatement_126
          · have hf := if_t c107 hf
            refine g_iconst C dX12_readsStatement_65 ?_
            refine g_goto (tgt := 71) C dX12_readsStatement_66 (by decide) ?_
            refine g_istore_n (i := 2) C dX12_readsStatement_71 rfl (by decide) rfl ?_
            refine g_iload_n (i := 1) C dX12_readsStatement_72 rfl rfl ?_
            refine g_bipush C dX12_readsStatement_73 (by decide) ?_
            refine g_icmp_ne (b' := 109) (tgt := 82) C dX12_readsStatement_75 (by decide) rfl (by decide) (fun c117 => ?_) (fun c117 => ?_)
            · have hf := if_f c117 hf
              refine g_iload_n (i := 2) C dX12_readsStatement_82 rfl rfl ?_
              refine g_istore_n (i := 3) C dX12_readsStatement_83 rfl (by decide) rfl ?_
              obtain ⟨q118, hl119, hf⟩ := lb_inv hf
              refine g_mask [true, false, true, true] (w_X12_readsStatement_84 C hr hlk hl119 ?_ ?_)
              · rintro r1 σ1 rfl
                exact some_inv hf
              · rintro σ120 rfl
                have hf := se_r hf
                refine g_iconst C dX12_readsStatement_125 ?_
                obtain ⟨e1, e2⟩ := some_inv hf
                exact g_zret C hr hlk (by decide) e1 e2 dX12_readsStatement_126
            · have hf := if_t c117 hf
              refine g_iconst C dX12_readsStatement_78 ?_
              refine g_goto (tgt := 83) C dX12_readsStatement_79 (by decide) ?_
              refine g_istore_n (i := 3) C dX12_readsStatement_83 rfl (by decide) rfl ?_
              obtain ⟨q122, hl123, hf⟩ := lb_inv hf
              refine g_mask [true, false, true, true] (w_X12_readsStatement_84 C hr hlk hl123 ?_ ?_)
              · rintro r1 σ1 rfl
                exact some_inv hf
              · rintro σ124 rfl
                have hf := se_r hf
                refine g_iconst C dX12_readsStatement_125 ?_
                obtain ⟨e1, e2⟩ := some_inv hf
                exact g_zret C hr hlk (by decide) e1 e2 dX12_readsStatement_126
        · have hf := if_t c106 hf
          refine g_iconst C dX12_readsStatement_55 ?_
          refine g_goto (tgt := 71) C dX12_readsStatement_56 (by decide) ?_
          refine g_istore_n (i := 2) C dX12_readsStatement_71 rfl (by decide) rfl ?_
          refine g_iload_n (i := 1) C dX12_readsStatement_72 rfl rfl ?_
          refine g_bipush C dX12_readsStatement_73 (by decide) ?_
          refine g_icmp_ne (b' := 109) (tgt := 82) C dX12_readsStatement_75 (by decide) rfl (by decide) (fun c126 => ?_) (fun c126 => ?_)
          · have hf := if_f c126 hf
            refine g_iload_n (i := 2) C dX12_readsStatement_82 rfl rfl ?_
            refine g_istore_n (i := 3) C dX12_readsStatement_83 rfl (by decide) rfl ?_
            obtain ⟨q127, hl128, hf⟩ := lb_inv hf
            refine g_mask [true, false, true, true] (w_X12_readsStatement_84 C hr hlk hl128 ?_ ?_)
            · rintro r1 σ1 rfl
              exact some_inv hf
            · rintro σ129 rfl
              have hf := se_r hf
              refine g_iconst C dX12_readsStatement_125 ?_
              obtain ⟨e1, e2⟩ := some_inv hf
              exact g_zret C hr hlk (by decide) e1 e2 dX12_readsStatement_126
          · have hf := if_t c126 hf
            refine g_iconst C dX12_readsStatement_78 ?_
            refine g_goto (tgt := 83) C dX12_readsStatement_79 (by decide) ?_
            refine g_istore_n (i := 3) C dX12_readsStatement_83 rfl (by decide) rfl ?_
            obtain ⟨q131, hl132, hf⟩ := lb_inv hf
            refine g_mask [true, false, true, true] (w_X12_readsStatement_84 C hr hlk hl132 ?_ ?_)
            · rintro r1 σ1 rfl
              exact some_inv hf
            · rintro σ133 rfl
              have hf := se_r hf
              refine g_iconst C dX12_readsStatement_125 ?_
              obtain ⟨e1, e2⟩ := some_inv hf
              exact g_zret C hr hlk (by decide) e1 e2 dX12_readsStatement_126
      · have hf := if_t c105 hf
        refine g_iconst C dX12_readsStatement_47 ?_
        obtain ⟨e1, e2⟩ := some_inv hf
        exact g_zret C hr hlk (by decide) e1 e2 dX12_readsStatement_48
    · have hf := if_f c100 hf
      refine g_iload_n (i := 1) C dX12_readsStatement_22 rfl rfl ?_
      refine g_bipush C dX12_readsStatement_23 (by decide) ?_
      refine g_icmp_eq (b' := 116) (tgt := 30) C dX12_readsStatement_25 (by decide) rfl (by decide) (fun c135 => ?_) (fun c135 => ?_)
      · have hf := if_t c135 hf
        refine g_aload_n (i := 0) C dX12_readsStatement_30 rfl rfl ?_
        refine g_dup C dX12_readsStatement_31 rfl ?_
        refine gg_X12_pos (i := 2) C hiX12_readsStatement_X12 rfl dX12_readsStatement_32 ?_
        refine g_iconst C dX12_readsStatement_35 ?_
        refine g_iadd C dX12_readsStatement_36 ?_
        refine gp_X12_pos (i := 2) C hiX12_readsStatement_X12 rfl dX12_readsStatement_37 ?_
        refine g_aload_n (i := 0) C dX12_readsStatement_40 rfl rfl ?_
        obtain ⟨r138, σ137, h139, hf⟩ := ob_inv hf
        refine g_callVi C (c_X12_readsNumber  h139) (cwV 0 C.2.2.2.2.1 gX12_readsStatement_X12_readsNumber rfl rfl rfl (by decide +kernel) ⟨Nat.le_of_ble_eq_true rfl, Nat.le_of_ble_eq_true rfl⟩) ob_X12 rfl rfl rfl rfl (Nat.le_of_ble_eq_true rfl) dX12_readsStatement_41 ⟨Nat.zero_le _, Nat.zero_le _⟩ ?_
        refine g_if_ne (tgt := 49) C dX12_readsStatement_44 (by decide) rfl (fun c140 => ?_) (fun c140 => ?_)
        · have hf := if_f c140 hf
          refine g_iload_n (i := 1) C dX12_readsStatement_49 rfl rfl ?_
          refine g_bipush C dX12_readsStatement_50 (by decide) ?_
          refine g_icmp_ne (b' := 115) (tgt := 59) C dX12_readsStatement_52 (by decide) rfl (by decide) (fun c141 => ?_) (fun c141 => ?_)
          · have hf := if_f c141 hf
            refine g_iload_n (i := 1) C dX12_readsStatement_59 rfl rfl ?_
            refine g_bipush C dX12_readsStatement_60 (by decide) ?_
            refine g_icmp_ne (b' := 116) (tgt := 69) C dX12_readsStatement_62 (by decide) rfl (by decide) (fun c142 => ?_) (fun c142 => ?_)
            · have hf := if_f c142 hf
              refine g_bipush C dX12_readsStatement_69 (by decide) ?_
              refine g_istore_n (i := 2) C dX12_readsStatement_71 rfl (by decide) rfl ?_
              refine g_iload_n (i := 1) C dX12_readsStatement_72 rfl rfl ?_
              refine g_bipush C dX12_readsStatement_73 (by decide) ?_
              refine g_icmp_ne (b' := 109) (tgt := 82) C dX12_readsStatement_75 (by decide) rfl (by decide) (fun c143 => ?_) (fun c143 => ?_)
              · have hf := if_f c143 hf
                refine g_iload_n (i := 2) C dX12_readsStatement_82 rfl rfl ?_
                refine g_istore_n (i := 3) C dX12_readsStatement_83 rfl (by decide) rfl ?_
                obtain ⟨q144, hl145, hf⟩ := lb_inv hf
                refine g_mask [true, false, true, true] (w_X12_readsStatement_84 C hr hlk hl145 ?_ ?_)
                · rintro r1 σ1 rfl
                  exact some_inv hf
                · rintro σ146 rfl
                  have hf := se_r hf
                  refine g_iconst C dX12_readsStatement_125 ?_
                  obtain ⟨e1, e2⟩ := some_inv hf
                  exact g_zret C hr hlk (by decide) e1 e2 dX12_readsStatement_126
              · have hf := if_t c143 hf
                refine g_iconst C dX12_readsStatement_78 ?_
                refine g_goto (tgt := 83) C dX12_readsStatement_79 (by decide) ?_
                refine g_istore_n (i := 3) C dX12_readsStatement_83 rfl (by decide) rfl ?_
                obtain ⟨q148, hl149, hf⟩ := lb_inv hf
                refine g_mask [true, false, true, true] (w_X12_readsStatement_84 C hr hlk hl149 ?_ ?_)
                · rintro r1 σ1 rfl
                  exact some_inv hf
                · rintro σ150 rfl
                  have hf := se_r hf
                  refine g_iconst C dX12_readsStatement_125 ?_
                  obtain ⟨e1, e2⟩ := some_inv hf
                  exact g_zret C hr hlk (by decide) e1 e2 dX12_readsStatement_126
            · have hf := if_t c142 hf
              refine g_iconst C dX12_readsStatement_65 ?_
              refine g_goto (tgt := 71) C dX12_readsStatement_66 (by decide) ?_
              refine g_istore_n (i := 2) C dX12_readsStatement_71 rfl (by decide) rfl ?_
              refine g_iload_n (i := 1) C dX12_readsStatement_72 rfl rfl ?_
              refine g_bipush C dX12_readsStatement_73 (by decide) ?_
              refine g_icmp_ne (b' := 109) (tgt := 82) C dX12_readsStatement_75 (by decide) rfl (by decide) (fun c152 => ?_) (fun c152 => ?_)
              · have hf := if_f c152 hf
                refine g_iload_n (i := 2) C dX12_readsStatement_82 rfl rfl ?_
                refine g_istore_n (i := 3) C dX12_readsStatement_83 rfl (by decide) rfl ?_
                obtain ⟨q153, hl154, hf⟩ := lb_inv hf
                refine g_mask [true, false, true, true] (w_X12_readsStatement_84 C hr hlk hl154 ?_ ?_)
                · rintro r1 σ1 rfl
                  exact some_inv hf
                · rintro σ155 rfl
                  have hf := se_r hf
                  refine g_iconst C dX12_readsStatement_125 ?_
                  obtain ⟨e1, e2⟩ := some_inv hf
                  exact g_zret C hr hlk (by decide) e1 e2 dX12_readsStatement_126
              · have hf := if_t c152 hf
                refine g_iconst C dX12_readsStatement_78 ?_
                refine g_goto (tgt := 83) C dX12_readsStatement_79 (by decide) ?_
                refine g_istore_n (i := 3) C dX12_readsStatement_83 rfl (by decide) rfl ?_
                obtain ⟨q157, hl158, hf⟩ := lb_inv hf
                refine g_mask [true, false, true, true] (w_X12_readsStatement_84 C hr hlk hl158 ?_ ?_)
                · rintro r1 σ1 rfl
                  exact some_inv hf
                · rintro σ159 rfl
                  have hf := se_r hf
                  refine g_iconst C dX12_readsStatement_125 ?_
                  obtain ⟨e1, e2⟩ := some_inv hf
                  exact g_zret C hr hlk (by decide) e1 e2 dX12_readsStatement_126
          · have hf := if_t c141 hf
            refine g_iconst C dX12_readsStatement_55 ?_
            refine g_goto (tgt := 71) C dX12_readsStatement_56 (by decide) ?_
            refine g_istore_n (i := 2) C dX12_readsStatement_71 rfl (by decide) rfl ?_
            refine g_iload_n (i := 1) C dX12_readsStatement_72 rfl rfl ?_
            refine g_bipush C dX12_readsStatement_73 (by decide) ?_
            refine g_icmp_ne (b' := 109) (tgt := 82) C dX12_readsStatement_75 (by decide) rfl (by decide) (fun c161 => ?_) (fun c161 => ?_)
            · have hf := if_f c161 hf
              refine g_iload_n (i := 2) C dX12_readsStatement_82 rfl rfl ?_
              refine g_istore_n (i := 3) C dX12_readsStatement_83 rfl (by decide) rfl ?_
              obtain ⟨q162, hl163, hf⟩ := lb_inv hf
              refine g_mask [true, false, true, true] (w_X12_readsStatement_84 C hr hlk hl163 ?_ ?_)
              · rintro r1 σ1 rfl
                exact some_inv hf
              · rintro σ164 rfl
                have hf := se_r hf
                refine g_iconst C dX12_readsStatement_125 ?_
                obtain ⟨e1, e2⟩ := some_inv hf
                exact g_zret C hr hlk (by decide) e1 e2 dX12_readsStatement_126
            · have hf := if_t c161 hf
              refine g_iconst C dX12_readsStatement_78 ?_
              refine g_goto (tgt := 83) C dX12_readsStatement_79 (by decide) ?_
              refine g_istore_n (i := 3) C dX12_readsStatement_83 rfl (by decide) rfl ?_
              obtain ⟨q166, hl167, hf⟩ := lb_inv hf
              refine g_mask [true, false, true, true] (w_X12_readsStatement_84 C hr hlk hl167 ?_ ?_)
              · rintro r1 σ1 rfl
                exact some_inv hf
              · rintro σ168 rfl
                have hf := se_r hf
                refine g_iconst C dX12_readsStatement_125 ?_
                obtain ⟨e1, e2⟩ := some_inv hf
                exact g_zret C hr hlk (by decide) e1 e2 dX12_readsStatement_126
        · have hf := if_t c140 hf
          refine g_iconst C dX12_readsStatement_47 ?_
          obtain ⟨e1, e2⟩ := some_inv hf
          exact g_zret C hr hlk (by decide) e1 e2 dX12_readsStatement_48
      · have hf := if_f c135 hf
        refine g_iconst C dX12_readsStatement_28 ?_
        obtain ⟨e1, e2⟩ := some_inv hf
        exact g_zret C hr hlk (by decide) e1 e2 dX12_readsStatement_29
/-! X12_comes -/
abbrev rm_X12_comes : Room := { frames := 1, cells := 0, slots := 0, locals := 25 }
theorem hiX12_comes_X12 : ∀ w ∈ u_ws RX12 TX12 24, w ∈ wsX12_comes := fun _ h => (List.mem_cons_of_mem _ (List.mem_append_right _ h))
set_option maxHeartbeats 4000000 in
set_option maxRecDepth 100000 in
theorem it_X12_comes_221 (C : Cx p s m args c cX12_comes 4 RX12 wsX12_comes D ca A) (hr : meth.sig.returnType = (some .boolean)) (hlk : meth.locks = false) {p2 : Int} {o : (Int × Mem) ⊕ (Mem)} (hc : ∀ (x3 : Int) (σ : Mem), o = .inl (x3, σ) → G p l e rm_X12_comes s m args below meth c 4 D ca ad A 0 0 (MQ below (Qi D ca ad A r0 σ0) args s 0 0 A) σ 221 [some (.ref (ad 120)), none, some (.int (iI p2)), some (.int (iI x3))] []) (he : ∀ (σ : Mem), o = .inr σ → G p l e rm_X12_comes s m args below meth c 4 D ca ad A 0 0 (MQ below (Qi D ca ad A r0 σ0) args s 0 0 A) σ 258 [some (.ref (ad 120)), none, none, none] []) {x3 : Int} {σ : Mem} (hf : f_X12_comes_221 p2 x3 σ = some o) : G p l e rm_X12_comes s m args below meth c 4 D ca ad A 0 0 (MQ below (Qi D ca ad A r0 σ0) args s 0 0 A) σ 221 [some (.ref (ad 120)), none, some (.int (iI p2)), some (.int (iI x3))] [] := by
  unfold f_X12_comes_221 at hf
  refine g_iload_n (i := 3) C dX12_comes_221 rfl rfl ?_
  refine g_aload_n (i := 0) C dX12_comes_222 rfl rfl ?_
  refine gg_X12_read (i := 1) C hiX12_comes_X12 rfl dX12_comes_223 ?_
  refine g_iconst C dX12_comes_226 ?_
  refine g_iaload (N := 39) (j := 0) C (by decide) dX12_comes_227 (by decide) (by decide) ?_
  refine g_icmp_ge (tgt := 258) C dX12_comes_228 (by decide) rfl rfl (fun c8 => ?_) (fun c8 => ?_)
  · have hf := if_t c8 hf
    exact g_mask [true, false, false, false] (he _ (Option.some.inj hf).symm)
  · have hf := if_f c8 hf
    refine g_aload_n (i := 0) C dX12_comes_231 rfl rfl ?_
    refine gg_X12_read (i := 1) C hiX12_comes_X12 rfl dX12_comes_232 ?_
    refine g_bipush C dX12_comes_235 (by decide) ?_
    refine g_iconst C dX12_comes_237 ?_
    refine g_iload_n (i := 2) C dX12_comes_238 rfl rfl ?_
    refine g_imul C dX12_comes_239 ?_
    refine g_iadd C dX12_comes_240 ?_
    refine g_iload_n (i := 3) C dX12_comes_241 rfl rfl ?_
    refine g_iadd C dX12_comes_242 ?_
    refine g_aload_n (i := 0) C dX12_comes_243 rfl rfl ?_
    refine gg_X12_numbers (i := 2) C hiX12_comes_X12 rfl dX12_comes_244 ?_
    refine g_iconst C dX12_comes_247 ?_
    refine g_iload_n (i := 3) C dX12_comes_248 rfl rfl ?_
    refine g_iadd C dX12_comes_249 ?_
    obtain ⟨hb9, hf⟩ := if_inv hf
    refine g_iaload (N := 120) C (by decide) dX12_comes_250 rfl hb9 ?_
    obtain ⟨hb10, hf⟩ := if_inv hf
    refine g_iastore (N := 39) C (by decide) dX12_comes_251 rfl hb10 ?_
    refine g_iinc C dX12_comes_252 rfl (by decide) rfl ?_
    refine g_goto (tgt := 221) C dX12_comes_255 (by decide) ?_
    exact g_mask [true, false, true, true] (hc _ _ (Option.some.inj hf).symm)
set_option maxHeartbeats 4000000 in
set_option maxRecDepth 100000 in
theorem w_X12_comes_221 (C : Cx p s m args c cX12_comes 4 RX12 wsX12_comes D ca A) (hr : meth.sig.returnType = (some .boolean)) (hlk : meth.locks = false) {p2 : Int} {n : Nat} {x3 : Int} {σ : Mem} {b : (Mem)} (h : itr (fun z : Int × Mem => f_X12_comes_221 p2 z.1 z.2) n (x3, σ) = some b) (he : ∀ (σ : Mem), b = σ → G p l e rm_X12_comes s m args below meth c 4 D ca ad A 0 0 (MQ below (Qi D ca ad A r0 σ0) args s 0 0 A) σ 258 [some (.ref (ad 120)), none, none, none] []) : G p l e rm_X12_comes s m args below meth c 4 D ca ad A 0 0 (MQ below (Qi D ca ad A r0 σ0) args s 0 0 A) σ 221 [some (.ref (ad 120)), none, some (.int (iI p2)), some (.int (iI x3))] [] :=
  itr_rule (P := fun z : Int × Mem => G p l e rm_X12_comes s m args below meth c 4 D ca ad A 0 0 (MQ below (Qi D ca ad A r0 σ0) args s 0 0 A) z.2 221 [some (.ref (ad 120)), none, some (.int (iI p2)), some (.int (iI z.1))] []) (E := fun b => ∀ (σ : Mem), b = σ → G p l e rm_X12_comes s m args below meth c 4 D ca ad A 0 0 (MQ below (Qi D ca ad A r0 σ0) args s 0 0 A) σ 258 [some (.ref (ad 120)), none, none, none] []) (fun z o hb hc he => it_X12_comes_221 C hr hlk (fun _ _ e => hc _ e) (fun _ e => (he _ e) _ rfl) hb) n _ _ h he
set_option maxHeartbeats 4000000 in
set_option maxRecDepth 100000 in
theorem c_X12_comes {v1 : Int} {σ : Mem} (hf : f_X12_comes v1 σ = some (r0, σ0)) : CTi l D ca ad A yX12_comes wsX12_comes rm_X12_comes [.ref (ad 120), .int (iI v1)] σ r0 σ0 := by
  refine ct_i (cc := cX12_comes) (own := RX12) (maxL := 4) (ret := (some .boolean)) (lv0 := [some (.ref (ad 120)), some (.int (iI v1)), none, none]) (by decide) rfl rfl rfl (Nat.le_of_ble_eq_true rfl) ?_
  intro p e s m below meth c C hr hlk hnm
  unfold f_X12_comes at hf
  refine g_iload_n (i := 1) C dX12_comes_0 rfl rfl ?_
  refine g_bipush C dX12_comes_1 (by decide) ?_
  refine g_icmp_ne (b' := 115) (tgt := 102) C dX12_comes_3 (by decide) rfl (by decide) (fun c1 => ?_) (fun c1 => ?_)
  · have hf := if_f c1 hf
    refine g_iload_n (i := 1) C dX12_comes_102 rfl rfl ?_
    refine g_bipush C dX12_comes_103 (by decide) ?_
    refine g_icmp_ne (b' := 116) (tgt := 164) C dX12_comes_105 (by decide) rfl (by decide) (fun c2 => ?_) (fun c2 => ?_)
    · have hf := if_f c2 hf
      refine g_aload_n (i := 0) C dX12_comes_164 rfl rfl ?_
      refine gg_X12_read (i := 1) C hiX12_comes_X12 rfl dX12_comes_165 ?_
      refine g_iconst C dX12_comes_168 ?_
      refine g_iaload (N := 39) (j := 1) C (by decide) dX12_comes_169 (by decide) (by decide) ?_
      refine g_istore_n (i := 2) C dX12_comes_170 rfl (by decide) rfl ?_
      refine g_iload_n (i := 2) C dX12_comes_171 rfl rfl ?_
      refine g_iconst C dX12_comes_172 ?_
      refine g_icmp_eq (b' := 4) (tgt := 202) C dX12_comes_173 (by decide) rfl (by decide) (fun c3 => ?_) (fun c3 => ?_)
      · have hf := if_t c3 hf
        refine g_iconst C dX12_comes_202 ?_
        obtain ⟨e1, e2⟩ := some_inv hf
        exact g_zret C hr hlk (by decide) e1 e2 dX12_comes_203
      · have hf := if_f c3 hf
        refine g_aload_n (i := 0) C dX12_comes_176 rfl rfl ?_
        refine gg_X12_numbers (i := 2) C hiX12_comes_X12 rfl dX12_comes_177 ?_
        refine g_iconst C dX12_comes_180 ?_
        refine g_iaload (N := 120) (j := 0) C (by decide) dX12_comes_181 (by decide) (by decide) ?_
        refine g_bipush C dX12_comes_182 (by decide) ?_
        refine g_icmp_gt (b' := 99) (tgt := 202) C dX12_comes_184 (by decide) rfl (by decide) (fun c4 => ?_) (fun c4 => ?_)
        · have hf := if_t c4 hf
          refine g_iconst C dX12_comes_202 ?_
          obtain ⟨e1, e2⟩ := some_inv hf
          exact g_zret C hr hlk (by decide) e1 e2 dX12_comes_203
        · have hf := if_f c4 hf
          refine g_aload_n (i := 0) C dX12_comes_187 rfl rfl ?_
          refine gg_X12_told (i := 4) C hiX12_comes_X12 rfl dX12_comes_188 ?_
          refine g_aload_n (i := 0) C dX12_comes_191 rfl rfl ?_
          refine gg_X12_read (i := 1) C hiX12_comes_X12 rfl dX12_comes_192 ?_
          refine g_iconst C dX12_comes_195 ?_
          refine g_iaload (N := 39) (j := 0) C (by decide) dX12_comes_196 (by decide) (by decide) ?_
          refine g_iconst C dX12_comes_197 ?_
          refine g_iadd C dX12_comes_198 ?_
          refine g_icmp_eq (tgt := 204) C dX12_comes_199 (by decide) rfl rfl (fun c5 => ?_) (fun c5 => ?_)
          · have hf := if_t c5 hf
            refine g_aload_n (i := 0) C dX12_comes_204 rfl rfl ?_
            refine gg_X12_read (i := 1) C hiX12_comes_X12 rfl dX12_comes_205 ?_
            refine g_bipush C dX12_comes_208 (by decide) ?_
            refine g_iload_n (i := 2) C dX12_comes_210 rfl rfl ?_
            refine g_iadd C dX12_comes_211 ?_
            refine g_aload_n (i := 0) C dX12_comes_212 rfl rfl ?_
            refine gg_X12_numbers (i := 2) C hiX12_comes_X12 rfl dX12_comes_213 ?_
            refine g_iconst C dX12_comes_216 ?_
            refine g_iaload (N := 120) (j := 0) C (by decide) dX12_comes_217 (by decide) (by decide) ?_
            obtain ⟨hb6, hf⟩ := if_inv hf
            refine g_iastore (N := 39) C (by decide) dX12_comes_218 rfl hb6 ?_
            refine g_iconst C dX12_comes_219 ?_
            refine g_istore_n (i := 3) C dX12_comes_220 rfl (by decide) rfl ?_
            obtain ⟨q12, hl13, hf⟩ := lb_inv hf
            refine g_mask [true, false, true, true] (w_X12_comes_221 C hr hlk hl13 ?_)
            · rintro σ14 rfl
              refine g_aload_n (i := 0) C dX12_comes_258 rfl rfl ?_
              refine gg_X12_read (i := 1) C hiX12_comes_X12 rfl dX12_comes_259 ?_
              refine g_iconst C dX12_comes_262 ?_
              refine g_dup2 C dX12_comes_263 rfl rfl ?_
              refine g_iaload (N := 39) (j := 1) C (by decide) dX12_comes_264 (by decide) (by decide) ?_
              refine g_iconst C dX12_comes_265 ?_
              refine g_iadd C dX12_comes_266 ?_
              refine g_iastore (N := 39) (j := 1) C (by decide) dX12_comes_267 (by decide) (by decide) ?_
              refine g_iconst C dX12_comes_268 ?_
              obtain ⟨e1, e2⟩ := some_inv hf
              exact g_zret C hr hlk (by decide) e1 e2 dX12_comes_269
          · have hf := if_f c5 hf
            refine g_iconst C dX12_comes_202 ?_
            obtain ⟨e1, e2⟩ := some_inv hf
            exact g_zret C hr hlk (by decide) e1 e2 dX12_comes_203
    · have hf := if_t c2 hf
      refine g_aload_n (i := 0) C dX12_comes_108 rfl rfl ?_
      refine gg_X12_numbers (i := 2) C hiX12_comes_X12 rfl dX12_comes_109 ?_
      refine g_iconst C dX12_comes_112 ?_
      refine g_iaload (N := 120) (j := 0) C (by decide) dX12_comes_113 (by decide) (by decide) ?_
      refine g_aload_n (i := 0) C dX12_comes_114 rfl rfl ?_
      refine gg_X12_read (i := 1) C hiX12_comes_X12 rfl dX12_comes_115 ?_
      refine g_iconst C dX12_comes_118 ?_
      refine g_iaload (N := 39) (j := 1) C (by decide) dX12_comes_119 (by decide) (by decide) ?_
      refine g_icmp_ge (tgt := 138) C dX12_comes_120 (by decide) rfl rfl (fun c16 => ?_) (fun c16 => ?_)
      · have hf := if_t c16 hf
        refine g_iconst C dX12_comes_138 ?_
        obtain ⟨e1, e2⟩ := some_inv hf
        exact g_zret C hr hlk (by decide) e1 e2 dX12_comes_139
      · have hf := if_f c16 hf
        refine g_aload_n (i := 0) C dX12_comes_123 rfl rfl ?_
        refine gg_X12_numbers (i := 2) C hiX12_comes_X12 rfl dX12_comes_124 ?_
        refine g_iconst C dX12_comes_127 ?_
        refine g_iaload (N := 120) (j := 1) C (by decide) dX12_comes_128 (by decide) (by decide) ?_
        refine g_aload_n (i := 0) C dX12_comes_129 rfl rfl ?_
        refine gg_X12_read (i := 1) C hiX12_comes_X12 rfl dX12_comes_130 ?_
        refine g_iconst C dX12_comes_133 ?_
        refine g_iaload (N := 39) (j := 0) C (by decide) dX12_comes_134 (by decide) (by decide) ?_
        refine g_icmp_lt (tgt := 140) C dX12_comes_135 (by decide) rfl rfl (fun c17 => ?_) (fun c17 => ?_)
        · have hf := if_t c17 hf
          refine g_aload_n (i := 0) C dX12_comes_140 rfl rfl ?_
          refine gg_X12_read (i := 1) C hiX12_comes_X12 rfl dX12_comes_141 ?_
          refine g_bipush C dX12_comes_144 (by decide) ?_
          refine g_aload_n (i := 0) C dX12_comes_146 rfl rfl ?_
          refine gg_X12_numbers (i := 2) C hiX12_comes_X12 rfl dX12_comes_147 ?_
          refine g_iconst C dX12_comes_150 ?_
          refine g_iaload (N := 120) (j := 0) C (by decide) dX12_comes_151 (by decide) (by decide) ?_
          refine g_iadd C dX12_comes_152 ?_
          refine g_aload_n (i := 0) C dX12_comes_153 rfl rfl ?_
          refine gg_X12_numbers (i := 2) C hiX12_comes_X12 rfl dX12_comes_154 ?_
          refine g_iconst C dX12_comes_157 ?_
          refine g_iaload (N := 120) (j := 1) C (by decide) dX12_comes_158 (by decide) (by decide) ?_
          refine g_iconst C dX12_comes_159 ?_
          refine g_iadd C dX12_comes_160 ?_
          obtain ⟨hb18, hf⟩ := if_inv hf
          refine g_iastore (N := 39) C (by decide) dX12_comes_161 rfl hb18 ?_
          refine g_iconst C dX12_comes_162 ?_
          obtain ⟨e1, e2⟩ := some_inv hf
          exact g_zret C hr hlk (by decide) e1 e2 dX12_comes_163
        · have hf := if_f c17 hf
          refine g_iconst C dX12_comes_138 ?_
          obtain ⟨e1, e2⟩ := some_inv hf
          exact g_zret C hr hlk (by decide) e1 e2 dX12_comes_139
  · have hf := if_t c1 hf
    refine g_aload_n (i := 0) C dX12_comes_6 rfl rfl ?_
    refine gg_X12_read (i := 1) C hiX12_comes_X12 rfl dX12_comes_7 ?_
    refine g_iconst C dX12_comes_10 ?_
    refine g_iaload (N := 39) (j := 0) C (by decide) dX12_comes_11 (by decide) (by decide) ?_
    refine g_istore_n (i := 2) C dX12_comes_12 rfl (by decide) rfl ?_
    refine g_iload_n (i := 2) C dX12_comes_13 rfl rfl ?_
    refine g_iconst C dX12_comes_14 ?_
    refine g_icmp_eq (b' := 4) (tgt := 44) C dX12_comes_15 (by decide) rfl (by decide) (fun c20 => ?_) (fun c20 => ?_)
    · have hf := if_t c20 hf
      refine g_iconst C dX12_comes_44 ?_
      obtain ⟨e1, e2⟩ := some_inv hf
      exact g_zret C hr hlk (by decide) e1 e2 dX12_comes_45
    · have hf := if_f c20 hf
      refine g_aload_n (i := 0) C dX12_comes_18 rfl rfl ?_
      refine gg_X12_read (i := 1) C hiX12_comes_X12 rfl dX12_comes_19 ?_
      refine g_iconst C dX12_comes_22 ?_
      refine g_iaload (N := 39) (j := 1) C (by decide) dX12_comes_23 (by decide) (by decide) ?_
      refine g_if_gt (tgt := 44) C dX12_comes_24 (by decide) rfl (fun c21 => ?_) (fun c21 => ?_)
      · have hf := if_t c21 hf
        refine g_iconst C dX12_comes_44 ?_
        obtain ⟨e1, e2⟩ := some_inv hf
        exact g_zret C hr hlk (by decide) e1 e2 dX12_comes_45
      · have hf := if_f c21 hf
        refine g_aload_n (i := 0) C dX12_comes_27 rfl rfl ?_
        refine gg_X12_numbers (i := 2) C hiX12_comes_X12 rfl dX12_comes_28 ?_
        refine g_iconst C dX12_comes_31 ?_
        refine g_iaload (N := 120) (j := 0) C (by decide) dX12_comes_32 (by decide) (by decide) ?_
        refine g_i2l C dX12_comes_33 rfl ?_
        refine g_lconst (z := 1) C dX12_comes_34 (by decide) ?_
        refine g_ldc2 (i := 3) (z := 100) C dX12_comes_35 rfl (by decide) ?_
        obtain ⟨r23, σ22, h24, hf⟩ := ob_inv hf
        refine g_callSi C (c_X12_isIn  h24) (va_cwS 3 C.2.2.2.2.1 gX12_comes_X12_isIn rfl rfl rfl (by decide +kernel) ⟨Nat.le_of_ble_eq_true rfl, Nat.le_of_ble_eq_true rfl⟩) rfl rfl (Nat.le_of_ble_eq_true rfl) dX12_comes_38 ⟨Nat.zero_le _, Nat.zero_le _⟩ ?_
        refine g_if_ne (tgt := 46) C dX12_comes_41 (by decide) rfl (fun c25 => ?_) (fun c25 => ?_)
        · have hf := if_f c25 hf
          refine g_aload_n (i := 0) C dX12_comes_46 rfl rfl ?_
          refine gg_X12_read (i := 1) C hiX12_comes_X12 rfl dX12_comes_47 ?_
          refine g_iconst C dX12_comes_50 ?_
          refine g_iload_n (i := 2) C dX12_comes_51 rfl rfl ?_
          refine g_iadd C dX12_comes_52 ?_
          refine g_aload_n (i := 0) C dX12_comes_53 rfl rfl ?_
          refine gg_X12_numbers (i := 2) C hiX12_comes_X12 rfl dX12_comes_54 ?_
          refine g_iconst C dX12_comes_57 ?_
          refine g_iaload (N := 120) (j := 0) C (by decide) dX12_comes_58 (by decide) (by decide) ?_
          obtain ⟨hb26, hf⟩ := if_inv hf
          refine g_iastore (N := 39) C (by decide) dX12_comes_59 rfl hb26 ?_
          refine g_aload_n (i := 0) C dX12_comes_60 rfl rfl ?_
          refine gg_X12_read (i := 1) C hiX12_comes_X12 rfl dX12_comes_61 ?_
          refine g_bipush C dX12_comes_64 (by decide) ?_
          refine g_iload_n (i := 2) C dX12_comes_66 rfl rfl ?_
          refine g_iadd C dX12_comes_67 ?_
          refine g_aload_n (i := 0) C dX12_comes_68 rfl rfl ?_
          refine gg_X12_numbers (i := 2) C hiX12_comes_X12 rfl dX12_comes_69 ?_
          refine g_iconst C dX12_comes_72 ?_
          refine g_iaload (N := 120) (j := 1) C (by decide) dX12_comes_73 (by decide) (by decide) ?_
          obtain ⟨hb28, hf⟩ := if_inv hf
          refine g_iastore (N := 39) C (by decide) dX12_comes_74 rfl hb28 ?_
          refine g_aload_n (i := 0) C dX12_comes_75 rfl rfl ?_
          refine gg_X12_read (i := 1) C hiX12_comes_X12 rfl dX12_comes_76 ?_
          refine g_bipush C dX12_comes_79 (by decide) ?_
          refine g_iload_n (i := 2) C dX12_comes_81 rfl rfl ?_
          refine g_iadd C dX12_comes_82 ?_
          refine g_aload_n (i := 0) C dX12_comes_83 rfl rfl ?_
          refine gg_X12_numbers (i := 2) C hiX12_comes_X12 rfl dX12_comes_84 ?_
          refine g_iconst C dX12_comes_87 ?_
          refine g_iaload (N := 120) (j := 2) C (by decide) dX12_comes_88 (by decide) (by decide) ?_
          obtain ⟨hb30, hf⟩ := if_inv hf
          refine g_iastore (N := 39) C (by decide) dX12_comes_89 rfl hb30 ?_
          refine g_aload_n (i := 0) C dX12_comes_90 rfl rfl ?_
          refine gg_X12_read (i := 1) C hiX12_comes_X12 rfl dX12_comes_91 ?_
          refine g_iconst C dX12_comes_94 ?_
          refine g_dup2 C dX12_comes_95 rfl rfl ?_
          refine g_iaload (N := 39) (j := 0) C (by decide) dX12_comes_96 (by decide) (by decide) ?_
          refine g_iconst C dX12_comes_97 ?_
          refine g_iadd C dX12_comes_98 ?_
          refine g_iastore (N := 39) (j := 0) C (by decide) dX12_comes_99 (by decide) (by decide) ?_
          refine g_iconst C dX12_comes_100 ?_
          obtain ⟨e1, e2⟩ := some_inv hf
          exact g_zret C hr hlk (by decide) e1 e2 dX12_comes_101
        · have hf := if_t c25 hf
          refine g_iconst C dX12_comes_44 ?_
          obtain ⟨e1, e2⟩ := some_inv hf
          exact g_zret C hr hlk (by decide) e1 e2 dX12_comes_45
/-! X12_wrongRow -/
abbrev rm_X12_wrongRow : Room := { frames := 2, cells := 0, slots := 0, locals := 45 }
theorem hiX12_wrongRow_X12 : ∀ w ∈ u_ws RX12 TX12 24, w ∈ wsX12_wrongRow := fun _ h => (List.mem_cons_of_mem _ (List.mem_append_right _ h))
set_option maxHeartbeats 4000000 in
set_option maxRecDepth 100000 in
theorem c_X12_wrongRow {v1 v2 : Int} {σ : Mem} (hf : f_X12_wrongRow v1 v2 σ = some (r0, σ0)) : CTi l D ca ad A yX12_wrongRow wsX12_wrongRow rm_X12_wrongRow [.ref (ad 120), .int (iI v1), .int (iI v2)] σ r0 σ0 := by
  refine ct_i (cc := cX12_wrongRow) (own := RX12) (maxL := 3) (ret := (some .int)) (lv0 := [some (.ref (ad 120)), some (.int (iI v1)), some (.int (iI v2))]) (by decide) rfl rfl rfl (Nat.le_of_ble_eq_true rfl) ?_
  intro p e s m below meth c C hr hlk hnm
  unfold f_X12_wrongRow at hf
  refine g_iload_n (i := 1) C dX12_wrongRow_0 rfl rfl ?_
  obtain ⟨r2, σ1, h3, hf⟩ := ob_inv hf
  refine g_callSi C (c_X12_isShelf  h3) (va_cwS 1 C.2.2.2.2.1 gX12_wrongRow_X12_isShelf rfl rfl rfl (by decide +kernel) ⟨Nat.le_of_ble_eq_true rfl, Nat.le_of_ble_eq_true rfl⟩) rfl rfl (Nat.le_of_ble_eq_true rfl) dX12_wrongRow_1 ⟨Nat.zero_le _, Nat.zero_le _⟩ ?_
  refine g_if_ne (tgt := 11) C dX12_wrongRow_4 (by decide) rfl (fun c4 => ?_) (fun c4 => ?_)
  · have hf := if_f c4 hf
    refine g_aload_n (i := 0) C dX12_wrongRow_11 rfl rfl ?_
    refine gg_X12_kept (i := 1) C hiX12_wrongRow_X12 rfl dX12_wrongRow_12 ?_
    refine g_iload_n (i := 1) C dX12_wrongRow_15 rfl rfl ?_
    obtain ⟨hb5, hf⟩ := if_inv hf
    refine g_iaload (N := 8) C (by decide) dX12_wrongRow_16 rfl hb5 ?_
    refine g_if_ne (tgt := 25) C dX12_wrongRow_17 (by decide) rfl (fun c6 => ?_) (fun c6 => ?_)
    · have hf := if_f c6 hf
      refine g_aload_n (i := 0) C dX12_wrongRow_25 rfl rfl ?_
      refine gg_X12_kept (i := 1) C hiX12_wrongRow_X12 rfl dX12_wrongRow_26 ?_
      refine g_iload_n (i := 1) C dX12_wrongRow_29 rfl rfl ?_
      refine g_iaload (N := 8) C (by decide) dX12_wrongRow_30 rfl hb5 ?_
      refine g_iconst C dX12_wrongRow_31 ?_
      refine g_icmp_ne (b' := 2) (tgt := 49) C dX12_wrongRow_32 (by decide) rfl (by decide) (fun c7 => ?_) (fun c7 => ?_)
      · have hf := if_f c7 hf
        refine g_bipush C dX12_wrongRow_49 (by decide) ?_
        refine g_goto (tgt := 55) C dX12_wrongRow_51 (by decide) ?_
        obtain ⟨e1, e2⟩ := some_inv hf
        exact g_iret C hr hlk e1 e2 dX12_wrongRow_55
      · have hf := if_t c7 hf
        refine g_iload_n (i := 2) C dX12_wrongRow_35 rfl rfl ?_
        refine g_if_lt (tgt := 54) C dX12_wrongRow_36 (by decide) rfl (fun c8 => ?_) (fun c8 => ?_)
        · have hf := if_t c8 hf
          refine g_iconst C dX12_wrongRow_54 ?_
          obtain ⟨e1, e2⟩ := some_inv hf
          exact g_iret C hr hlk e1 e2 dX12_wrongRow_55
        · have hf := if_f c8 hf
          refine g_aload_n (i := 0) C dX12_wrongRow_39 rfl rfl ?_
          refine gg_X12_sort (i := 2) C hiX12_wrongRow_X12 rfl dX12_wrongRow_40 ?_
          refine g_iload_n (i := 1) C dX12_wrongRow_43 rfl rfl ?_
          refine g_iaload (N := 8) C (by decide) dX12_wrongRow_44 rfl hb5 ?_
          refine g_iload_n (i := 2) C dX12_wrongRow_45 rfl rfl ?_
          refine g_icmp_eq (tgt := 54) C dX12_wrongRow_46 (by decide) rfl rfl (fun c9 => ?_) (fun c9 => ?_)
          · have hf := if_t c9 hf
            refine g_iconst C dX12_wrongRow_54 ?_
            obtain ⟨e1, e2⟩ := some_inv hf
            exact g_iret C hr hlk e1 e2 dX12_wrongRow_55
          · have hf := if_f c9 hf
            refine g_bipush C dX12_wrongRow_49 (by decide) ?_
            refine g_goto (tgt := 55) C dX12_wrongRow_51 (by decide) ?_
            obtain ⟨e1, e2⟩ := some_inv hf
            exact g_iret C hr hlk e1 e2 dX12_wrongRow_55
    · have hf := if_t c6 hf
      refine g_bipush C dX12_wrongRow_20 (by decide) ?_
      refine g_goto (tgt := 55) C dX12_wrongRow_22 (by decide) ?_
      obtain ⟨e1, e2⟩ := some_inv hf
      exact g_iret C hr hlk e1 e2 dX12_wrongRow_55
  · have hf := if_t c4 hf
    refine g_iconst C dX12_wrongRow_7 ?_
    refine g_goto (tgt := 55) C dX12_wrongRow_8 (by decide) ?_
    obtain ⟨e1, e2⟩ := some_inv hf
    exact g_iret C hr hlk e1 e2 dX12_wrongRow_55
/-! X12_market -/
abbrev rm_X12_market : Room := { frames := 3, cells := 0, slots := 0, locals := 69 }
theorem hiX12_market_X12 : ∀ w ∈ u_ws RX12 TX12 24, w ∈ wsX12_market := fun _ h => (List.mem_cons_of_mem _ (List.mem_append_right _ h))
set_option maxHeartbeats 4000000 in
set_option maxRecDepth 100000 in
theorem it_X12_market_36 (C : Cx p s m args c cX12_market 7 RX12 wsX12_market D ca A) (hr : meth.sig.returnType = (some .int)) (hlk : meth.locks = false) {o : (Mem) ⊕ ((Int × Mem) ⊕ (Mem))} (hc : ∀ (σ : Mem), o = .inl σ → G p l e rm_X12_market s m args below meth c 7 D ca ad A 0 0 (MQ below (Qi D ca ad A r0 σ0) args s 0 0 A) σ 36 [some (.ref (ad 120)), none, none, none, none, none, none] []) (he1 : ∀ (r1 : Int) (σ1 : Mem), o = .inr (.inl (r1, σ1)) → r1 = r0 ∧ σ1 = σ0) (he2 : ∀ (σ : Mem), o = .inr (.inr σ) → G p l e rm_X12_market s m args below meth c 7 D ca ad A 0 0 (MQ below (Qi D ca ad A r0 σ0) args s 0 0 A) σ 63 [some (.ref (ad 120)), none, none, none, none, none, none] []) {σ : Mem} (hf : f_X12_market_36   σ = some o) : G p l e rm_X12_market s m args below meth c 7 D ca ad A 0 0 (MQ below (Qi D ca ad A r0 σ0) args s 0 0 A) σ 36 [some (.ref (ad 120)), none, none, none, none, none, none] [] := by
  unfold f_X12_market_36 at hf
  refine g_aload_n (i := 0) C dX12_market_36 rfl rfl ?_
  obtain ⟨r15, σ14, h16, hf⟩ := ob_inv hf
  refine g_callVi C (c_X12_readsStatement  h16) (cwV 0 C.2.2.2.2.1 gX12_market_X12_readsStatement rfl rfl rfl (by decide +kernel) ⟨Nat.le_of_ble_eq_true rfl, Nat.le_of_ble_eq_true rfl⟩) ob_X12 rfl rfl rfl rfl (Nat.le_of_ble_eq_true rfl) dX12_market_37 ⟨Nat.zero_le _, Nat.zero_le _⟩ ?_
  refine g_if_ne (tgt := 52) C dX12_market_40 (by decide) rfl (fun c17 => ?_) (fun c17 => ?_)
  · have hf := if_f c17 hf
    refine g_aload_n (i := 0) C dX12_market_52 rfl rfl ?_
    refine gg_X12_pos (i := 4) C hiX12_market_X12 rfl dX12_market_53 ?_
    refine g_aload_n (i := 0) C dX12_market_56 rfl rfl ?_
    refine gg_X12_end (i := 3) C hiX12_market_X12 rfl dX12_market_57 ?_
    refine g_icmp_lt (tgt := 36) C dX12_market_60 (by decide) rfl rfl (fun c18 => ?_) (fun c18 => ?_)
    · have hf := if_t c18 hf
      exact g_mask [true, false, false, false, false, false, false] (hc _ (Option.some.inj hf).symm)
    · have hf := if_f c18 hf
      exact g_mask [true, false, false, false, false, false, false] (he2 _ (Option.some.inj hf).symm)
  · have hf := if_t c17 hf
    refine g_sipush C dX12_market_43 (by decide) ?_
    refine g_aload_n (i := 0) C dX12_market_46 rfl rfl ?_
    refine gg_X12_pos (i := 4) C hiX12_market_X12 rfl dX12_market_47 ?_
    refine g_isub C dX12_market_50 ?_
    obtain ⟨e1, e2⟩ := he1 _ _ (Option.some.inj hf).symm
    exact g_iret C hr hlk e1 e2 dX12_market_51
set_option maxHeartbeats 4000000 in
set_option maxRecDepth 100000 in
theorem w_X12_market_36 (C : Cx p s m args c cX12_market 7 RX12 wsX12_market D ca A) (hr : meth.sig.returnType = (some .int)) (hlk : meth.locks = false) {n : Nat} {σ : Mem} {b : ((Int × Mem) ⊕ (Mem))} (h : itr (fun z : Mem => f_X12_market_36  z) n σ = some b) (he1 : ∀ (r1 : Int) (σ1 : Mem), b = .inl (r1, σ1) → r1 = r0 ∧ σ1 = σ0) (he2 : ∀ (σ : Mem), b = .inr σ → G p l e rm_X12_market s m args below meth c 7 D ca ad A 0 0 (MQ below (Qi D ca ad A r0 σ0) args s 0 0 A) σ 63 [some (.ref (ad 120)), none, none, none, none, none, none] []) : G p l e rm_X12_market s m args below meth c 7 D ca ad A 0 0 (MQ below (Qi D ca ad A r0 σ0) args s 0 0 A) σ 36 [some (.ref (ad 120)), none, none, none, none, none, none] [] :=
  itr_rule (P := fun z : Mem => G p l e rm_X12_market s m args below meth c 7 D ca ad A 0 0 (MQ below (Qi D ca ad A r0 σ0) args s 0 0 A) z 36 [some (.ref (ad 120)), none, none, none, none, none, none] []) (E := fun b => (∀ (r1 : Int) (σ1 : Mem), b = .inl (r1, σ1) → r1 = r0 ∧ σ1 = σ0) ∧ (∀ (σ : Mem), b = .inr σ → G p l e rm_X12_market s m args below meth c 7 D ca ad A 0 0 (MQ below (Qi D ca ad A r0 σ0) args s 0 0 A) σ 63 [some (.ref (ad 120)), none, none, none, none, none, none] [])) (fun z o hb hc he => it_X12_market_36 C hr hlk (fun _ e => hc _ e) (fun r1 σ1 e => (he _ e).1 r1 σ1 rfl) (fun _ e => (he _ e).2 _ rfl) hb) n _ _ h ⟨he1, he2⟩
set_option maxHeartbeats 4000000 in
set_option maxRecDepth 100000 in
theorem it_X12_market_65 (C : Cx p s m args c cX12_market 7 RX12 wsX12_market D ca A) (hr : meth.sig.returnType = (some .int)) (hlk : meth.locks = false) {o : (Int × Mem) ⊕ (Mem)} (hc : ∀ (x3 : Int) (σ : Mem), o = .inl (x3, σ) → G p l e rm_X12_market s m args below meth c 7 D ca ad A 0 0 (MQ below (Qi D ca ad A r0 σ0) args s 0 0 A) σ 65 [some (.ref (ad 120)), none, none, some (.int (iI x3)), none, none, none] []) (he : ∀ (σ : Mem), o = .inr σ → G p l e rm_X12_market s m args below meth c 7 D ca ad A 0 0 (MQ below (Qi D ca ad A r0 σ0) args s 0 0 A) σ 84 [some (.ref (ad 120)), none, none, none, none, none, none] []) {x3 : Int} {σ : Mem} (hf : f_X12_market_65  x3 σ = some o) : G p l e rm_X12_market s m args below meth c 7 D ca ad A 0 0 (MQ below (Qi D ca ad A r0 σ0) args s 0 0 A) σ 65 [some (.ref (ad 120)), none, none, some (.int (iI x3)), none, none, none] [] := by
  unfold f_X12_market_65 at hf
  refine g_iload_n (i := 3) C dX12_market_65 rfl rfl ?_
  refine g_bipush C dX12_market_66 (by decide) ?_
  refine g_icmp_ge (b' := 39) (tgt := 84) C dX12_market_68 (by decide) rfl (by decide) (fun c22 => ?_) (fun c22 => ?_)
  · have hf := if_t c22 hf
    exact g_mask [true, false, false, false, false, false, false] (he _ (Option.some.inj hf).symm)
  · have hf := if_f c22 hf
    refine g_aload_n (i := 0) C dX12_market_71 rfl rfl ?_
    refine gg_X12_read (i := 5) C hiX12_market_X12 rfl dX12_market_72 ?_
    refine g_iload_n (i := 3) C dX12_market_75 rfl rfl ?_
    refine g_iconst C dX12_market_76 ?_
    obtain ⟨hb23, hf⟩ := if_inv hf
    refine g_iastore (N := 39) C (by decide) dX12_market_77 rfl hb23 ?_
    refine g_iinc C dX12_market_78 rfl (by decide) rfl ?_
    refine g_goto (tgt := 65) C dX12_market_81 (by decide) ?_
    exact g_mask [true, false, false, true, false, false, false] (hc _ _ (Option.some.inj hf).symm)
set_option maxHeartbeats 4000000 in
set_option maxRecDepth 100000 in
theorem w_X12_market_65 (C : Cx p s m args c cX12_market 7 RX12 wsX12_market D ca A) (hr : meth.sig.returnType = (some .int)) (hlk : meth.locks = false) {n : Nat} {x3 : Int} {σ : Mem} {b : (Mem)} (h : itr (fun z : Int × Mem => f_X12_market_65  z.1 z.2) n (x3, σ) = some b) (he : ∀ (σ : Mem), b = σ → G p l e rm_X12_market s m args below meth c 7 D ca ad A 0 0 (MQ below (Qi D ca ad A r0 σ0) args s 0 0 A) σ 84 [some (.ref (ad 120)), none, none, none, none, none, none] []) : G p l e rm_X12_market s m args below meth c 7 D ca ad A 0 0 (MQ below (Qi D ca ad A r0 σ0) args s 0 0 A) σ 65 [some (.ref (ad 120)), none, none, some (.int (iI x3)), none, none, none] [] :=
  itr_rule (P := fun z : Int × Mem => G p l e rm_X12_market s m args below meth c 7 D ca ad A 0 0 (MQ below (Qi D ca ad A r0 σ0) args s 0 0 A) z.2 65 [some (.ref (ad 120)), none, none, some (.int (iI z.1)), none, none, none] []) (E := fun b => ∀ (σ : Mem), b = σ → G p l e rm_X12_market s m args below meth c 7 D ca ad A 0 0 (MQ below (Qi D ca ad A r0 σ0) args s 0 0 A) σ 84 [some (.ref (ad 120)), none, none, none, none, none, none] []) (fun z o hb hc he => it_X12_market_65 C hr hlk (fun _ _ e => hc _ e) (fun _ e => (he _ e) _ rfl) hb) n _ _ h he
set_option maxHeartbeats 4000000 in
set_option maxRecDepth 100000 in
theorem it_X12_market_91 (C : Cx p s m args c cX12_market 7 RX12 wsX12_market D ca A) (hr : meth.sig.returnType = (some .int)) (hlk : meth.locks = false) {o : (Int × Mem) ⊕ ((Int × Mem) ⊕ (Int × Mem))} (hc : ∀ (x3 : Int) (σ : Mem), o = .inl (x3, σ) → G p l e rm_X12_market s m args below meth c 7 D ca ad A 0 0 (MQ below (Qi D ca ad A r0 σ0) args s 0 0 A) σ 91 [some (.ref (ad 120)), none, none, some (.int (iI x3)), none, none, none] []) (he1 : ∀ (r1 : Int) (σ1 : Mem), o = .inr (.inl (r1, σ1)) → r1 = r0 ∧ σ1 = σ0) (he2 : ∀ (y3 : Int) (σ : Mem), o = .inr (.inr (y3, σ)) → G p l e rm_X12_market s m args below meth c 7 D ca ad A 0 0 (MQ below (Qi D ca ad A r0 σ0) args s 0 0 A) σ 142 [some (.ref (ad 120)), none, none, some (.int (iI y3)), none, none, none] []) {x3 : Int} {σ : Mem} (hf : f_X12_market_91  x3 σ = some o) : G p l e rm_X12_market s m args below meth c 7 D ca ad A 0 0 (MQ below (Qi D ca ad A r0 σ0) args s 0 0 A) σ 91 [some (.ref (ad 120)), none, none, some (.int (iI x3)), none, none, none] [] := by
  unfold f_X12_market_91 at hf
  refine g_aload_n (i := 0) C dX12_market_91 rfl rfl ?_
  refine gg_X12_pos (i := 4) C hiX12_market_X12 rfl dX12_market_92 ?_
  refine g_aload_n (i := 0) C dX12_market_95 rfl rfl ?_
  refine gg_X12_end (i := 3) C hiX12_market_X12 rfl dX12_market_96 ?_
  refine g_icmp_ge (tgt := 142) C dX12_market_99 (by decide) rfl rfl (fun c40 => ?_) (fun c40 => ?_)
  · have hf := if_t c40 hf
    exact g_mask [true, false, false, true, false, false, false] (he2 _ _ (Option.some.inj hf).symm)
  · have hf := if_f c40 hf
    refine g_aload_n (i := 0) C dX12_market_102 rfl rfl ?_
    refine gg_X12_pos (i := 4) C hiX12_market_X12 rfl dX12_market_103 ?_
    refine g_istore C dX12_market_106 (by decide) rfl ?_
    refine g_aload_n (i := 0) C dX12_market_108 rfl rfl ?_
    obtain ⟨r42, σ41, h43, hf⟩ := ob_inv hf
    refine g_callVi C (c_X12_sign  h43) (cwV 0 C.2.2.2.2.1 gX12_market_X12_sign rfl rfl rfl (by decide +kernel) ⟨Nat.le_of_ble_eq_true rfl, Nat.le_of_ble_eq_true rfl⟩) ob_X12 rfl rfl rfl rfl (Nat.le_of_ble_eq_true rfl) dX12_market_109 ⟨Nat.zero_le _, Nat.zero_le _⟩ ?_
    refine g_istore C dX12_market_112 (by decide) rfl ?_
    refine g_aload_n (i := 0) C dX12_market_114 rfl rfl ?_
    obtain ⟨r45, σ44, h46, hf⟩ := ob_inv hf
    refine g_callVi C (c_X12_readsStatement  h46) (cwV 0 C.2.2.2.2.1 gX12_market_X12_readsStatement rfl rfl rfl (by decide +kernel) ⟨Nat.le_of_ble_eq_true rfl, Nat.le_of_ble_eq_true rfl⟩) ob_X12 rfl rfl rfl rfl (Nat.le_of_ble_eq_true rfl) dX12_market_115 ⟨Nat.zero_le _, Nat.zero_le _⟩ ?_
    refine g_istore C dX12_market_118 (by decide) rfl ?_
    refine g_aload_n (i := 0) C dX12_market_120 rfl rfl ?_
    refine g_iload C dX12_market_121 rfl ?_
    obtain ⟨r48, σ47, h49, hf⟩ := ob_inv hf
    refine g_callVi C (c_X12_comes  h49) (cwV 1 C.2.2.2.2.1 gX12_market_X12_comes rfl rfl rfl (by decide +kernel) ⟨Nat.le_of_ble_eq_true rfl, Nat.le_of_ble_eq_true rfl⟩) ob_X12 rfl rfl rfl rfl (Nat.le_of_ble_eq_true rfl) dX12_market_123 ⟨Nat.zero_le _, Nat.zero_le _⟩ ?_
    refine g_if_ne (tgt := 136) C dX12_market_126 (by decide) rfl (fun c50 => ?_) (fun c50 => ?_)
    · have hf := if_f c50 hf
      refine g_iinc C dX12_market_136 rfl (by decide) rfl ?_
      refine g_goto (tgt := 91) C dX12_market_139 (by decide) ?_
      exact g_mask [true, false, false, true, false, false, false] (hc _ _ (Option.some.inj hf).symm)
    · have hf := if_t c50 hf
      refine g_sipush C dX12_market_129 (by decide) ?_
      refine g_iload C dX12_market_132 rfl ?_
      refine g_isub C dX12_market_134 ?_
      obtain ⟨e1, e2⟩ := he1 _ _ (Option.some.inj hf).symm
      exact g_iret C hr hlk e1 e2 dX12_market_135
set_option maxHeartbeats 4000000 in
set_option maxRecDepth 100000 in
theorem w_X12_market_91 (C : Cx p s m args c cX12_market 7 RX12 wsX12_market D ca A) (hr : meth.sig.returnType = (some .int)) (hlk : meth.locks = false) {n : Nat} {x3 : Int} {σ : Mem} {b : ((Int × Mem) ⊕ (Int × Mem))} (h : itr (fun z : Int × Mem => f_X12_market_91  z.1 z.2) n (x3, σ) = some b) (he1 : ∀ (r1 : Int) (σ1 : Mem), b = .inl (r1, σ1) → r1 = r0 ∧ σ1 = σ0) (he2 : ∀ (y3 : Int) (σ : Mem), b = .inr (y3, σ) → G p l e rm_X12_market s m args below meth c 7 D ca ad A 0 0 (MQ below (Qi D ca ad A r0 σ0) args s 0 0 A) σ 142 [some (.ref (ad 120)), none, none, some (.int (iI y3)), none, none, none] []) : G p l e rm_X12_market s m args below meth c 7 D ca ad A 0 0 (MQ below (Qi D ca ad A r0 σ0) args s 0 0 A) σ 91 [some (.ref (ad 120)), none, none, some (.int (iI x3)), none, none, none] [] :=
  itr_rule (P := fun z : Int × Mem => G p l e rm_X12_market s m args below meth c 7 D ca ad A 0 0 (MQ below (Qi D ca ad A r0 σ0) args s 0 0 A) z.2 91 [some (.ref (ad 120)), none, none, some (.int (iI z.1)), none, none, none] []) (E := fun b => (∀ (r1 : Int) (σ1 : Mem), b = .inl (r1, σ1) → r1 = r0 ∧ σ1 = σ0) ∧ (∀ (y3 : Int) (σ : Mem), b = .inr (y3, σ) → G p l e rm_X12_market s m args below meth c 7 D ca ad A 0 0 (MQ below (Qi D ca ad A r0 σ0) args s 0 0 A) σ 142 [some (.ref (ad 120)), none, none, some (.int (iI y3)), none, none, none] [])) (fun z o hb hc he => it_X12_market_91 C hr hlk (fun _ _ e => hc _ e) (fun r1 σ1 e => (he _ e).1 r1 σ1 rfl) (fun _ _ e => (he _ e).2 _ _ rfl) hb) n _ _ h ⟨he1, he2⟩
set_option maxHeartbeats 4000000 in
set_option maxRecDepth 100000 in
theorem it_X12_market_148 (C : Cx p s m args c cX12_market 7 RX12 wsX12_market D ca A) (hr : meth.sig.returnType = (some .int)) (hlk : meth.locks = false) {p3 : Int} {o : (Int × Int × Mem) ⊕ (Int × Mem)} (hc : ∀ (x4 x5 : Int) (σ : Mem), o = .inl (x4, x5, σ) → G p l e rm_X12_market s m args below meth c 7 D ca ad A 0 0 (MQ below (Qi D ca ad A r0 σ0) args s 0 0 A) σ 148 [some (.ref (ad 120)), none, none, some (.int (iI p3)), some (.int (iI x4)), some (.int (iI x5)), none] []) (he : ∀ (y4 : Int) (σ : Mem), o = .inr (y4, σ) → G p l e rm_X12_market s m args below meth c 7 D ca ad A 0 0 (MQ below (Qi D ca ad A r0 σ0) args s 0 0 A) σ 179 [some (.ref (ad 120)), none, none, some (.int (iI p3)), some (.int (iI y4)), none, none] []) {x4 x5 : Int} {σ : Mem} (hf : f_X12_market_148 p3 x4 x5 σ = some o) : G p l e rm_X12_market s m args below meth c 7 D ca ad A 0 0 (MQ below (Qi D ca ad A r0 σ0) args s 0 0 A) σ 148 [some (.ref (ad 120)), none, none, some (.int (iI p3)), some (.int (iI x4)), some (.int (iI x5)), none] [] := by
  unfold f_X12_market_148 at hf
  refine g_iload C dX12_market_148 rfl ?_
  refine g_aload_n (i := 0) C dX12_market_150 rfl rfl ?_
  refine gg_X12_read (i := 5) C hiX12_market_X12 rfl dX12_market_151 ?_
  refine g_iconst C dX12_market_154 ?_
  refine g_iaload (N := 39) (j := 0) C (by decide) dX12_market_155 (by decide) (by decide) ?_
  refine g_icmp_ge (tgt := 179) C dX12_market_156 (by decide) rfl rfl (fun c55 => ?_) (fun c55 => ?_)
  · have hf := if_t c55 hf
    exact g_mask [true, false, false, true, true, false, false] (he _ _ (Option.some.inj hf).symm)
  · have hf := if_f c55 hf
    refine g_iload C dX12_market_159 rfl ?_
    refine g_aload_n (i := 0) C dX12_market_161 rfl rfl ?_
    refine gg_X12_read (i := 5) C hiX12_market_X12 rfl dX12_market_162 ?_
    refine g_iconst C dX12_market_165 ?_
    refine g_iload C dX12_market_166 rfl ?_
    refine g_iadd C dX12_market_168 ?_
    obtain ⟨hb56, hf⟩ := if_inv hf
    refine g_iaload (N := 39) C (by decide) dX12_market_169 rfl hb56 ?_
    refine g_iadd C dX12_market_170 ?_
    refine g_istore C dX12_market_171 (by decide) rfl ?_
    refine g_iinc C dX12_market_173 rfl (by decide) rfl ?_
    refine g_goto (tgt := 148) C dX12_market_176 (by decide) ?_
    exact g_mask [true, false, false, true, true, true, false] (hc _ _ _ (Option.some.inj hf).symm)
set_option maxHeartbeats 4000000 in
set_option maxRecDepth 100000 in
theorem w_X12_market_148 (C : Cx p s m args c cX12_market 7 RX12 wsX12_market D ca A) (hr : meth.sig.returnType = (some .int)) (hlk : meth.locks = false) {p3 : Int} {n : Nat} {x4 x5 : Int} {σ : Mem} {b : (Int × Mem)} (h : itr (fun z : Int × Int × Mem => f_X12_market_148 p3 z.1 z.2.1 z.2.2) n (x4, x5, σ) = some b) (he : ∀ (y4 : Int) (σ : Mem), b = (y4, σ) → G p l e rm_X12_market s m args below meth c 7 D ca ad A 0 0 (MQ below (Qi D ca ad A r0 σ0) args s 0 0 A) σ 179 [some (.ref (ad 120)), none, none, some (.int (iI p3)), some (.int (iI y4)), none, none] []) : G p l e rm_X12_market s m args below meth c 7 D ca ad A 0 0 (MQ below (Qi D ca ad A r0 σ0) args s 0 0 A) σ 148 [some (.ref (ad 120)), none, none, some (.int (iI p3)), some (.int (iI x4)), some (.int (iI x5)), none] [] :=
  itr_rule (P := fun z : Int × Int × Mem => G p l e rm_X12_market s m args below meth c 7 D ca ad A 0 0 (MQ below (Qi D ca ad A r0 σ0) args s 0 0 A) z.2.2 148 [some (.ref (ad 120)), none, none, some (.int (iI p3)), some (.int (iI z.1)), some (.int (iI z.2.1)), none] []) (E := fun b => ∀ (y4 : Int) (σ : Mem), b = (y4, σ) → G p l e rm_X12_market s m args below meth c 7 D ca ad A 0 0 (MQ below (Qi D ca ad A r0 σ0) args s 0 0 A) σ 179 [some (.ref (ad 120)), none, none, some (.int (iI p3)), some (.int (iI y4)), none, none] []) (fun z o hb hc he => it_X12_market_148 C hr hlk (fun _ _ _ e => hc _ e) (fun _ _ e => (he _ e) _ _ rfl) hb) n _ _ h he
set_option maxHeartbeats 4000000 in
set_option maxRecDepth 100000 in
theorem it_X12_market_202 (C : Cx p s m args c cX12_market 7 RX12 wsX12_market D ca A) (hr : meth.sig.returnType = (some .int)) (hlk : meth.locks = false) {p3 : Int} {o : (Int × Mem) ⊕ (Mem)} (hc : ∀ (x5 : Int) (σ : Mem), o = .inl (x5, σ) → G p l e rm_X12_market s m args below meth c 7 D ca ad A 0 0 (MQ below (Qi D ca ad A r0 σ0) args s 0 0 A) σ 202 [some (.ref (ad 120)), none, none, some (.int (iI p3)), none, some (.int (iI x5)), none] []) (he : ∀ (σ : Mem), o = .inr σ → G p l e rm_X12_market s m args below meth c 7 D ca ad A 0 0 (MQ below (Qi D ca ad A r0 σ0) args s 0 0 A) σ 229 [none, none, none, some (.int (iI p3)), none, none, none] []) {x5 : Int} {σ : Mem} (hf : f_X12_market_202 p3 x5 σ = some o) : G p l e rm_X12_market s m args below meth c 7 D ca ad A 0 0 (MQ below (Qi D ca ad A r0 σ0) args s 0 0 A) σ 202 [some (.ref (ad 120)), none, none, some (.int (iI p3)), none, some (.int (iI x5)), none] [] := by
  unfold f_X12_market_202 at hf
  refine g_iload C dX12_market_202 rfl ?_
  refine g_bipush C dX12_market_204 (by decide) ?_
  refine g_icmp_ge (b' := 39) (tgt := 229) C dX12_market_206 (by decide) rfl (by decide) (fun c64 => ?_) (fun c64 => ?_)
  · have hf := if_t c64 hf
    exact g_mask [false, false, false, true, false, false, false] (he _ (Option.some.inj hf).symm)
  · have hf := if_f c64 hf
    refine g_aload_n (i := 0) C dX12_market_209 rfl rfl ?_
    refine gg_X12_s (i := 6) C hiX12_market_X12 rfl dX12_market_210 ?_
    refine g_iload C dX12_market_213 rfl ?_
    refine g_aload_n (i := 0) C dX12_market_215 rfl rfl ?_
    refine gg_X12_read (i := 5) C hiX12_market_X12 rfl dX12_market_216 ?_
    refine g_iload C dX12_market_219 rfl ?_
    obtain ⟨hb65, hf⟩ := if_inv hf
    refine g_iaload (N := 39) C (by decide) dX12_market_221 rfl hb65 ?_
    refine g_iastore (N := 39) C (by decide) dX12_market_222 rfl hb65 ?_
    refine g_iinc C dX12_market_223 rfl (by decide) rfl ?_
    refine g_goto (tgt := 202) C dX12_market_226 (by decide) ?_
    exact g_mask [true, false, false, true, false, true, false] (hc _ _ (Option.some.inj hf).symm)
set_option maxHeartbeats 4000000 in
set_option maxRecDepth 100000 in
theorem w_X12_market_202 (C : Cx p s m args c cX12_market 7 RX12 wsX12_market D ca A) (hr : meth.sig.returnType = (some .int)) (hlk : meth.locks = false) {p3 : Int} {n : Nat} {x5 : Int} {σ : Mem} {b : (Mem)} (h : itr (fun z : Int × Mem => f_X12_market_202 p3 z.1 z.2) n (x5, σ) = some b) (he : ∀ (σ : Mem), b = σ → G p l e rm_X12_market s m args below meth c 7 D ca ad A 0 0 (MQ below (Qi D ca ad A r0 σ0) args s 0 0 A) σ 229 [none, none, none, some (.int (iI p3)), none, none, none] []) : G p l e rm_X12_market s m args below meth c 7 D ca ad A 0 0 (MQ below (Qi D ca ad A r0 σ0) args s 0 0 A) σ 202 [some (.ref (ad 120)), none, none, some (.int (iI p3)), none, some (.int (iI x5)), none] [] :=
  itr_rule (P := fun z : Int × Mem => G p l e rm_X12_market s m args below meth c 7 D ca ad A 0 0 (MQ below (Qi D ca ad A r0 σ0) args s 0 0 A) z.2 202 [some (.ref (ad 120)), none, none, some (.int (iI p3)), none, some (.int (iI z.1)), none] []) (E := fun b => ∀ (σ : Mem), b = σ → G p l e rm_X12_market s m args below meth c 7 D ca ad A 0 0 (MQ below (Qi D ca ad A r0 σ0) args s 0 0 A) σ 229 [none, none, none, some (.int (iI p3)), none, none, none] []) (fun z o hb hc he => it_X12_market_202 C hr hlk (fun _ _ e => hc _ e) (fun _ e => (he _ e) _ rfl) hb) n _ _ h he
set_option maxHeartbeats 4000000 in
set_option maxRecDepth 100000 in
theorem c_X12_market {v1 : Int} {σ : Mem} (hf : f_X12_market v1 σ = some (r0, σ0)) : CTi l D ca ad A yX12_market wsX12_market rm_X12_market [.ref (ad 120), .int (iI v1)] σ r0 σ0 := by
  refine ct_i (cc := cX12_market) (own := RX12) (maxL := 7) (ret := (some .int)) (lv0 := [some (.ref (ad 120)), some (.int (iI v1)), none, none, none, none, none]) (by decide) rfl rfl rfl (Nat.le_of_ble_eq_true rfl) ?_
  intro p e s m below meth c C hr hlk hnm
  unfold f_X12_market at hf
  refine g_aload_n (i := 0) C dX12_market_0 rfl rfl ?_
  refine g_iload_n (i := 1) C dX12_market_1 rfl rfl ?_
  refine g_iconst C dX12_market_2 ?_
  obtain ⟨r2, σ1, h3, hf⟩ := ob_inv hf
  refine g_callVi C (c_X12_wrongRow  h3) (cwV 2 C.2.2.2.2.1 gX12_market_X12_wrongRow rfl rfl rfl (by decide +kernel) ⟨Nat.le_of_ble_eq_true rfl, Nat.le_of_ble_eq_true rfl⟩) ob_X12 rfl rfl rfl rfl (Nat.le_of_ble_eq_true rfl) dX12_market_3 ⟨Nat.zero_le _, Nat.zero_le _⟩ ?_
  refine g_istore_n (i := 2) C dX12_market_6 rfl (by decide) rfl ?_
  refine g_iload_n (i := 2) C dX12_market_7 rfl rfl ?_
  refine g_if_eq (tgt := 13) C dX12_market_8 (by decide) rfl (fun c4 => ?_) (fun c4 => ?_)
  · have hf := if_t c4 hf
    refine g_aload_n (i := 0) C dX12_market_13 rfl rfl ?_
    refine g_bipush C dX12_market_14 (by decide) ?_
    refine g_iload_n (i := 1) C dX12_market_16 rfl rfl ?_
    refine g_imul C dX12_market_17 ?_
    refine gp_X12_base (i := 1) C hiX12_market_X12 rfl dX12_market_18 ?_
    refine g_aload_n (i := 0) C dX12_market_21 rfl rfl ?_
    refine g_aload_n (i := 0) C dX12_market_22 rfl rfl ?_
    refine gg_X12_size (i := 2) C hiX12_market_X12 rfl dX12_market_23 ?_
    refine g_iload_n (i := 1) C dX12_market_26 rfl rfl ?_
    obtain ⟨hb6, hf⟩ := if_inv hf
    refine g_iaload (N := 8) C (by decide) dX12_market_27 rfl hb6 ?_
    refine gp_X12_end (i := 3) C hiX12_market_X12 rfl dX12_market_28 ?_
    refine g_aload_n (i := 0) C dX12_market_31 rfl rfl ?_
    refine g_iconst C dX12_market_32 ?_
    refine gp_X12_pos (i := 4) C hiX12_market_X12 rfl dX12_market_33 ?_
    obtain ⟨q19, hl20, hf⟩ := lb_inv hf
    refine g_mask [true, false, false, false, false, false, false] (w_X12_market_36 C hr hlk hl20 ?_ ?_)
    · rintro r1 σ1 rfl
      exact some_inv hf
    · rintro σ21 rfl
      have hf := se_r hf
      refine g_iconst C dX12_market_63 ?_
      refine g_istore_n (i := 3) C dX12_market_64 rfl (by decide) rfl ?_
      obtain ⟨q25, hl26, hf⟩ := lb_inv hf
      refine g_mask [true, false, false, true, false, false, false] (w_X12_market_65 C hr hlk hl26 ?_)
      · rintro σ27 rfl
        refine g_aload_n (i := 0) C dX12_market_84 rfl rfl ?_
        refine g_iconst C dX12_market_85 ?_
        refine gp_X12_pos (i := 4) C hiX12_market_X12 rfl dX12_market_86 ?_
        refine g_iconst C dX12_market_89 ?_
        refine g_istore_n (i := 3) C dX12_market_90 rfl (by decide) rfl ?_
        obtain ⟨q51, hl52, hf⟩ := lb_inv hf
        refine g_mask [true, false, false, true, false, false, false] (w_X12_market_91 C hr hlk hl52 ?_ ?_)
        · rintro r1 σ1 rfl
          exact some_inv hf
        · rintro y53 σ54 rfl
          have hf := se_r hf
          refine g_iconst C dX12_market_142 ?_
          refine g_istore C dX12_market_143 (by decide) rfl ?_
          refine g_iconst C dX12_market_145 ?_
          refine g_istore C dX12_market_146 (by decide) rfl ?_
          obtain ⟨q58, hl59, hf⟩ := lb_inv hf
          refine g_mask [true, false, false, true, true, true, false] (w_X12_market_148 C hr hlk hl59 ?_)
          · rintro y60 σ61 rfl
            refine g_iload C dX12_market_179 rfl ?_
            refine g_bipush C dX12_market_181 (by decide) ?_
            refine g_icmp_ne (b' := 100) (tgt := 195) C dX12_market_183 (by decide) rfl (by decide) (fun c62 => ?_) (fun c62 => ?_)
            · have hf := if_f c62 hf
              refine g_sipush C dX12_market_195 (by decide) ?_
              obtain ⟨e1, e2⟩ := some_inv hf
              exact g_iret C hr hlk e1 e2 dX12_market_198
            · have hf := if_t c62 hf
              refine g_aload_n (i := 0) C dX12_market_186 rfl rfl ?_
              refine gg_X12_read (i := 5) C hiX12_market_X12 rfl dX12_market_187 ?_
              refine g_iconst C dX12_market_190 ?_
              refine g_iaload (N := 39) (j := 1) C (by decide) dX12_market_191 (by decide) (by decide) ?_
              refine g_if_ne (tgt := 199) C dX12_market_192 (by decide) rfl (fun c63 => ?_) (fun c63 => ?_)
              · have hf := if_f c63 hf
                refine g_iconst C dX12_market_199 ?_
                refine g_istore C dX12_market_200 (by decide) rfl ?_
                obtain ⟨q67, hl68, hf⟩ := lb_inv hf
                refine g_mask [true, false, false, true, false, true, false] (w_X12_market_202 C hr hlk hl68 ?_)
                · rintro σ69 rfl
                  refine g_iload_n (i := 3) C dX12_market_229 rfl rfl ?_
                  obtain ⟨e1, e2⟩ := some_inv hf
                  exact g_iret C hr hlk e1 e2 dX12_market_230
              · have hf := if_t c63 hf
                refine g_sipush C dX12_market_195 (by decide) ?_
                obtain ⟨e1, e2⟩ := some_inv hf
                exact g_iret C hr hlk e1 e2 dX12_market_198
  · have hf := if_f c4 hf
    refine g_iload_n (i := 2) C dX12_market_11 rfl rfl ?_
    obtain ⟨e1, e2⟩ := some_inv hf
    exact g_iret C hr hlk e1 e2 dX12_market_12
/-! X12_sort -/
abbrev rm_X12_sort : Room := { frames := 2, cells := 0, slots := 0, locals := 46 }
theorem hiX12_sort_X12 : ∀ w ∈ u_ws RX12 TX12 24, w ∈ wsX12_sort := fun _ h => (List.mem_cons_of_mem _ (List.mem_append_right _ h))
set_option maxHeartbeats 4000000 in
set_option maxRecDepth 100000 in
theorem c_X12_sort {v1 v2 : Int} {σ : Mem} (hf : f_X12_sort v1 v2 σ = some (r0, σ0)) : CTi l D ca ad A yX12_sort wsX12_sort rm_X12_sort [.ref (ad 120), .int (iI v1), .int (iI v2)] σ r0 σ0 := by
  refine ct_i (cc := cX12_sort) (own := RX12) (maxL := 3) (ret := (some .int)) (lv0 := [some (.ref (ad 120)), some (.int (iI v1)), some (.int (iI v2))]) (by decide) rfl rfl rfl (Nat.le_of_ble_eq_true rfl) ?_
  intro p e s m below meth c C hr hlk hnm
  unfold f_X12_sort at hf
  refine g_aload_n (i := 0) C dX12_sort_0 rfl rfl ?_
  obtain ⟨r2, σ1, h3, hf⟩ := ob_inv hf
  refine g_callVi C (c_X12_isOpen  h3) (cwV 0 C.2.2.2.2.1 gX12_sort_X12_isOpen rfl rfl rfl (by decide +kernel) ⟨Nat.le_of_ble_eq_true rfl, Nat.le_of_ble_eq_true rfl⟩) ob_X12 rfl rfl rfl rfl (Nat.le_of_ble_eq_true rfl) dX12_sort_1 ⟨Nat.zero_le _, Nat.zero_le _⟩ ?_
  refine g_if_ne (tgt := 12) C dX12_sort_4 (by decide) rfl (fun c4 => ?_) (fun c4 => ?_)
  · have hf := if_f c4 hf
    refine g_aload_n (i := 0) C dX12_sort_12 rfl rfl ?_
    refine g_iload_n (i := 1) C dX12_sort_13 rfl rfl ?_
    obtain ⟨r6, σ5, h7, hf⟩ := ob_inv hf
    refine g_callVi C (c_X12_isSort  h7) (cwV 1 C.2.2.2.2.1 gX12_sort_X12_isSort rfl rfl rfl (by decide +kernel) ⟨Nat.le_of_ble_eq_true rfl, Nat.le_of_ble_eq_true rfl⟩) ob_X12 rfl rfl rfl rfl (Nat.le_of_ble_eq_true rfl) dX12_sort_14 ⟨Nat.zero_le _, Nat.zero_le _⟩ ?_
    refine g_if_eq (tgt := 47) C dX12_sort_17 (by decide) rfl (fun c8 => ?_) (fun c8 => ?_)
    · have hf := if_t c8 hf
      refine g_iconst C dX12_sort_47 ?_
      obtain ⟨e1, e2⟩ := some_inv hf
      exact g_iret C hr hlk e1 e2 dX12_sort_48
    · have hf := if_f c8 hf
      refine g_iload_n (i := 2) C dX12_sort_20 rfl rfl ?_
      refine g_i2l C dX12_sort_21 rfl ?_
      refine g_lconst (z := 0) C dX12_sort_22 (by decide) ?_
      refine g_ldc2 (i := 1) (z := 2) C dX12_sort_23 rfl (by decide) ?_
      obtain ⟨r10, σ9, h11, hf⟩ := ob_inv hf
      refine g_callSi C (c_X12_isIn  h11) (va_cwS 3 C.2.2.2.2.1 gX12_sort_X12_isIn rfl rfl rfl (by decide +kernel) ⟨Nat.le_of_ble_eq_true rfl, Nat.le_of_ble_eq_true rfl⟩) rfl rfl (Nat.le_of_ble_eq_true rfl) dX12_sort_26 ⟨Nat.zero_le _, Nat.zero_le _⟩ ?_
      refine g_if_eq (tgt := 47) C dX12_sort_29 (by decide) rfl (fun c12 => ?_) (fun c12 => ?_)
      · have hf := if_t c12 hf
        refine g_iconst C dX12_sort_47 ?_
        obtain ⟨e1, e2⟩ := some_inv hf
        exact g_iret C hr hlk e1 e2 dX12_sort_48
      · have hf := if_f c12 hf
        refine g_aload_n (i := 0) C dX12_sort_32 rfl rfl ?_
        refine gg_X12_s (i := 2) C hiX12_sort_X12 rfl dX12_sort_33 ?_
        refine g_iconst C dX12_sort_36 ?_
        refine g_iconst C dX12_sort_37 ?_
        refine g_iload_n (i := 2) C dX12_sort_38 rfl rfl ?_
        refine g_imul C dX12_sort_39 ?_
        refine g_iadd C dX12_sort_40 ?_
        refine g_iload_n (i := 1) C dX12_sort_41 rfl rfl ?_
        refine g_iadd C dX12_sort_42 ?_
        obtain ⟨hb13, hf⟩ := if_inv hf
        refine g_iaload (N := 39) C (by decide) dX12_sort_43 rfl hb13 ?_
        refine g_goto (tgt := 48) C dX12_sort_44 (by decide) ?_
        obtain ⟨e1, e2⟩ := some_inv hf
        exact g_iret C hr hlk e1 e2 dX12_sort_48
  · have hf := if_t c4 hf
    refine g_bipush C dX12_sort_7 (by decide) ?_
    refine g_goto (tgt := 48) C dX12_sort_9 (by decide) ?_
    obtain ⟨e1, e2⟩ := some_inv hf
    exact g_iret C hr hlk e1 e2 dX12_sort_48
/-! X12_mark -/
abbrev rm_X12_mark : Room := { frames := 2, cells := 0, slots := 0, locals := 46 }
theorem hiX12_mark_X12 : ∀ w ∈ u_ws RX12 TX12 24, w ∈ wsX12_mark := fun _ h => (List.mem_cons_of_mem _ (List.mem_append_right _ h))
set_option maxHeartbeats 4000000 in
set_option maxRecDepth 100000 in
theorem c_X12_mark {v1 v2 : Int} {σ : Mem} (hf : f_X12_mark v1 v2 σ = some (r0, σ0)) : CTi l D ca ad A yX12_mark wsX12_mark rm_X12_mark [.ref (ad 120), .int (iI v1), .int (iI v2)] σ r0 σ0 := by
  refine ct_i (cc := cX12_mark) (own := RX12) (maxL := 3) (ret := (some .int)) (lv0 := [some (.ref (ad 120)), some (.int (iI v1)), some (.int (iI v2))]) (by decide) rfl rfl rfl (Nat.le_of_ble_eq_true rfl) ?_
  intro p e s m below meth c C hr hlk hnm
  unfold f_X12_mark at hf
  refine g_aload_n (i := 0) C dX12_mark_0 rfl rfl ?_
  obtain ⟨r2, σ1, h3, hf⟩ := ob_inv hf
  refine g_callVi C (c_X12_isOpen  h3) (cwV 0 C.2.2.2.2.1 gX12_mark_X12_isOpen rfl rfl rfl (by decide +kernel) ⟨Nat.le_of_ble_eq_true rfl, Nat.le_of_ble_eq_true rfl⟩) ob_X12 rfl rfl rfl rfl (Nat.le_of_ble_eq_true rfl) dX12_mark_1 ⟨Nat.zero_le _, Nat.zero_le _⟩ ?_
  refine g_if_ne (tgt := 10) C dX12_mark_4 (by decide) rfl (fun c4 => ?_) (fun c4 => ?_)
  · have hf := if_f c4 hf
    refine g_aload_n (i := 0) C dX12_mark_10 rfl rfl ?_
    refine g_iload_n (i := 1) C dX12_mark_11 rfl rfl ?_
    obtain ⟨r6, σ5, h7, hf⟩ := ob_inv hf
    refine g_callVi C (c_X12_isMark  h7) (cwV 1 C.2.2.2.2.1 gX12_mark_X12_isMark rfl rfl rfl (by decide +kernel) ⟨Nat.le_of_ble_eq_true rfl, Nat.le_of_ble_eq_true rfl⟩) ob_X12 rfl rfl rfl rfl (Nat.le_of_ble_eq_true rfl) dX12_mark_12 ⟨Nat.zero_le _, Nat.zero_le _⟩ ?_
    refine g_if_eq (tgt := 34) C dX12_mark_15 (by decide) rfl (fun c8 => ?_) (fun c8 => ?_)
    · have hf := if_t c8 hf
      refine g_iconst C dX12_mark_34 ?_
      obtain ⟨e1, e2⟩ := some_inv hf
      exact g_iret C hr hlk e1 e2 dX12_mark_35
    · have hf := if_f c8 hf
      refine g_iload_n (i := 2) C dX12_mark_18 rfl rfl ?_
      refine g_bipush C dX12_mark_19 (by decide) ?_
      refine g_icmp_lt (b' := (-2)) (tgt := 34) C dX12_mark_21 (by decide) rfl (by decide) (fun c9 => ?_) (fun c9 => ?_)
      · have hf := if_t c9 hf
        refine g_iconst C dX12_mark_34 ?_
        obtain ⟨e1, e2⟩ := some_inv hf
        exact g_iret C hr hlk e1 e2 dX12_mark_35
      · have hf := if_f c9 hf
        refine g_iload_n (i := 2) C dX12_mark_24 rfl rfl ?_
        refine g_aload_n (i := 0) C dX12_mark_25 rfl rfl ?_
        refine gg_X12_s (i := 1) C hiX12_mark_X12 rfl dX12_mark_26 ?_
        refine g_iconst C dX12_mark_29 ?_
        refine g_iaload (N := 39) (j := 0) C (by decide) dX12_mark_30 (by decide) (by decide) ?_
        refine g_icmp_lt (tgt := 36) C dX12_mark_31 (by decide) rfl rfl (fun c10 => ?_) (fun c10 => ?_)
        · have hf := if_t c10 hf
          refine g_iload_n (i := 2) C dX12_mark_36 rfl rfl ?_
          refine g_bipush C dX12_mark_37 (by decide) ?_
          refine g_icmp_ne (b' := (-2)) (tgt := 73) C dX12_mark_39 (by decide) rfl (by decide) (fun c11 => ?_) (fun c11 => ?_)
          · have hf := if_f c11 hf
            refine g_iload_n (i := 2) C dX12_mark_73 rfl rfl ?_
            refine g_iconst C dX12_mark_74 ?_
            refine g_icmp_ne (b' := (-1)) (tgt := 90) C dX12_mark_75 (by decide) rfl (by decide) (fun c12 => ?_) (fun c12 => ?_)
            · have hf := if_f c12 hf
              refine g_aload_n (i := 0) C dX12_mark_90 rfl rfl ?_
              refine gg_X12_s (i := 1) C hiX12_mark_X12 rfl dX12_mark_91 ?_
              refine g_bipush C dX12_mark_94 (by decide) ?_
              refine g_iconst C dX12_mark_96 ?_
              refine g_iload_n (i := 1) C dX12_mark_97 rfl rfl ?_
              refine g_imul C dX12_mark_98 ?_
              refine g_iadd C dX12_mark_99 ?_
              refine g_iload_n (i := 2) C dX12_mark_100 rfl rfl ?_
              refine g_iadd C dX12_mark_101 ?_
              obtain ⟨hb13, hf⟩ := if_inv hf
              refine g_iaload (N := 39) C (by decide) dX12_mark_102 rfl hb13 ?_
              obtain ⟨e1, e2⟩ := some_inv hf
              exact g_iret C hr hlk e1 e2 dX12_mark_103
            · have hf := if_t c12 hf
              refine g_aload_n (i := 0) C dX12_mark_78 rfl rfl ?_
              refine gg_X12_s (i := 1) C hiX12_mark_X12 rfl dX12_mark_79 ?_
              refine g_bipush C dX12_mark_82 (by decide) ?_
              refine g_iload_n (i := 1) C dX12_mark_84 rfl rfl ?_
              refine g_iadd C dX12_mark_85 ?_
              obtain ⟨hb14, hf⟩ := if_inv hf
              refine g_iaload (N := 39) C (by decide) dX12_mark_86 rfl hb14 ?_
              refine g_goto (tgt := 103) C dX12_mark_87 (by decide) ?_
              obtain ⟨e1, e2⟩ := some_inv hf
              exact g_iret C hr hlk e1 e2 dX12_mark_103
          · have hf := if_t c11 hf
            refine g_aload_n (i := 0) C dX12_mark_42 rfl rfl ?_
            refine gg_X12_s (i := 1) C hiX12_mark_X12 rfl dX12_mark_43 ?_
            refine g_bipush C dX12_mark_46 (by decide) ?_
            refine g_iload_n (i := 1) C dX12_mark_48 rfl rfl ?_
            refine g_iadd C dX12_mark_49 ?_
            obtain ⟨hb15, hf⟩ := if_inv hf
            refine g_iaload (N := 39) C (by decide) dX12_mark_50 rfl hb15 ?_
            refine g_if_ne (tgt := 59) C dX12_mark_51 (by decide) rfl (fun c16 => ?_) (fun c16 => ?_)
            · have hf := if_f c16 hf
              refine g_aload_n (i := 0) C dX12_mark_59 rfl rfl ?_
              refine gg_X12_s (i := 1) C hiX12_mark_X12 rfl dX12_mark_60 ?_
              refine g_bipush C dX12_mark_63 (by decide) ?_
              refine g_iload_n (i := 1) C dX12_mark_65 rfl rfl ?_
              refine g_iadd C dX12_mark_66 ?_
              refine g_iaload (N := 39) C (by decide) dX12_mark_67 rfl hb15 ?_
              refine g_iconst C dX12_mark_68 ?_
              refine g_isub C dX12_mark_69 ?_
              refine g_goto (tgt := 103) C dX12_mark_70 (by decide) ?_
              obtain ⟨e1, e2⟩ := some_inv hf
              exact g_iret C hr hlk e1 e2 dX12_mark_103
            · have hf := if_t c16 hf
              refine g_bipush C dX12_mark_54 (by decide) ?_
              refine g_goto (tgt := 103) C dX12_mark_56 (by decide) ?_
              obtain ⟨e1, e2⟩ := some_inv hf
              exact g_iret C hr hlk e1 e2 dX12_mark_103
        · have hf := if_f c10 hf
          refine g_iconst C dX12_mark_34 ?_
          obtain ⟨e1, e2⟩ := some_inv hf
          exact g_iret C hr hlk e1 e2 dX12_mark_35
  · have hf := if_t c4 hf
    refine g_bipush C dX12_mark_7 (by decide) ?_
    obtain ⟨e1, e2⟩ := some_inv hf
    exact g_iret C hr hlk e1 e2 dX12_mark_9
/-! X12_change -/
abbrev rm_X12_change : Room := { frames := 2, cells := 0, slots := 0, locals := 46 }
set_option maxHeartbeats 4000000 in
set_option maxRecDepth 100000 in
theorem c_X12_change {v1 v2 v3 : Int} {σ : Mem} (hf : f_X12_change v1 v2 v3 σ = some (r0, σ0)) : CTi l D ca ad A yX12_change wsX12_change rm_X12_change [.ref (ad 120), .int (iI v1), .int (iI v2), .int (iI v3)] σ r0 σ0 := by
  refine ct_i (cc := cX12_change) (own := RX12) (maxL := 4) (ret := (some .int)) (lv0 := [some (.ref (ad 120)), some (.int (iI v1)), some (.int (iI v2)), some (.int (iI v3))]) (by decide) rfl rfl rfl (Nat.le_of_ble_eq_true rfl) ?_
  intro p e s m below meth c C hr hlk hnm
  unfold f_X12_change at hf
  refine g_aload_n (i := 0) C dX12_change_0 rfl rfl ?_
  obtain ⟨r2, σ1, h3, hf⟩ := ob_inv hf
  refine g_callVi C (c_X12_isOpen  h3) (cwV 0 C.2.2.2.2.1 gX12_change_X12_isOpen rfl rfl rfl (by decide +kernel) ⟨Nat.le_of_ble_eq_true rfl, Nat.le_of_ble_eq_true rfl⟩) ob_X12 rfl rfl rfl rfl (Nat.le_of_ble_eq_true rfl) dX12_change_1 ⟨Nat.zero_le _, Nat.zero_le _⟩ ?_
  refine g_if_ne (tgt := 12) C dX12_change_4 (by decide) rfl (fun c4 => ?_) (fun c4 => ?_)
  · have hf := if_f c4 hf
    refine g_aload_n (i := 0) C dX12_change_12 rfl rfl ?_
    refine g_iload_n (i := 1) C dX12_change_13 rfl rfl ?_
    obtain ⟨r6, σ5, h7, hf⟩ := ob_inv hf
    refine g_callVi C (c_X12_isSort  h7) (cwV 1 C.2.2.2.2.1 gX12_change_X12_isSort rfl rfl rfl (by decide +kernel) ⟨Nat.le_of_ble_eq_true rfl, Nat.le_of_ble_eq_true rfl⟩) ob_X12 rfl rfl rfl rfl (Nat.le_of_ble_eq_true rfl) dX12_change_14 ⟨Nat.zero_le _, Nat.zero_le _⟩ ?_
    refine g_if_eq (tgt := 63) C dX12_change_17 (by decide) rfl (fun c8 => ?_) (fun c8 => ?_)
    · have hf := if_t c8 hf
      refine g_iconst C dX12_change_63 ?_
      obtain ⟨e1, e2⟩ := some_inv hf
      exact g_iret C hr hlk e1 e2 dX12_change_64
    · have hf := if_f c8 hf
      refine g_iload_n (i := 2) C dX12_change_20 rfl rfl ?_
      refine g_i2l C dX12_change_21 rfl ?_
      refine g_lconst (z := 0) C dX12_change_22 (by decide) ?_
      refine g_lconst (z := 1) C dX12_change_23 (by decide) ?_
      obtain ⟨r10, σ9, h11, hf⟩ := ob_inv hf
      refine g_callSi C (c_X12_isIn  h11) (va_cwS 3 C.2.2.2.2.1 gX12_change_X12_isIn rfl rfl rfl (by decide +kernel) ⟨Nat.le_of_ble_eq_true rfl, Nat.le_of_ble_eq_true rfl⟩) rfl rfl (Nat.le_of_ble_eq_true rfl) dX12_change_24 ⟨Nat.zero_le _, Nat.zero_le _⟩ ?_
      refine g_if_eq (tgt := 63) C dX12_change_27 (by decide) rfl (fun c12 => ?_) (fun c12 => ?_)
      · have hf := if_t c12 hf
        refine g_iconst C dX12_change_63 ?_
        obtain ⟨e1, e2⟩ := some_inv hf
        exact g_iret C hr hlk e1 e2 dX12_change_64
      · have hf := if_f c12 hf
        refine g_iload_n (i := 3) C dX12_change_30 rfl rfl ?_
        refine g_i2l C dX12_change_31 rfl ?_
        refine g_lconst (z := 0) C dX12_change_32 (by decide) ?_
        refine g_ldc2 (i := 1) (z := 999) C dX12_change_33 rfl (by decide) ?_
        obtain ⟨r14, σ13, h15, hf⟩ := ob_inv hf
        refine g_callSi C (c_X12_isIn  h15) (va_cwS 3 C.2.2.2.2.1 gX12_change_X12_isIn rfl rfl rfl (by decide +kernel) ⟨Nat.le_of_ble_eq_true rfl, Nat.le_of_ble_eq_true rfl⟩) rfl rfl (Nat.le_of_ble_eq_true rfl) dX12_change_36 ⟨Nat.zero_le _, Nat.zero_le _⟩ ?_
        refine g_if_eq (tgt := 63) C dX12_change_39 (by decide) rfl (fun c16 => ?_) (fun c16 => ?_)
        · have hf := if_t c16 hf
          refine g_iconst C dX12_change_63 ?_
          obtain ⟨e1, e2⟩ := some_inv hf
          exact g_iret C hr hlk e1 e2 dX12_change_64
        · have hf := if_f c16 hf
          refine g_aload_n (i := 0) C dX12_change_42 rfl rfl ?_
          refine g_iload_n (i := 2) C dX12_change_43 rfl rfl ?_
          refine g_if_ne (tgt := 52) C dX12_change_44 (by decide) rfl (fun c17 => ?_) (fun c17 => ?_)
          · have hf := if_f c17 hf
            refine g_bipush C dX12_change_52 (by decide) ?_
            refine g_iload_n (i := 1) C dX12_change_54 rfl rfl ?_
            refine g_iadd C dX12_change_55 ?_
            refine g_iload_n (i := 3) C dX12_change_56 rfl rfl ?_
            obtain ⟨r19, σ18, h20, hf⟩ := ob_inv hf
            refine g_callVi C (c_X12_becomes  h20) (cwV 2 C.2.2.2.2.1 gX12_change_X12_becomes rfl rfl rfl (by decide +kernel) ⟨Nat.le_of_ble_eq_true rfl, Nat.le_of_ble_eq_true rfl⟩) ob_X12 rfl rfl rfl rfl (Nat.le_of_ble_eq_true rfl) dX12_change_57 ⟨Nat.zero_le _, Nat.zero_le _⟩ ?_
            refine g_goto (tgt := 64) C dX12_change_60 (by decide) ?_
            obtain ⟨e1, e2⟩ := some_inv hf
            exact g_iret C hr hlk e1 e2 dX12_change_64
          · have hf := if_t c17 hf
            refine g_bipush C dX12_change_47 (by decide) ?_
            refine g_goto (tgt := 54) C dX12_change_49 (by decide) ?_
            refine g_iload_n (i := 1) C dX12_change_54 rfl rfl ?_
            refine g_iadd C dX12_change_55 ?_
            refine g_iload_n (i := 3) C dX12_change_56 rfl rfl ?_
            obtain ⟨r22, σ21, h23, hf⟩ := ob_inv hf
            refine g_callVi C (c_X12_becomes  h23) (cwV 2 C.2.2.2.2.1 gX12_change_X12_becomes rfl rfl rfl (by decide +kernel) ⟨Nat.le_of_ble_eq_true rfl, Nat.le_of_ble_eq_true rfl⟩) ob_X12 rfl rfl rfl rfl (Nat.le_of_ble_eq_true rfl) dX12_change_57 ⟨Nat.zero_le _, Nat.zero_le _⟩ ?_
            refine g_goto (tgt := 64) C dX12_change_60 (by decide) ?_
            obtain ⟨e1, e2⟩ := some_inv hf
            exact g_iret C hr hlk e1 e2 dX12_change_64
  · have hf := if_t c4 hf
    refine g_bipush C dX12_change_7 (by decide) ?_
    refine g_goto (tgt := 64) C dX12_change_9 (by decide) ?_
    obtain ⟨e1, e2⟩ := some_inv hf
    exact g_iret C hr hlk e1 e2 dX12_change_64
/-! X12_cost -/
abbrev rm_X12_cost : Room := { frames := 2, cells := 0, slots := 0, locals := 46 }
theorem hiX12_cost_X12 : ∀ w ∈ u_ws RX12 TX12 24, w ∈ wsX12_cost := fun _ h => (List.mem_cons_of_mem _ (List.mem_append_right _ h))
set_option maxHeartbeats 4000000 in
set_option maxRecDepth 100000 in
theorem c_X12_cost {v1 v2 v3 : Int} {σ : Mem} (hf : f_X12_cost v1 v2 v3 σ = some (r0, σ0)) : CTi l D ca ad A yX12_cost wsX12_cost rm_X12_cost [.ref (ad 120), .int (iI v1), .int (iI v2), .int (iI v3)] σ r0 σ0 := by
  refine ct_i (cc := cX12_cost) (own := RX12) (maxL := 4) (ret := (some .int)) (lv0 := [some (.ref (ad 120)), some (.int (iI v1)), some (.int (iI v2)), some (.int (iI v3))]) (by decide) rfl rfl rfl (Nat.le_of_ble_eq_true rfl) ?_
  intro p e s m below meth c C hr hlk hnm
  unfold f_X12_cost at hf
  refine g_aload_n (i := 0) C dX12_cost_0 rfl rfl ?_
  obtain ⟨r2, σ1, h3, hf⟩ := ob_inv hf
  refine g_callVi C (c_X12_isOpen  h3) (cwV 0 C.2.2.2.2.1 gX12_cost_X12_isOpen rfl rfl rfl (by decide +kernel) ⟨Nat.le_of_ble_eq_true rfl, Nat.le_of_ble_eq_true rfl⟩) ob_X12 rfl rfl rfl rfl (Nat.le_of_ble_eq_true rfl) dX12_cost_1 ⟨Nat.zero_le _, Nat.zero_le _⟩ ?_
  refine g_if_ne (tgt := 10) C dX12_cost_4 (by decide) rfl (fun c4 => ?_) (fun c4 => ?_)
  · have hf := if_f c4 hf
    refine g_aload_n (i := 0) C dX12_cost_10 rfl rfl ?_
    refine g_iload_n (i := 1) C dX12_cost_11 rfl rfl ?_
    obtain ⟨r6, σ5, h7, hf⟩ := ob_inv hf
    refine g_callVi C (c_X12_isMark  h7) (cwV 1 C.2.2.2.2.1 gX12_cost_X12_isMark rfl rfl rfl (by decide +kernel) ⟨Nat.le_of_ble_eq_true rfl, Nat.le_of_ble_eq_true rfl⟩) ob_X12 rfl rfl rfl rfl (Nat.le_of_ble_eq_true rfl) dX12_cost_12 ⟨Nat.zero_le _, Nat.zero_le _⟩ ?_
    refine g_if_eq (tgt := 55) C dX12_cost_15 (by decide) rfl (fun c8 => ?_) (fun c8 => ?_)
    · have hf := if_t c8 hf
      refine g_iconst C dX12_cost_55 ?_
      obtain ⟨e1, e2⟩ := some_inv hf
      exact g_iret C hr hlk e1 e2 dX12_cost_56
    · have hf := if_f c8 hf
      refine g_iload_n (i := 2) C dX12_cost_18 rfl rfl ?_
      refine g_iconst C dX12_cost_19 ?_
      refine g_icmp_lt (b' := (-1)) (tgt := 55) C dX12_cost_20 (by decide) rfl (by decide) (fun c9 => ?_) (fun c9 => ?_)
      · have hf := if_t c9 hf
        refine g_iconst C dX12_cost_55 ?_
        obtain ⟨e1, e2⟩ := some_inv hf
        exact g_iret C hr hlk e1 e2 dX12_cost_56
      · have hf := if_f c9 hf
        refine g_iload_n (i := 2) C dX12_cost_23 rfl rfl ?_
        refine g_aload_n (i := 0) C dX12_cost_24 rfl rfl ?_
        refine gg_X12_s (i := 1) C hiX12_cost_X12 rfl dX12_cost_25 ?_
        refine g_iconst C dX12_cost_28 ?_
        refine g_iaload (N := 39) (j := 0) C (by decide) dX12_cost_29 (by decide) (by decide) ?_
        refine g_icmp_ge (tgt := 55) C dX12_cost_30 (by decide) rfl rfl (fun c10 => ?_) (fun c10 => ?_)
        · have hf := if_t c10 hf
          refine g_iconst C dX12_cost_55 ?_
          obtain ⟨e1, e2⟩ := some_inv hf
          exact g_iret C hr hlk e1 e2 dX12_cost_56
        · have hf := if_f c10 hf
          refine g_iload_n (i := 3) C dX12_cost_33 rfl rfl ?_
          refine g_i2l C dX12_cost_34 rfl ?_
          refine g_lconst (z := 0) C dX12_cost_35 (by decide) ?_
          refine g_iload_n (i := 2) C dX12_cost_36 rfl rfl ?_
          refine g_if_ge (tgt := 46) C dX12_cost_37 (by decide) rfl (fun c11 => ?_) (fun c11 => ?_)
          · have hf := if_t c11 hf
            refine g_ldc2 (i := 3) (z := 999) C dX12_cost_46 rfl (by decide) ?_
            obtain ⟨r13, σ12, h14, hf⟩ := ob_inv hf
            refine g_callSi C (c_X12_isIn  h14) (va_cwS 3 C.2.2.2.2.1 gX12_cost_X12_isIn rfl rfl rfl (by decide +kernel) ⟨Nat.le_of_ble_eq_true rfl, Nat.le_of_ble_eq_true rfl⟩) rfl rfl (Nat.le_of_ble_eq_true rfl) dX12_cost_49 ⟨Nat.zero_le _, Nat.zero_le _⟩ ?_
            refine g_if_ne (tgt := 57) C dX12_cost_52 (by decide) rfl (fun c15 => ?_) (fun c15 => ?_)
            · have hf := if_f c15 hf
              refine g_aload_n (i := 0) C dX12_cost_57 rfl rfl ?_
              refine g_iload_n (i := 2) C dX12_cost_58 rfl rfl ?_
              refine g_if_ge (tgt := 69) C dX12_cost_59 (by decide) rfl (fun c16 => ?_) (fun c16 => ?_)
              · have hf := if_t c16 hf
                refine g_bipush C dX12_cost_69 (by decide) ?_
                refine g_iconst C dX12_cost_71 ?_
                refine g_iload_n (i := 1) C dX12_cost_72 rfl rfl ?_
                refine g_imul C dX12_cost_73 ?_
                refine g_iadd C dX12_cost_74 ?_
                refine g_iload_n (i := 2) C dX12_cost_75 rfl rfl ?_
                refine g_iadd C dX12_cost_76 ?_
                refine g_iload_n (i := 3) C dX12_cost_77 rfl rfl ?_
                obtain ⟨r18, σ17, h19, hf⟩ := ob_inv hf
                refine g_callVi C (c_X12_becomes  h19) (cwV 2 C.2.2.2.2.1 gX12_cost_X12_becomes rfl rfl rfl (by decide +kernel) ⟨Nat.le_of_ble_eq_true rfl, Nat.le_of_ble_eq_true rfl⟩) ob_X12 rfl rfl rfl rfl (Nat.le_of_ble_eq_true rfl) dX12_cost_78 ⟨Nat.zero_le _, Nat.zero_le _⟩ ?_
                obtain ⟨e1, e2⟩ := some_inv hf
                exact g_iret C hr hlk e1 e2 dX12_cost_81
              · have hf := if_f c16 hf
                refine g_bipush C dX12_cost_62 (by decide) ?_
                refine g_iload_n (i := 1) C dX12_cost_64 rfl rfl ?_
                refine g_iadd C dX12_cost_65 ?_
                refine g_goto (tgt := 77) C dX12_cost_66 (by decide) ?_
                refine g_iload_n (i := 3) C dX12_cost_77 rfl rfl ?_
                obtain ⟨r21, σ20, h22, hf⟩ := ob_inv hf
                refine g_callVi C (c_X12_becomes  h22) (cwV 2 C.2.2.2.2.1 gX12_cost_X12_becomes rfl rfl rfl (by decide +kernel) ⟨Nat.le_of_ble_eq_true rfl, Nat.le_of_ble_eq_true rfl⟩) ob_X12 rfl rfl rfl rfl (Nat.le_of_ble_eq_true rfl) dX12_cost_78 ⟨Nat.zero_le _, Nat.zero_le _⟩ ?_
                obtain ⟨e1, e2⟩ := some_inv hf
                exact g_iret C hr hlk e1 e2 dX12_cost_81
            · have hf := if_t c15 hf
              refine g_iconst C dX12_cost_55 ?_
              obtain ⟨e1, e2⟩ := some_inv hf
              exact g_iret C hr hlk e1 e2 dX12_cost_56
          · have hf := if_f c11 hf
            refine g_ldc2 (i := 2) (z := 99) C dX12_cost_40 rfl (by decide) ?_
            refine g_goto (tgt := 49) C dX12_cost_43 (by decide) ?_
            obtain ⟨r24, σ23, h25, hf⟩ := ob_inv hf
            refine g_callSi C (c_X12_isIn  h25) (va_cwS 3 C.2.2.2.2.1 gX12_cost_X12_isIn rfl rfl rfl (by decide +kernel) ⟨Nat.le_of_ble_eq_true rfl, Nat.le_of_ble_eq_true rfl⟩) rfl rfl (Nat.le_of_ble_eq_true rfl) dX12_cost_49 ⟨Nat.zero_le _, Nat.zero_le _⟩ ?_
            refine g_if_ne (tgt := 57) C dX12_cost_52 (by decide) rfl (fun c26 => ?_) (fun c26 => ?_)
            · have hf := if_f c26 hf
              refine g_aload_n (i := 0) C dX12_cost_57 rfl rfl ?_
              refine g_iload_n (i := 2) C dX12_cost_58 rfl rfl ?_
              refine g_if_ge (tgt := 69) C dX12_cost_59 (by decide) rfl (fun c27 => ?_) (fun c27 => ?_)
              · have hf := if_t c27 hf
                refine g_bipush C dX12_cost_69 (by decide) ?_
                refine g_iconst C dX12_cost_71 ?_
                refine g_iload_n (i := 1) C dX12_cost_72 rfl rfl ?_
                refine g_imul C dX12_cost_73 ?_
                refine g_iadd C dX12_cost_74 ?_
                refine g_iload_n (i := 2) C dX12_cost_75 rfl rfl ?_
                refine g_iadd C dX12_cost_76 ?_
                refine g_iload_n (i := 3) C dX12_cost_77 rfl rfl ?_
                obtain ⟨r29, σ28, h30, hf⟩ := ob_inv hf
                refine g_callVi C (c_X12_becomes  h30) (cwV 2 C.2.2.2.2.1 gX12_cost_X12_becomes rfl rfl rfl (by decide +kernel) ⟨Nat.le_of_ble_eq_true rfl, Nat.le_of_ble_eq_true rfl⟩) ob_X12 rfl rfl rfl rfl (Nat.le_of_ble_eq_true rfl) dX12_cost_78 ⟨Nat.zero_le _, Nat.zero_le _⟩ ?_
                obtain ⟨e1, e2⟩ := some_inv hf
                exact g_iret C hr hlk e1 e2 dX12_cost_81
              · have hf := if_f c27 hf
                refine g_bipush C dX12_cost_62 (by decide) ?_
                refine g_iload_n (i := 1) C dX12_cost_64 rfl rfl ?_
                refine g_iadd C dX12_cost_65 ?_
                refine g_goto (tgt := 77) C dX12_cost_66 (by decide) ?_
                refine g_iload_n (i := 3) C dX12_cost_77 rfl rfl ?_
                obtain ⟨r32, σ31, h33, hf⟩ := ob_inv hf
                refine g_callVi C (c_X12_becomes  h33) (cwV 2 C.2.2.2.2.1 gX12_cost_X12_becomes rfl rfl rfl (by decide +kernel) ⟨Nat.le_of_ble_eq_true rfl, Nat.le_of_ble_eq_true rfl⟩) ob_X12 rfl rfl rfl rfl (Nat.le_of_ble_eq_true rfl) dX12_cost_78 ⟨Nat.zero_le _, Nat.zero_le _⟩ ?_
                obtain ⟨e1, e2⟩ := some_inv hf
                exact g_iret C hr hlk e1 e2 dX12_cost_81
            · have hf := if_t c26 hf
              refine g_iconst C dX12_cost_55 ?_
              obtain ⟨e1, e2⟩ := some_inv hf
              exact g_iret C hr hlk e1 e2 dX12_cost_56
  · have hf := if_t c4 hf
    refine g_bipush C dX12_cost_7 (by decide) ?_
    obtain ⟨e1, e2⟩ := some_inv hf
    exact g_iret C hr hlk e1 e2 dX12_cost_9
/-! X12_think -/
abbrev rm_X12_think : Room := { frames := 2, cells := 0, slots := 0, locals := 46 }
theorem hiX12_think_X12 : ∀ w ∈ u_ws RX12 TX12 24, w ∈ wsX12_think := fun _ h => (List.mem_cons_of_mem _ (List.mem_append_right _ h))
set_option maxHeartbeats 4000000 in
set_option maxRecDepth 100000 in
theorem c_X12_think {v1 v2 : Int} {σ : Mem} (hf : f_X12_think v1 v2 σ = some (r0, σ0)) : CTi l D ca ad A yX12_think wsX12_think rm_X12_think [.ref (ad 120), .int (iI v1), .int (iI v2)] σ r0 σ0 := by
  refine ct_i (cc := cX12_think) (own := RX12) (maxL := 4) (ret := (some .int)) (lv0 := [some (.ref (ad 120)), some (.int (iI v1)), some (.int (iI v2)), none]) (by decide) rfl rfl rfl (Nat.le_of_ble_eq_true rfl) ?_
  intro p e s m below meth c C hr hlk hnm
  unfold f_X12_think at hf
  refine g_aload_n (i := 0) C dX12_think_0 rfl rfl ?_
  obtain ⟨r2, σ1, h3, hf⟩ := ob_inv hf
  refine g_callVi C (c_X12_isOpen  h3) (cwV 0 C.2.2.2.2.1 gX12_think_X12_isOpen rfl rfl rfl (by decide +kernel) ⟨Nat.le_of_ble_eq_true rfl, Nat.le_of_ble_eq_true rfl⟩) ob_X12 rfl rfl rfl rfl (Nat.le_of_ble_eq_true rfl) dX12_think_1 ⟨Nat.zero_le _, Nat.zero_le _⟩ ?_
  refine g_if_ne (tgt := 10) C dX12_think_4 (by decide) rfl (fun c4 => ?_) (fun c4 => ?_)
  · have hf := if_f c4 hf
    refine g_aload_n (i := 0) C dX12_think_10 rfl rfl ?_
    refine g_iload_n (i := 1) C dX12_think_11 rfl rfl ?_
    obtain ⟨r6, σ5, h7, hf⟩ := ob_inv hf
    refine g_callVi C (c_X12_isMark  h7) (cwV 1 C.2.2.2.2.1 gX12_think_X12_isMark rfl rfl rfl (by decide +kernel) ⟨Nat.le_of_ble_eq_true rfl, Nat.le_of_ble_eq_true rfl⟩) ob_X12 rfl rfl rfl rfl (Nat.le_of_ble_eq_true rfl) dX12_think_12 ⟨Nat.zero_le _, Nat.zero_le _⟩ ?_
    refine g_if_eq (tgt := 33) C dX12_think_15 (by decide) rfl (fun c8 => ?_) (fun c8 => ?_)
    · have hf := if_t c8 hf
      refine g_iconst C dX12_think_33 ?_
      obtain ⟨e1, e2⟩ := some_inv hf
      exact g_iret C hr hlk e1 e2 dX12_think_34
    · have hf := if_f c8 hf
      refine g_iload_n (i := 2) C dX12_think_18 rfl rfl ?_
      refine g_iconst C dX12_think_19 ?_
      refine g_icmp_lt (b' := (-1)) (tgt := 33) C dX12_think_20 (by decide) rfl (by decide) (fun c9 => ?_) (fun c9 => ?_)
      · have hf := if_t c9 hf
        refine g_iconst C dX12_think_33 ?_
        obtain ⟨e1, e2⟩ := some_inv hf
        exact g_iret C hr hlk e1 e2 dX12_think_34
      · have hf := if_f c9 hf
        refine g_iload_n (i := 2) C dX12_think_23 rfl rfl ?_
        refine g_aload_n (i := 0) C dX12_think_24 rfl rfl ?_
        refine gg_X12_s (i := 1) C hiX12_think_X12 rfl dX12_think_25 ?_
        refine g_iconst C dX12_think_28 ?_
        refine g_iaload (N := 39) (j := 0) C (by decide) dX12_think_29 (by decide) (by decide) ?_
        refine g_icmp_lt (tgt := 35) C dX12_think_30 (by decide) rfl rfl (fun c10 => ?_) (fun c10 => ?_)
        · have hf := if_t c10 hf
          refine g_aload_n (i := 0) C dX12_think_35 rfl rfl ?_
          refine g_bipush C dX12_think_36 (by decide) ?_
          refine g_iload_n (i := 1) C dX12_think_38 rfl rfl ?_
          refine g_iadd C dX12_think_39 ?_
          refine g_iload_n (i := 2) C dX12_think_40 rfl rfl ?_
          refine g_iconst C dX12_think_41 ?_
          refine g_iadd C dX12_think_42 ?_
          obtain ⟨r12, σ11, h13, hf⟩ := ob_inv hf
          refine g_callVi C (c_X12_becomes  h13) (cwV 2 C.2.2.2.2.1 gX12_think_X12_becomes rfl rfl rfl (by decide +kernel) ⟨Nat.le_of_ble_eq_true rfl, Nat.le_of_ble_eq_true rfl⟩) ob_X12 rfl rfl rfl rfl (Nat.le_of_ble_eq_true rfl) dX12_think_43 ⟨Nat.zero_le _, Nat.zero_le _⟩ ?_
          refine g_istore_n (i := 3) C dX12_think_46 rfl (by decide) rfl ?_
          refine g_iload_n (i := 3) C dX12_think_47 rfl rfl ?_
          refine g_if_ne (tgt := 56) C dX12_think_48 (by decide) rfl (fun c14 => ?_) (fun c14 => ?_)
          · have hf := if_f c14 hf
            refine g_iload_n (i := 3) C dX12_think_56 rfl rfl ?_
            refine g_iconst C dX12_think_57 ?_
            refine g_isub C dX12_think_58 ?_
            obtain ⟨e1, e2⟩ := some_inv hf
            exact g_iret C hr hlk e1 e2 dX12_think_59
          · have hf := if_t c14 hf
            refine g_bipush C dX12_think_51 (by decide) ?_
            refine g_goto (tgt := 59) C dX12_think_53 (by decide) ?_
            obtain ⟨e1, e2⟩ := some_inv hf
            exact g_iret C hr hlk e1 e2 dX12_think_59
        · have hf := if_f c10 hf
          refine g_iconst C dX12_think_33 ?_
          obtain ⟨e1, e2⟩ := some_inv hf
          exact g_iret C hr hlk e1 e2 dX12_think_34
  · have hf := if_t c4 hf
    refine g_bipush C dX12_think_7 (by decide) ?_
    obtain ⟨e1, e2⟩ := some_inv hf
    exact g_iret C hr hlk e1 e2 dX12_think_9
/-! X12_made -/
abbrev rm_X12_made : Room := { frames := 0, cells := 0, slots := 0, locals := 0 }
set_option maxHeartbeats 4000000 in
set_option maxRecDepth 100000 in
theorem it_X12_made_4 (C : Cx p s m args c cX12_made 4 RX12 wsX12_made D ca A) (hr : meth.sig.returnType = (some .int)) (hlk : meth.locks = false) {p1 : Int} {o : (Int × Int × Mem) ⊕ (Int × Mem)} (hc : ∀ (x2 x3 : Int) (σ : Mem), o = .inl (x2, x3, σ) → G p l e rm_X12_made s m args below meth c 4 D ca ad A 0 0 (MQ below (Qi D ca ad A r0 σ0) args s 0 0 A) σ 4 [none, some (.int (iI p1)), some (.int (iI x2)), some (.int (iI x3))] []) (he : ∀ (y2 : Int) (σ : Mem), o = .inr (y2, σ) → G p l e rm_X12_made s m args below meth c 4 D ca ad A 0 0 (MQ below (Qi D ca ad A r0 σ0) args s 0 0 A) σ 19 [none, none, some (.int (iI y2)), none] []) {x2 x3 : Int} {σ : Mem} (hf : f_X12_made_4 p1 x2 x3 σ = some o) : G p l e rm_X12_made s m args below meth c 4 D ca ad A 0 0 (MQ below (Qi D ca ad A r0 σ0) args s 0 0 A) σ 4 [none, some (.int (iI p1)), some (.int (iI x2)), some (.int (iI x3))] [] := by
  unfold f_X12_made_4 at hf
  refine g_iload_n (i := 3) C dX12_made_4 rfl rfl ?_
  refine g_iload_n (i := 1) C dX12_made_5 rfl rfl ?_
  refine g_icmp_ge (tgt := 19) C dX12_made_6 (by decide) rfl rfl (fun c1 => ?_) (fun c1 => ?_)
  · have hf := if_t c1 hf
    exact g_mask [false, false, true, false] (he _ _ (Option.some.inj hf).symm)
  · have hf := if_f c1 hf
    refine g_iload_n (i := 2) C dX12_made_9 rfl rfl ?_
    refine g_iconst C dX12_made_10 ?_
    refine g_idiv (b' := 5) C dX12_made_11 rfl (by decide) (by decide) ?_
    refine g_istore_n (i := 2) C dX12_made_12 rfl (by decide) rfl ?_
    refine g_iinc C dX12_made_13 rfl (by decide) rfl ?_
    refine g_goto (tgt := 4) C dX12_made_16 (by decide) ?_
    exact g_mask [false, true, true, true] (hc _ _ _ (Option.some.inj hf).symm)
set_option maxHeartbeats 4000000 in
set_option maxRecDepth 100000 in
theorem w_X12_made_4 (C : Cx p s m args c cX12_made 4 RX12 wsX12_made D ca A) (hr : meth.sig.returnType = (some .int)) (hlk : meth.locks = false) {p1 : Int} {n : Nat} {x2 x3 : Int} {σ : Mem} {b : (Int × Mem)} (h : itr (fun z : Int × Int × Mem => f_X12_made_4 p1 z.1 z.2.1 z.2.2) n (x2, x3, σ) = some b) (he : ∀ (y2 : Int) (σ : Mem), b = (y2, σ) → G p l e rm_X12_made s m args below meth c 4 D ca ad A 0 0 (MQ below (Qi D ca ad A r0 σ0) args s 0 0 A) σ 19 [none, none, some (.int (iI y2)), none] []) : G p l e rm_X12_made s m args below meth c 4 D ca ad A 0 0 (MQ below (Qi D ca ad A r0 σ0) args s 0 0 A) σ 4 [none, some (.int (iI p1)), some (.int (iI x2)), some (.int (iI x3))] [] :=
  itr_rule (P := fun z : Int × Int × Mem => G p l e rm_X12_made s m args below meth c 4 D ca ad A 0 0 (MQ below (Qi D ca ad A r0 σ0) args s 0 0 A) z.2.2 4 [none, some (.int (iI p1)), some (.int (iI z.1)), some (.int (iI z.2.1))] []) (E := fun b => ∀ (y2 : Int) (σ : Mem), b = (y2, σ) → G p l e rm_X12_made s m args below meth c 4 D ca ad A 0 0 (MQ below (Qi D ca ad A r0 σ0) args s 0 0 A) σ 19 [none, none, some (.int (iI y2)), none] []) (fun z o hb hc he => it_X12_made_4 C hr hlk (fun _ _ _ e => hc _ e) (fun _ _ e => (he _ e) _ _ rfl) hb) n _ _ h he
set_option maxHeartbeats 4000000 in
set_option maxRecDepth 100000 in
theorem c_X12_made {v0 v1 : Int} {σ : Mem} (hf : f_X12_made v0 v1 σ = some (r0, σ0)) : CTi l D ca ad A yX12_made wsX12_made rm_X12_made [.int (iI v0), .int (iI v1)] σ r0 σ0 := by
  refine ct_i (cc := cX12_made) (own := RX12) (maxL := 4) (ret := (some .int)) (lv0 := [some (.int (iI v0)), some (.int (iI v1)), none, none]) (by decide) rfl rfl rfl (Nat.le_of_ble_eq_true rfl) ?_
  intro p e s m below meth c C hr hlk hnm
  unfold f_X12_made at hf
  refine g_iload_n (i := 0) C dX12_made_0 rfl rfl ?_
  refine g_istore_n (i := 2) C dX12_made_1 rfl (by decide) rfl ?_
  refine g_iconst C dX12_made_2 ?_
  refine g_istore_n (i := 3) C dX12_made_3 rfl (by decide) rfl ?_
  obtain ⟨q3, hl4, hf⟩ := lb_inv hf
  refine g_mask [false, true, true, true] (w_X12_made_4 C hr hlk hl4 ?_)
  · rintro y5 σ6 rfl
    refine g_iload_n (i := 2) C dX12_made_19 rfl rfl ?_
    refine g_iconst C dX12_made_20 ?_
    refine g_irem (b' := 5) C dX12_made_21 rfl (by decide) (by decide) ?_
    obtain ⟨e1, e2⟩ := some_inv hf
    exact g_iret C hr hlk e1 e2 dX12_made_22
/-! X12_fits -/
abbrev rm_X12_fits : Room := { frames := 0, cells := 0, slots := 0, locals := 0 }
theorem hiX12_fits_X12 : ∀ w ∈ u_ws RX12 TX12 24, w ∈ wsX12_fits := fun _ h => (List.mem_cons_of_mem _ (List.mem_append_right _ h))
set_option maxHeartbeats 4000000 in
set_option maxRecDepth 100000 in
theorem it_X12_fits_4 (C : Cx p s m args c cX12_fits 3 RX12 wsX12_fits D ca A) (hr : meth.sig.returnType = (some .int)) (hlk : meth.locks = false) {o : (Int × Int × Mem) ⊕ (Int × Mem)} (hc : ∀ (x1 x2 : Int) (σ : Mem), o = .inl (x1, x2, σ) → G p l e rm_X12_fits s m args below meth c 3 D ca ad A 0 0 (MQ below (Qi D ca ad A r0 σ0) args s 0 0 A) σ 4 [some (.ref (ad 120)), some (.int (iI x1)), some (.int (iI x2))] []) (he : ∀ (y1 : Int) (σ : Mem), o = .inr (y1, σ) → G p l e rm_X12_fits s m args below meth c 3 D ca ad A 0 0 (MQ below (Qi D ca ad A r0 σ0) args s 0 0 A) σ 24 [none, some (.int (iI y1)), none] []) {x1 x2 : Int} {σ : Mem} (hf : f_X12_fits_4  x1 x2 σ = some o) : G p l e rm_X12_fits s m args below meth c 3 D ca ad A 0 0 (MQ below (Qi D ca ad A r0 σ0) args s 0 0 A) σ 4 [some (.ref (ad 120)), some (.int (iI x1)), some (.int (iI x2))] [] := by
  unfold f_X12_fits_4 at hf
  refine g_iload_n (i := 2) C dX12_fits_4 rfl rfl ?_
  refine g_aload_n (i := 0) C dX12_fits_5 rfl rfl ?_
  refine gg_X12_s (i := 1) C hiX12_fits_X12 rfl dX12_fits_6 ?_
  refine g_iconst C dX12_fits_9 ?_
  refine g_iaload (N := 39) (j := 0) C (by decide) dX12_fits_10 (by decide) (by decide) ?_
  refine g_icmp_ge (tgt := 24) C dX12_fits_11 (by decide) rfl rfl (fun c1 => ?_) (fun c1 => ?_)
  · have hf := if_t c1 hf
    exact g_mask [false, true, false] (he _ _ (Option.some.inj hf).symm)
  · have hf := if_f c1 hf
    refine g_iload_n (i := 1) C dX12_fits_14 rfl rfl ?_
    refine g_iconst C dX12_fits_15 ?_
    refine g_imul C dX12_fits_16 ?_
    refine g_istore_n (i := 1) C dX12_fits_17 rfl (by decide) rfl ?_
    refine g_iinc C dX12_fits_18 rfl (by decide) rfl ?_
    refine g_goto (tgt := 4) C dX12_fits_21 (by decide) ?_
    exact g_mask [true, true, true] (hc _ _ _ (Option.some.inj hf).symm)
set_option maxHeartbeats 4000000 in
set_option maxRecDepth 100000 in
theorem w_X12_fits_4 (C : Cx p s m args c cX12_fits 3 RX12 wsX12_fits D ca A) (hr : meth.sig.returnType = (some .int)) (hlk : meth.locks = false) {n : Nat} {x1 x2 : Int} {σ : Mem} {b : (Int × Mem)} (h : itr (fun z : Int × Int × Mem => f_X12_fits_4  z.1 z.2.1 z.2.2) n (x1, x2, σ) = some b) (he : ∀ (y1 : Int) (σ : Mem), b = (y1, σ) → G p l e rm_X12_fits s m args below meth c 3 D ca ad A 0 0 (MQ below (Qi D ca ad A r0 σ0) args s 0 0 A) σ 24 [none, some (.int (iI y1)), none] []) : G p l e rm_X12_fits s m args below meth c 3 D ca ad A 0 0 (MQ below (Qi D ca ad A r0 σ0) args s 0 0 A) σ 4 [some (.ref (ad 120)), some (.int (iI x1)), some (.int (iI x2))] [] :=
  itr_rule (P := fun z : Int × Int × Mem => G p l e rm_X12_fits s m args below meth c 3 D ca ad A 0 0 (MQ below (Qi D ca ad A r0 σ0) args s 0 0 A) z.2.2 4 [some (.ref (ad 120)), some (.int (iI z.1)), some (.int (iI z.2.1))] []) (E := fun b => ∀ (y1 : Int) (σ : Mem), b = (y1, σ) → G p l e rm_X12_fits s m args below meth c 3 D ca ad A 0 0 (MQ below (Qi D ca ad A r0 σ0) args s 0 0 A) σ 24 [none, some (.int (iI y1)), none] []) (fun z o hb hc he => it_X12_fits_4 C hr hlk (fun _ _ _ e => hc _ e) (fun _ _ e => (he _ e) _ _ rfl) hb) n _ _ h he
set_option maxHeartbeats 4000000 in
set_option maxRecDepth 100000 in
theorem c_X12_fits {σ : Mem} (hf : f_X12_fits  σ = some (r0, σ0)) : CTi l D ca ad A yX12_fits wsX12_fits rm_X12_fits [.ref (ad 120)] σ r0 σ0 := by
  refine ct_i (cc := cX12_fits) (own := RX12) (maxL := 3) (ret := (some .int)) (lv0 := [some (.ref (ad 120)), none, none]) (by decide) rfl rfl rfl (Nat.le_of_ble_eq_true rfl) ?_
  intro p e s m below meth c C hr hlk hnm
  unfold f_X12_fits at hf
  refine g_iconst C dX12_fits_0 ?_
  refine g_istore_n (i := 1) C dX12_fits_1 rfl (by decide) rfl ?_
  refine g_iconst C dX12_fits_2 ?_
  refine g_istore_n (i := 2) C dX12_fits_3 rfl (by decide) rfl ?_
  obtain ⟨q2, hl3, hf⟩ := lb_inv hf
  refine g_mask [true, true, true] (w_X12_fits_4 C hr hlk hl3 ?_)
  · rintro y4 σ5 rfl
    refine g_iload_n (i := 1) C dX12_fits_24 rfl rfl ?_
    obtain ⟨e1, e2⟩ := some_inv hf
    exact g_iret C hr hlk e1 e2 dX12_fits_25
/-! X12_isFit -/
abbrev rm_X12_isFit : Room := { frames := 1, cells := 0, slots := 0, locals := 25 }
theorem hiX12_isFit_X12 : ∀ w ∈ u_ws RX12 TX12 24, w ∈ wsX12_isFit := fun _ h => (List.mem_cons_of_mem _ (List.mem_append_right _ h))
set_option maxHeartbeats 4000000 in
set_option maxRecDepth 100000 in
theorem it_X12_isFit_20 (C : Cx p s m args c cX12_isFit 3 RX12 wsX12_isFit D ca A) (hr : meth.sig.returnType = (some .boolean)) (hlk : meth.locks = false) {p1 : Int} {o : (Int × Mem) ⊕ ((Int × Mem) ⊕ (Mem))} (hc : ∀ (x2 : Int) (σ : Mem), o = .inl (x2, σ) → G p l e rm_X12_isFit s m args below meth c 3 D ca ad A 0 0 (MQ below (Qi D ca ad A r0 σ0) args s 0 0 A) σ 20 [some (.ref (ad 120)), some (.int (iI p1)), some (.int (iI x2))] []) (he1 : ∀ (r1 : Int) (σ1 : Mem), o = .inr (.inl (r1, σ1)) → r1 = r0 ∧ σ1 = σ0) (he2 : ∀ (σ : Mem), o = .inr (.inr σ) → G p l e rm_X12_isFit s m args below meth c 3 D ca ad A 0 0 (MQ below (Qi D ca ad A r0 σ0) args s 0 0 A) σ 77 [none, none, none] []) {x2 : Int} {σ : Mem} (hf : f_X12_isFit_20 p1 x2 σ = some o) : G p l e rm_X12_isFit s m args below meth c 3 D ca ad A 0 0 (MQ below (Qi D ca ad A r0 σ0) args s 0 0 A) σ 20 [some (.ref (ad 120)), some (.int (iI p1)), some (.int (iI x2))] [] := by
  unfold f_X12_isFit_20 at hf
  refine g_iload_n (i := 2) C dX12_isFit_20 rfl rfl ?_
  refine g_aload_n (i := 0) C dX12_isFit_21 rfl rfl ?_
  refine gg_X12_s (i := 1) C hiX12_isFit_X12 rfl dX12_isFit_22 ?_
  refine g_iconst C dX12_isFit_25 ?_
  refine g_iaload (N := 39) (j := 0) C (by decide) dX12_isFit_26 (by decide) (by decide) ?_
  refine g_icmp_ge (tgt := 77) C dX12_isFit_27 (by decide) rfl rfl (fun c21 => ?_) (fun c21 => ?_)
  · have hf := if_t c21 hf
    exact g_mask [false, false, false] (he2 _ (Option.some.inj hf).symm)
  · have hf := if_f c21 hf
    refine g_iload_n (i := 1) C dX12_isFit_30 rfl rfl ?_
    refine g_iload_n (i := 2) C dX12_isFit_31 rfl rfl ?_
    obtain ⟨r23, σ22, h24, hf⟩ := ob_inv hf
    refine g_callSi C (c_X12_made  h24) (va_cwS 2 C.2.2.2.2.1 gX12_isFit_X12_made rfl rfl rfl (by decide +kernel) ⟨Nat.le_of_ble_eq_true rfl, Nat.le_of_ble_eq_true rfl⟩) rfl rfl (Nat.le_of_ble_eq_true rfl) dX12_isFit_32 ⟨Nat.zero_le _, Nat.zero_le _⟩ ?_
    refine g_iconst C dX12_isFit_35 ?_
    refine g_icmp_eq (b' := 4) (tgt := 71) C dX12_isFit_36 (by decide) rfl (by decide) (fun c25 => ?_) (fun c25 => ?_)
    · have hf := if_t c25 hf
      refine g_iinc C dX12_isFit_71 rfl (by decide) rfl ?_
      refine g_goto (tgt := 20) C dX12_isFit_74 (by decide) ?_
      exact g_mask [true, true, true] (hc _ _ (Option.some.inj hf).symm)
    · have hf := if_f c25 hf
      refine g_iload_n (i := 1) C dX12_isFit_39 rfl rfl ?_
      refine g_iload_n (i := 2) C dX12_isFit_40 rfl rfl ?_
      obtain ⟨r27, σ26, h28, hf⟩ := ob_inv hf
      refine g_callSi C (c_X12_made  h28) (va_cwS 2 C.2.2.2.2.1 gX12_isFit_X12_made rfl rfl rfl (by decide +kernel) ⟨Nat.le_of_ble_eq_true rfl, Nat.le_of_ble_eq_true rfl⟩) rfl rfl (Nat.le_of_ble_eq_true rfl) dX12_isFit_41 ⟨Nat.zero_le _, Nat.zero_le _⟩ ?_
      refine g_aload_n (i := 0) C dX12_isFit_44 rfl rfl ?_
      refine gg_X12_s (i := 1) C hiX12_isFit_X12 rfl dX12_isFit_45 ?_
      refine g_iconst C dX12_isFit_48 ?_
      refine g_iaload (N := 39) (j := 1) C (by decide) dX12_isFit_49 (by decide) (by decide) ?_
      refine g_icmp_ge (tgt := 69) C dX12_isFit_50 (by decide) rfl rfl (fun c29 => ?_) (fun c29 => ?_)
      · have hf := if_t c29 hf
        refine g_iconst C dX12_isFit_69 ?_
        obtain ⟨e1, e2⟩ := he1 _ _ (Option.some.inj hf).symm
        exact g_zret C hr hlk (by decide) e1 e2 dX12_isFit_70
      · have hf := if_f c29 hf
        refine g_aload_n (i := 0) C dX12_isFit_53 rfl rfl ?_
        refine gg_X12_barred (i := 2) C hiX12_isFit_X12 rfl dX12_isFit_54 ?_
        refine g_iload_n (i := 1) C dX12_isFit_57 rfl rfl ?_
        refine g_iload_n (i := 2) C dX12_isFit_58 rfl rfl ?_
        obtain ⟨r31, σ30, h32, hf⟩ := ob_inv hf
        refine g_callSi C (c_X12_made  h32) (va_cwS 2 C.2.2.2.2.1 gX12_isFit_X12_made rfl rfl rfl (by decide +kernel) ⟨Nat.le_of_ble_eq_true rfl, Nat.le_of_ble_eq_true rfl⟩) rfl rfl (Nat.le_of_ble_eq_true rfl) dX12_isFit_59 ⟨Nat.zero_le _, Nat.zero_le _⟩ ?_
        refine g_ishr C dX12_isFit_62 ?_
        refine g_iconst C dX12_isFit_63 ?_
        refine g_iand C dX12_isFit_64 ?_
        refine g_iconst C dX12_isFit_65 ?_
        refine g_icmp_ne (b' := 1) (tgt := 71) C dX12_isFit_66 (by decide) rfl (by decide) (fun c33 => ?_) (fun c33 => ?_)
        · have hf := if_f c33 hf
          refine g_iinc C dX12_isFit_71 rfl (by decide) rfl ?_
          refine g_goto (tgt := 20) C dX12_isFit_74 (by decide) ?_
          exact g_mask [true, true, true] (hc _ _ (Option.some.inj hf).symm)
        · have hf := if_t c33 hf
          refine g_iconst C dX12_isFit_69 ?_
          obtain ⟨e1, e2⟩ := he1 _ _ (Option.some.inj hf).symm
          exact g_zret C hr hlk (by decide) e1 e2 dX12_isFit_70
set_option maxHeartbeats 4000000 in
set_option maxRecDepth 100000 in
theorem w_X12_isFit_20 (C : Cx p s m args c cX12_isFit 3 RX12 wsX12_isFit D ca A) (hr : meth.sig.returnType = (some .boolean)) (hlk : meth.locks = false) {p1 : Int} {n : Nat} {x2 : Int} {σ : Mem} {b : ((Int × Mem) ⊕ (Mem))} (h : itr (fun z : Int × Mem => f_X12_isFit_20 p1 z.1 z.2) n (x2, σ) = some b) (he1 : ∀ (r1 : Int) (σ1 : Mem), b = .inl (r1, σ1) → r1 = r0 ∧ σ1 = σ0) (he2 : ∀ (σ : Mem), b = .inr σ → G p l e rm_X12_isFit s m args below meth c 3 D ca ad A 0 0 (MQ below (Qi D ca ad A r0 σ0) args s 0 0 A) σ 77 [none, none, none] []) : G p l e rm_X12_isFit s m args below meth c 3 D ca ad A 0 0 (MQ below (Qi D ca ad A r0 σ0) args s 0 0 A) σ 20 [some (.ref (ad 120)), some (.int (iI p1)), some (.int (iI x2))] [] :=
  itr_rule (P := fun z : Int × Mem => G p l e rm_X12_isFit s m args below meth c 3 D ca ad A 0 0 (MQ below (Qi D ca ad A r0 σ0) args s 0 0 A) z.2 20 [some (.ref (ad 120)), some (.int (iI p1)), some (.int (iI z.1))] []) (E := fun b => (∀ (r1 : Int) (σ1 : Mem), b = .inl (r1, σ1) → r1 = r0 ∧ σ1 = σ0) ∧ (∀ (σ : Mem), b = .inr σ → G p l e rm_X12_isFit s m args below meth c 3 D ca ad A 0 0 (MQ below (Qi D ca ad A r0 σ0) args s 0 0 A) σ 77 [none, none, none] [])) (fun z o hb hc he => it_X12_isFit_20 C hr hlk (fun _ _ e => hc _ e) (fun r1 σ1 e => (he _ e).1 r1 σ1 rfl) (fun _ e => (he _ e).2 _ rfl) hb) n _ _ h ⟨he1, he2⟩
set_option maxHeartbeats 4000000 in
set_option maxRecDepth 100000 in
theorem c_X12_isFit {v1 : Int} {σ : Mem} (hf : f_X12_isFit v1 σ = some (r0, σ0)) : CTi l D ca ad A yX12_isFit wsX12_isFit rm_X12_isFit [.ref (ad 120), .int (iI v1)] σ r0 σ0 := by
  refine ct_i (cc := cX12_isFit) (own := RX12) (maxL := 3) (ret := (some .boolean)) (lv0 := [some (.ref (ad 120)), some (.int (iI v1)), none]) (by decide) rfl rfl rfl (Nat.le_of_ble_eq_true rfl) ?_
  intro p e s m below meth c C hr hlk hnm
  unfold f_X12_isFit at hf
  refine g_iload_n (i := 1) C dX12_isFit_0 rfl rfl ?_
  refine g_i2l C dX12_isFit_1 rfl ?_
  refine g_lconst (z := 0) C dX12_isFit_2 (by decide) ?_
  refine g_aload_n (i := 0) C dX12_isFit_3 rfl rfl ?_
  obtain ⟨r2, σ1, h3, hf⟩ := ob_inv hf
  refine g_callVi C (c_X12_fits  h3) (cwV 0 C.2.2.2.2.1 gX12_isFit_X12_fits rfl rfl rfl (by decide +kernel) ⟨Nat.le_of_ble_eq_true rfl, Nat.le_of_ble_eq_true rfl⟩) ob_X12 rfl rfl rfl rfl (Nat.le_of_ble_eq_true rfl) dX12_isFit_4 ⟨Nat.zero_le _, Nat.zero_le _⟩ ?_
  refine g_iconst C dX12_isFit_7 ?_
  refine g_isub C dX12_isFit_8 ?_
  refine g_i2l C dX12_isFit_9 rfl ?_
  obtain ⟨r5, σ4, h6, hf⟩ := ob_inv hf
  refine g_callSi C (c_X12_isIn  h6) (va_cwS 3 C.2.2.2.2.1 gX12_isFit_X12_isIn rfl rfl rfl (by decide +kernel) ⟨Nat.le_of_ble_eq_true rfl, Nat.le_of_ble_eq_true rfl⟩) rfl rfl (Nat.le_of_ble_eq_true rfl) dX12_isFit_10 ⟨Nat.zero_le _, Nat.zero_le _⟩ ?_
  refine g_if_ne (tgt := 18) C dX12_isFit_13 (by decide) rfl (fun c7 => ?_) (fun c7 => ?_)
  · have hf := if_f c7 hf
    refine g_iconst C dX12_isFit_18 ?_
    refine g_istore_n (i := 2) C dX12_isFit_19 rfl (by decide) rfl ?_
    obtain ⟨q34, hl35, hf⟩ := lb_inv hf
    refine g_mask [true, true, true] (w_X12_isFit_20 C hr hlk hl35 ?_ ?_)
    · rintro r1 σ1 rfl
      exact some_inv hf
    · rintro σ36 rfl
      have hf := se_r hf
      refine g_iconst C dX12_isFit_77 ?_
      obtain ⟨e1, e2⟩ := some_inv hf
      exact g_zret C hr hlk (by decide) e1 e2 dX12_isFit_78
  · have hf := if_t c7 hf
    refine g_iconst C dX12_isFit_16 ?_
    obtain ⟨e1, e2⟩ := some_inv hf
    exact g_zret C hr hlk (by decide) e1 e2 dX12_isFit_17
/-! X12_isMade -/
abbrev rm_X12_isMade : Room := { frames := 1, cells := 0, slots := 0, locals := 23 }
theorem hiX12_isMade_X12 : ∀ w ∈ u_ws RX12 TX12 24, w ∈ wsX12_isMade := fun _ h => (List.mem_cons_of_mem _ (List.mem_append_right _ h))
set_option maxHeartbeats 4000000 in
set_option maxRecDepth 100000 in
theorem it_X12_isMade_5 (C : Cx p s m args c cX12_isMade 5 RX12 wsX12_isMade D ca A) (hr : meth.sig.returnType = (some .boolean)) (hlk : meth.locks = false) {p1 p2 : Int} {o : (Int × Int × Mem) ⊕ (Int × Mem)} (hc : ∀ (x3 x4 : Int) (σ : Mem), o = .inl (x3, x4, σ) → G p l e rm_X12_isMade s m args below meth c 5 D ca ad A 0 0 (MQ below (Qi D ca ad A r0 σ0) args s 0 0 A) σ 5 [some (.ref (ad 120)), some (.int (iI p1)), some (.int (iI p2)), some (.int (iI x3)), some (.int (iI x4))] []) (he : ∀ (y3 : Int) (σ : Mem), o = .inr (y3, σ) → G p l e rm_X12_isMade s m args below meth c 5 D ca ad A 0 0 (MQ below (Qi D ca ad A r0 σ0) args s 0 0 A) σ 42 [none, none, none, some (.int (iI y3)), none] []) {x3 x4 : Int} {σ : Mem} (hf : f_X12_isMade_5 p1 p2 x3 x4 σ = some o) : G p l e rm_X12_isMade s m args below meth c 5 D ca ad A 0 0 (MQ below (Qi D ca ad A r0 σ0) args s 0 0 A) σ 5 [some (.ref (ad 120)), some (.int (iI p1)), some (.int (iI p2)), some (.int (iI x3)), some (.int (iI x4))] [] := by
  unfold f_X12_isMade_5 at hf
  refine g_iload C dX12_isMade_5 rfl ?_
  refine g_aload_n (i := 0) C dX12_isMade_7 rfl rfl ?_
  refine gg_X12_s (i := 1) C hiX12_isMade_X12 rfl dX12_isMade_8 ?_
  refine g_iconst C dX12_isMade_11 ?_
  refine g_iaload (N := 39) (j := 0) C (by decide) dX12_isMade_12 (by decide) (by decide) ?_
  refine g_icmp_ge (tgt := 42) C dX12_isMade_13 (by decide) rfl rfl (fun c1 => ?_) (fun c1 => ?_)
  · have hf := if_t c1 hf
    exact g_mask [false, false, false, true, false] (he _ _ (Option.some.inj hf).symm)
  · have hf := if_f c1 hf
    refine g_iload_n (i := 3) C dX12_isMade_16 rfl rfl ?_
    refine g_if_ne (tgt := 30) C dX12_isMade_17 (by decide) rfl (fun c2 => ?_) (fun c2 => ?_)
    · have hf := if_f c2 hf
      refine g_iconst C dX12_isMade_30 ?_
      refine g_goto (tgt := 35) C dX12_isMade_31 (by decide) ?_
      refine g_istore_n (i := 3) C dX12_isMade_35 rfl (by decide) rfl ?_
      refine g_iinc C dX12_isMade_36 rfl (by decide) rfl ?_
      refine g_goto (tgt := 5) C dX12_isMade_39 (by decide) ?_
      exact g_mask [true, true, true, true, true] (hc _ _ _ (Option.some.inj hf).symm)
    · have hf := if_t c2 hf
      refine g_iload_n (i := 1) C dX12_isMade_20 rfl rfl ?_
      refine g_iload C dX12_isMade_21 rfl ?_
      obtain ⟨r4, σ3, h5, hf⟩ := ob_inv hf
      refine g_callSi C (c_X12_made  h5) (va_cwS 2 C.2.2.2.2.1 gX12_isMade_X12_made rfl rfl rfl (by decide +kernel) ⟨Nat.le_of_ble_eq_true rfl, Nat.le_of_ble_eq_true rfl⟩) rfl rfl (Nat.le_of_ble_eq_true rfl) dX12_isMade_23 ⟨Nat.zero_le _, Nat.zero_le _⟩ ?_
      refine g_iload_n (i := 2) C dX12_isMade_26 rfl rfl ?_
      refine g_icmp_ne (tgt := 34) C dX12_isMade_27 (by decide) rfl rfl (fun c6 => ?_) (fun c6 => ?_)
      · have hf := if_f c6 hf
        refine g_iconst C dX12_isMade_34 ?_
        refine g_istore_n (i := 3) C dX12_isMade_35 rfl (by decide) rfl ?_
        refine g_iinc C dX12_isMade_36 rfl (by decide) rfl ?_
        refine g_goto (tgt := 5) C dX12_isMade_39 (by decide) ?_
        exact g_mask [true, true, true, true, true] (hc _ _ _ (Option.some.inj hf).symm)
      · have hf := if_t c6 hf
        refine g_iconst C dX12_isMade_30 ?_
        refine g_goto (tgt := 35) C dX12_isMade_31 (by decide) ?_
        refine g_istore_n (i := 3) C dX12_isMade_35 rfl (by decide) rfl ?_
        refine g_iinc C dX12_isMade_36 rfl (by decide) rfl ?_
        refine g_goto (tgt := 5) C dX12_isMade_39 (by decide) ?_
        exact g_mask [true, true, true, true, true] (hc _ _ _ (Option.some.inj hf).symm)
set_option maxHeartbeats 4000000 in
set_option maxRecDepth 100000 in
theorem w_X12_isMade_5 (C : Cx p s m args c cX12_isMade 5 RX12 wsX12_isMade D ca A) (hr : meth.sig.returnType = (some .boolean)) (hlk : meth.locks = false) {p1 p2 : Int} {n : Nat} {x3 x4 : Int} {σ : Mem} {b : (Int × Mem)} (h : itr (fun z : Int × Int × Mem => f_X12_isMade_5 p1 p2 z.1 z.2.1 z.2.2) n (x3, x4, σ) = some b) (he : ∀ (y3 : Int) (σ : Mem), b = (y3, σ) → G p l e rm_X12_isMade s m args below meth c 5 D ca ad A 0 0 (MQ below (Qi D ca ad A r0 σ0) args s 0 0 A) σ 42 [none, none, none, some (.int (iI y3)), none] []) : G p l e rm_X12_isMade s m args below meth c 5 D ca ad A 0 0 (MQ below (Qi D ca ad A r0 σ0) args s 0 0 A) σ 5 [some (.ref (ad 120)), some (.int (iI p1)), some (.int (iI p2)), some (.int (iI x3)), some (.int (iI x4))] [] :=
  itr_rule (P := fun z : Int × Int × Mem => G p l e rm_X12_isMade s m args below meth c 5 D ca ad A 0 0 (MQ below (Qi D ca ad A r0 σ0) args s 0 0 A) z.2.2 5 [some (.ref (ad 120)), some (.int (iI p1)), some (.int (iI p2)), some (.int (iI z.1)), some (.int (iI z.2.1))] []) (E := fun b => ∀ (y3 : Int) (σ : Mem), b = (y3, σ) → G p l e rm_X12_isMade s m args below meth c 5 D ca ad A 0 0 (MQ below (Qi D ca ad A r0 σ0) args s 0 0 A) σ 42 [none, none, none, some (.int (iI y3)), none] []) (fun z o hb hc he => it_X12_isMade_5 C hr hlk (fun _ _ _ e => hc _ e) (fun _ _ e => (he _ e) _ _ rfl) hb) n _ _ h he
set_option maxHeartbeats 4000000 in
set_option maxRecDepth 100000 in
theorem c_X12_isMade {v1 v2 : Int} {σ : Mem} (hf : f_X12_isMade v1 v2 σ = some (r0, σ0)) : CTi l D ca ad A yX12_isMade wsX12_isMade rm_X12_isMade [.ref (ad 120), .int (iI v1), .int (iI v2)] σ r0 σ0 := by
  refine ct_i (cc := cX12_isMade) (own := RX12) (maxL := 5) (ret := (some .boolean)) (lv0 := [some (.ref (ad 120)), some (.int (iI v1)), some (.int (iI v2)), none, none]) (by decide) rfl rfl rfl (Nat.le_of_ble_eq_true rfl) ?_
  intro p e s m below meth c C hr hlk hnm
  unfold f_X12_isMade at hf
  refine g_iconst C dX12_isMade_0 ?_
  refine g_istore_n (i := 3) C dX12_isMade_1 rfl (by decide) rfl ?_
  refine g_iconst C dX12_isMade_2 ?_
  refine g_istore C dX12_isMade_3 (by decide) rfl ?_
  obtain ⟨q7, hl8, hf⟩ := lb_inv hf
  refine g_mask [true, true, true, true, true] (w_X12_isMade_5 C hr hlk hl8 ?_)
  · rintro y9 σ10 rfl
    refine g_iload_n (i := 3) C dX12_isMade_42 rfl rfl ?_
    obtain ⟨hz11, hf⟩ := if_inv hf
    obtain ⟨e1, e2⟩ := some_inv hf
    exact g_zret C hr hlk hz11 e1 e2 dX12_isMade_43
/-! X12_leastWorth -/
abbrev rm_X12_leastWorth : Room := { frames := 0, cells := 0, slots := 0, locals := 0 }
theorem hiX12_leastWorth_X12 : ∀ w ∈ u_ws RX12 TX12 24, w ∈ wsX12_leastWorth := fun _ h => (List.mem_cons_of_mem _ (List.mem_append_right _ h))
set_option maxHeartbeats 4000000 in
set_option maxRecDepth 100000 in
theorem it_X12_leastWorth_10 (C : Cx p s m args c cX12_leastWorth 3 RX12 wsX12_leastWorth D ca A) (hr : meth.sig.returnType = (some .int)) (hlk : meth.locks = false) {o : (Int × Int × Mem) ⊕ (Int × Mem)} (hc : ∀ (x1 x2 : Int) (σ : Mem), o = .inl (x1, x2, σ) → G p l e rm_X12_leastWorth s m args below meth c 3 D ca ad A 0 0 (MQ below (Qi D ca ad A r0 σ0) args s 0 0 A) σ 10 [some (.ref (ad 120)), some (.int (iI x1)), some (.int (iI x2))] []) (he : ∀ (y1 : Int) (σ : Mem), o = .inr (y1, σ) → G p l e rm_X12_leastWorth s m args below meth c 3 D ca ad A 0 0 (MQ below (Qi D ca ad A r0 σ0) args s 0 0 A) σ 53 [none, some (.int (iI y1)), none] []) {x1 x2 : Int} {σ : Mem} (hf : f_X12_leastWorth_10  x1 x2 σ = some o) : G p l e rm_X12_leastWorth s m args below meth c 3 D ca ad A 0 0 (MQ below (Qi D ca ad A r0 σ0) args s 0 0 A) σ 10 [some (.ref (ad 120)), some (.int (iI x1)), some (.int (iI x2))] [] := by
  unfold f_X12_leastWorth_10 at hf
  refine g_iload_n (i := 2) C dX12_leastWorth_10 rfl rfl ?_
  refine g_aload_n (i := 0) C dX12_leastWorth_11 rfl rfl ?_
  refine gg_X12_s (i := 1) C hiX12_leastWorth_X12 rfl dX12_leastWorth_12 ?_
  refine g_iconst C dX12_leastWorth_15 ?_
  refine g_iaload (N := 39) (j := 0) C (by decide) dX12_leastWorth_16 (by decide) (by decide) ?_
  refine g_icmp_ge (tgt := 53) C dX12_leastWorth_17 (by decide) rfl rfl (fun c1 => ?_) (fun c1 => ?_)
  · have hf := if_t c1 hf
    exact g_mask [false, true, false] (he _ _ (Option.some.inj hf).symm)
  · have hf := if_f c1 hf
    refine g_aload_n (i := 0) C dX12_leastWorth_20 rfl rfl ?_
    refine gg_X12_s (i := 1) C hiX12_leastWorth_X12 rfl dX12_leastWorth_21 ?_
    refine g_bipush C dX12_leastWorth_24 (by decide) ?_
    refine g_iload_n (i := 2) C dX12_leastWorth_26 rfl rfl ?_
    refine g_iadd C dX12_leastWorth_27 ?_
    obtain ⟨hb2, hf⟩ := if_inv hf
    refine g_iaload (N := 39) C (by decide) dX12_leastWorth_28 rfl hb2 ?_
    refine g_iload_n (i := 1) C dX12_leastWorth_29 rfl rfl ?_
    refine g_icmp_ge (tgt := 45) C dX12_leastWorth_30 (by decide) rfl rfl (fun c3 => ?_) (fun c3 => ?_)
    · have hf := if_t c3 hf
      refine g_iload_n (i := 1) C dX12_leastWorth_45 rfl rfl ?_
      refine g_istore_n (i := 1) C dX12_leastWorth_46 rfl (by decide) rfl ?_
      refine g_iinc C dX12_leastWorth_47 rfl (by decide) rfl ?_
      refine g_goto (tgt := 10) C dX12_leastWorth_50 (by decide) ?_
      exact g_mask [true, true, true] (hc _ _ _ (Option.some.inj hf).symm)
    · have hf := if_f c3 hf
      refine g_aload_n (i := 0) C dX12_leastWorth_33 rfl rfl ?_
      refine gg_X12_s (i := 1) C hiX12_leastWorth_X12 rfl dX12_leastWorth_34 ?_
      refine g_bipush C dX12_leastWorth_37 (by decide) ?_
      refine g_iload_n (i := 2) C dX12_leastWorth_39 rfl rfl ?_
      refine g_iadd C dX12_leastWorth_40 ?_
      refine g_iaload (N := 39) C (by decide) dX12_leastWorth_41 rfl hb2 ?_
      refine g_goto (tgt := 46) C dX12_leastWorth_42 (by decide) ?_
      refine g_istore_n (i := 1) C dX12_leastWorth_46 rfl (by decide) rfl ?_
      refine g_iinc C dX12_leastWorth_47 rfl (by decide) rfl ?_
      refine g_goto (tgt := 10) C dX12_leastWorth_50 (by decide) ?_
      exact g_mask [true, true, true] (hc _ _ _ (Option.some.inj hf).symm)
set_option maxHeartbeats 4000000 in
set_option maxRecDepth 100000 in
theorem w_X12_leastWorth_10 (C : Cx p s m args c cX12_leastWorth 3 RX12 wsX12_leastWorth D ca A) (hr : meth.sig.returnType = (some .int)) (hlk : meth.locks = false) {n : Nat} {x1 x2 : Int} {σ : Mem} {b : (Int × Mem)} (h : itr (fun z : Int × Int × Mem => f_X12_leastWorth_10  z.1 z.2.1 z.2.2) n (x1, x2, σ) = some b) (he : ∀ (y1 : Int) (σ : Mem), b = (y1, σ) → G p l e rm_X12_leastWorth s m args below meth c 3 D ca ad A 0 0 (MQ below (Qi D ca ad A r0 σ0) args s 0 0 A) σ 53 [none, some (.int (iI y1)), none] []) : G p l e rm_X12_leastWorth s m args below meth c 3 D ca ad A 0 0 (MQ below (Qi D ca ad A r0 σ0) args s 0 0 A) σ 10 [some (.ref (ad 120)), some (.int (iI x1)), some (.int (iI x2))] [] :=
  itr_rule (P := fun z : Int × Int × Mem => G p l e rm_X12_leastWorth s m args below meth c 3 D ca ad A 0 0 (MQ below (Qi D ca ad A r0 σ0) args s 0 0 A) z.2.2 10 [some (.ref (ad 120)), some (.int (iI z.1)), some (.int (iI z.2.1))] []) (E := fun b => ∀ (y1 : Int) (σ : Mem), b = (y1, σ) → G p l e rm_X12_leastWorth s m args below meth c 3 D ca ad A 0 0 (MQ below (Qi D ca ad A r0 σ0) args s 0 0 A) σ 53 [none, some (.int (iI y1)), none] []) (fun z o hb hc he => it_X12_leastWorth_10 C hr hlk (fun _ _ _ e => hc _ e) (fun _ _ e => (he _ e) _ _ rfl) hb) n _ _ h he
set_option maxHeartbeats 4000000 in
set_option maxRecDepth 100000 in
theorem c_X12_leastWorth {σ : Mem} (hf : f_X12_leastWorth  σ = some (r0, σ0)) : CTi l D ca ad A yX12_leastWorth wsX12_leastWorth rm_X12_leastWorth [.ref (ad 120)] σ r0 σ0 := by
  refine ct_i (cc := cX12_leastWorth) (own := RX12) (maxL := 3) (ret := (some .int)) (lv0 := [some (.ref (ad 120)), none, none]) (by decide) rfl rfl rfl (Nat.le_of_ble_eq_true rfl) ?_
  intro p e s m below meth c C hr hlk hnm
  unfold f_X12_leastWorth at hf
  refine g_aload_n (i := 0) C dX12_leastWorth_0 rfl rfl ?_
  refine gg_X12_s (i := 1) C hiX12_leastWorth_X12 rfl dX12_leastWorth_1 ?_
  refine g_bipush C dX12_leastWorth_4 (by decide) ?_
  refine g_iaload (N := 39) (j := 7) C (by decide) dX12_leastWorth_6 (by decide) (by decide) ?_
  refine g_istore_n (i := 1) C dX12_leastWorth_7 rfl (by decide) rfl ?_
  refine g_iconst C dX12_leastWorth_8 ?_
  refine g_istore_n (i := 2) C dX12_leastWorth_9 rfl (by decide) rfl ?_
  obtain ⟨q5, hl6, hf⟩ := lb_inv hf
  refine g_mask [true, true, true] (w_X12_leastWorth_10 C hr hlk hl6 ?_)
  · rintro y7 σ8 rfl
    refine g_iload_n (i := 1) C dX12_leastWorth_53 rfl rfl ?_
    obtain ⟨e1, e2⟩ := some_inv hf
    exact g_iret C hr hlk e1 e2 dX12_leastWorth_54
/-! X12_findPay -/
abbrev rm_X12_findPay : Room := { frames := 1, cells := 0, slots := 0, locals := 23 }
theorem hiX12_findPay_X12 : ∀ w ∈ u_ws RX12 TX12 24, w ∈ wsX12_findPay := fun _ h => (List.mem_cons_of_mem _ (List.mem_append_right _ h))
set_option maxHeartbeats 4000000 in
set_option maxRecDepth 100000 in
theorem it_X12_findPay_12 (C : Cx p s m args c cX12_findPay 4 RX12 wsX12_findPay D ca A) (hr : meth.sig.returnType = none) (hlk : meth.locks = false) {p1 p2 : Int} {o : (Int × Mem) ⊕ (Mem)} (hc : ∀ (x3 : Int) (σ : Mem), o = .inl (x3, σ) → G p l e rm_X12_findPay s m args below meth c 4 D ca ad A 0 0 (MQ below (Qv D ca ad A σ0) args s 0 0 A) σ 12 [some (.ref (ad 120)), some (.int (iI p1)), some (.int (iI p2)), some (.int (iI x3))] []) (he : ∀ (σ : Mem), o = .inr σ → G p l e rm_X12_findPay s m args below meth c 4 D ca ad A 0 0 (MQ below (Qv D ca ad A σ0) args s 0 0 A) σ 87 [some (.ref (ad 120)), none, some (.int (iI p2)), none] []) {x3 : Int} {σ : Mem} (hf : f_X12_findPay_12 p1 p2 x3 σ = some o) : G p l e rm_X12_findPay s m args below meth c 4 D ca ad A 0 0 (MQ below (Qv D ca ad A σ0) args s 0 0 A) σ 12 [some (.ref (ad 120)), some (.int (iI p1)), some (.int (iI p2)), some (.int (iI x3))] [] := by
  unfold f_X12_findPay_12 at hf
  refine g_iload_n (i := 3) C dX12_findPay_12 rfl rfl ?_
  refine g_aload_n (i := 0) C dX12_findPay_13 rfl rfl ?_
  refine gg_X12_s (i := 3) C hiX12_findPay_X12 rfl dX12_findPay_14 ?_
  refine g_iconst C dX12_findPay_17 ?_
  refine g_iaload (N := 39) (j := 0) C (by decide) dX12_findPay_18 (by decide) (by decide) ?_
  refine g_icmp_ge (tgt := 87) C dX12_findPay_19 (by decide) rfl rfl (fun c3 => ?_) (fun c3 => ?_)
  · have hf := if_t c3 hf
    exact g_mask [true, false, true, false] (he _ (Option.some.inj hf).symm)
  · have hf := if_f c3 hf
    refine g_iload_n (i := 1) C dX12_findPay_22 rfl rfl ?_
    refine g_iload_n (i := 3) C dX12_findPay_23 rfl rfl ?_
    obtain ⟨r5, σ4, h6, hf⟩ := ob_inv hf
    refine g_callSi C (c_X12_made  h6) (va_cwS 2 C.2.2.2.2.1 gX12_findPay_X12_made rfl rfl rfl (by decide +kernel) ⟨Nat.le_of_ble_eq_true rfl, Nat.le_of_ble_eq_true rfl⟩) rfl rfl (Nat.le_of_ble_eq_true rfl) dX12_findPay_24 ⟨Nat.zero_le _, Nat.zero_le _⟩ ?_
    refine g_iload_n (i := 2) C dX12_findPay_27 rfl rfl ?_
    refine g_icmp_eq (tgt := 34) C dX12_findPay_28 (by decide) rfl rfl (fun c7 => ?_) (fun c7 => ?_)
    · have hf := if_t c7 hf
      refine g_aload_n (i := 0) C dX12_findPay_34 rfl rfl ?_
      refine g_dup C dX12_findPay_35 rfl ?_
      refine gg_X12_above (i := 1) C hiX12_findPay_X12 rfl dX12_findPay_36 ?_
      refine g_aload_n (i := 0) C dX12_findPay_39 rfl rfl ?_
      refine gg_X12_s (i := 3) C hiX12_findPay_X12 rfl dX12_findPay_40 ?_
      refine g_iconst C dX12_findPay_43 ?_
      refine g_iload_n (i := 3) C dX12_findPay_44 rfl rfl ?_
      refine g_iadd C dX12_findPay_45 ?_
      obtain ⟨hb8, hf⟩ := if_inv hf
      refine g_iaload (N := 39) C (by decide) dX12_findPay_46 rfl hb8 ?_
      refine g_i2l C dX12_findPay_47 rfl ?_
      refine g_aload_n (i := 0) C dX12_findPay_48 rfl rfl ?_
      refine gg_X12_s (i := 3) C hiX12_findPay_X12 rfl dX12_findPay_49 ?_
      refine g_bipush C dX12_findPay_52 (by decide) ?_
      refine g_iload_n (i := 3) C dX12_findPay_54 rfl rfl ?_
      refine g_iadd C dX12_findPay_55 ?_
      obtain ⟨hb9, hf⟩ := if_inv hf
      refine g_iaload (N := 39) C (by decide) dX12_findPay_56 rfl hb9 ?_
      refine g_i2l C dX12_findPay_57 rfl ?_
      refine g_lmul C dX12_findPay_58 ?_
      refine g_ladd C dX12_findPay_59 ?_
      refine gp_X12_above (i := 1) C hiX12_findPay_X12 rfl dX12_findPay_60 ?_
      refine g_aload_n (i := 0) C dX12_findPay_63 rfl rfl ?_
      refine g_dup C dX12_findPay_64 rfl ?_
      refine gg_X12_below (i := 2) C hiX12_findPay_X12 rfl dX12_findPay_65 ?_
      refine g_aload_n (i := 0) C dX12_findPay_68 rfl rfl ?_
      refine gg_X12_s (i := 3) C hiX12_findPay_X12 rfl dX12_findPay_69 ?_
      refine g_iconst C dX12_findPay_72 ?_
      refine g_iload_n (i := 3) C dX12_findPay_73 rfl rfl ?_
      refine g_iadd C dX12_findPay_74 ?_
      refine g_iaload (N := 39) C (by decide) dX12_findPay_75 rfl hb8 ?_
      refine g_i2l C dX12_findPay_76 rfl ?_
      refine g_ladd C dX12_findPay_77 ?_
      refine gp_X12_below (i := 2) C hiX12_findPay_X12 rfl dX12_findPay_78 ?_
      refine g_iinc C dX12_findPay_81 rfl (by decide) rfl ?_
      refine g_goto (tgt := 12) C dX12_findPay_84 (by decide) ?_
      exact g_mask [true, true, true, true] (hc _ _ (Option.some.inj hf).symm)
    · have hf := if_f c7 hf
      refine g_goto (tgt := 81) C dX12_findPay_31 (by decide) ?_
      refine g_iinc C dX12_findPay_81 rfl (by decide) rfl ?_
      refine g_goto (tgt := 12) C dX12_findPay_84 (by decide) ?_
      exact g_mask [true, true, true, true] (hc _ _ (Option.some.inj hf).symm)
set_option maxHeartbeats 4000000 in
set_option maxRecDepth 100000 in
theorem w_X12_findPay_12 (C : Cx p s m args c cX12_findPay 4 RX12 wsX12_findPay D ca A) (hr : meth.sig.returnType = none) (hlk : meth.locks = false) {p1 p2 : Int} {n : Nat} {x3 : Int} {σ : Mem} {b : (Mem)} (h : itr (fun z : Int × Mem => f_X12_findPay_12 p1 p2 z.1 z.2) n (x3, σ) = some b) (he : ∀ (σ : Mem), b = σ → G p l e rm_X12_findPay s m args below meth c 4 D ca ad A 0 0 (MQ below (Qv D ca ad A σ0) args s 0 0 A) σ 87 [some (.ref (ad 120)), none, some (.int (iI p2)), none] []) : G p l e rm_X12_findPay s m args below meth c 4 D ca ad A 0 0 (MQ below (Qv D ca ad A σ0) args s 0 0 A) σ 12 [some (.ref (ad 120)), some (.int (iI p1)), some (.int (iI p2)), some (.int (iI x3))] [] :=
  itr_rule (P := fun z : Int × Mem => G p l e rm_X12_findPay s m args below meth c 4 D ca ad A 0 0 (MQ below (Qv D ca ad A σ0) args s 0 0 A) z.2 12 [some (.ref (ad 120)), some (.int (iI p1)), some (.int (iI p2)), some (.int (iI z.1))] []) (E := fun b => ∀ (σ : Mem), b = σ → G p l e rm_X12_findPay s m args below meth c 4 D ca ad A 0 0 (MQ below (Qv D ca ad A σ0) args s 0 0 A) σ 87 [some (.ref (ad 120)), none, some (.int (iI p2)), none] []) (fun z o hb hc he => it_X12_findPay_12 C hr hlk (fun _ _ e => hc _ e) (fun _ e => (he _ e) _ rfl) hb) n _ _ h he
set_option maxHeartbeats 4000000 in
set_option maxRecDepth 100000 in
theorem c_X12_findPay {v1 v2 : Int} {σ : Mem} (hf : f_X12_findPay v1 v2 σ = some (r0, σ0)) : CTv l D ca ad A yX12_findPay wsX12_findPay rm_X12_findPay [.ref (ad 120), .int (iI v1), .int (iI v2)] σ σ0 := by
  refine ct_v (cc := cX12_findPay) (own := RX12) (maxL := 4) (ret := none) (lv0 := [some (.ref (ad 120)), some (.int (iI v1)), some (.int (iI v2)), none]) (by decide) rfl rfl rfl (Nat.le_of_ble_eq_true rfl) ?_
  intro p e s m below meth c C hr hlk hnm
  unfold f_X12_findPay at hf
  refine g_aload_n (i := 0) C dX12_findPay_0 rfl rfl ?_
  refine g_lconst (z := 0) C dX12_findPay_1 (by decide) ?_
  refine gp_X12_above (i := 1) C hiX12_findPay_X12 rfl dX12_findPay_2 ?_
  refine g_aload_n (i := 0) C dX12_findPay_5 rfl rfl ?_
  refine g_lconst (z := 0) C dX12_findPay_6 (by decide) ?_
  refine gp_X12_below (i := 2) C hiX12_findPay_X12 rfl dX12_findPay_7 ?_
  refine g_iconst C dX12_findPay_10 ?_
  refine g_istore_n (i := 3) C dX12_findPay_11 rfl (by decide) rfl ?_
  obtain ⟨q12, hl13, hf⟩ := lb_inv hf
  refine g_mask [true, true, true, true] (w_X12_findPay_12 C hr hlk hl13 ?_)
  · rintro σ14 rfl
    refine g_aload_n (i := 0) C dX12_findPay_87 rfl rfl ?_
    refine gg_X12_below (i := 2) C hiX12_findPay_X12 rfl dX12_findPay_88 ?_
    refine g_lconst (z := 0) C dX12_findPay_91 (by decide) ?_
    refine g_lcmp_ne (b' := 0) (tgt := 152) C dX12_findPay_92 dX12_findPay_93 (by decide) rfl (by decide) (fun c15 => ?_) (fun c15 => ?_)
    · have hf := if_f c15 hf
      refine g_aload_n (i := 0) C dX12_findPay_152 rfl rfl ?_
      refine g_dup C dX12_findPay_153 rfl ?_
      refine gg_X12_above (i := 1) C hiX12_findPay_X12 rfl dX12_findPay_154 ?_
      refine g_aload_n (i := 0) C dX12_findPay_157 rfl rfl ?_
      refine gg_X12_s (i := 3) C hiX12_findPay_X12 rfl dX12_findPay_158 ?_
      refine g_bipush C dX12_findPay_161 (by decide) ?_
      refine g_iload_n (i := 2) C dX12_findPay_163 rfl rfl ?_
      refine g_iadd C dX12_findPay_164 ?_
      obtain ⟨hb16, hf⟩ := if_inv hf
      refine g_iaload (N := 39) C (by decide) dX12_findPay_165 rfl hb16 ?_
      refine g_i2l C dX12_findPay_166 rfl ?_
      refine g_aload_n (i := 0) C dX12_findPay_167 rfl rfl ?_
      refine gg_X12_below (i := 2) C hiX12_findPay_X12 rfl dX12_findPay_168 ?_
      refine g_lmul C dX12_findPay_171 ?_
      refine g_ladd C dX12_findPay_172 ?_
      refine gp_X12_above (i := 1) C hiX12_findPay_X12 rfl dX12_findPay_173 ?_
      obtain ⟨e1, e2⟩ := some_inv hf
      exact g_vret C hr hlk e2 dX12_findPay_176
    · have hf := if_t c15 hf
      refine g_aload_n (i := 0) C dX12_findPay_96 rfl rfl ?_
      refine g_lconst (z := 1) C dX12_findPay_97 (by decide) ?_
      refine gp_X12_below (i := 2) C hiX12_findPay_X12 rfl dX12_findPay_98 ?_
      refine g_aload_n (i := 0) C dX12_findPay_101 rfl rfl ?_
      refine g_aload_n (i := 0) C dX12_findPay_102 rfl rfl ?_
      refine gg_X12_s (i := 3) C hiX12_findPay_X12 rfl dX12_findPay_103 ?_
      refine g_bipush C dX12_findPay_106 (by decide) ?_
      refine g_iload_n (i := 2) C dX12_findPay_108 rfl rfl ?_
      refine g_iadd C dX12_findPay_109 ?_
      obtain ⟨hb19, hf⟩ := if_inv hf
      refine g_iaload (N := 39) C (by decide) dX12_findPay_110 rfl hb19 ?_
      refine g_if_le (tgt := 144) C dX12_findPay_111 (by decide) rfl (fun c20 => ?_) (fun c20 => ?_)
      · have hf := if_t c20 hf
        refine g_aload_n (i := 0) C dX12_findPay_144 rfl rfl ?_
        obtain ⟨r22, σ21, h23, hf⟩ := ob_inv hf
        refine g_callVi C (c_X12_leastWorth  h23) (cwV 0 C.2.2.2.2.1 gX12_findPay_X12_leastWorth rfl rfl rfl (by decide +kernel) ⟨Nat.le_of_ble_eq_true rfl, Nat.le_of_ble_eq_true rfl⟩) ob_X12 rfl rfl rfl rfl (Nat.le_of_ble_eq_true rfl) dX12_findPay_145 ⟨Nat.zero_le _, Nat.zero_le _⟩ ?_
        refine g_i2l C dX12_findPay_148 rfl ?_
        refine gp_X12_above (i := 1) C hiX12_findPay_X12 rfl dX12_findPay_149 ?_
        refine g_aload_n (i := 0) C dX12_findPay_152 rfl rfl ?_
        refine g_dup C dX12_findPay_153 rfl ?_
        refine gg_X12_above (i := 1) C hiX12_findPay_X12 rfl dX12_findPay_154 ?_
        refine g_aload_n (i := 0) C dX12_findPay_157 rfl rfl ?_
        refine gg_X12_s (i := 3) C hiX12_findPay_X12 rfl dX12_findPay_158 ?_
        refine g_bipush C dX12_findPay_161 (by decide) ?_
        refine g_iload_n (i := 2) C dX12_findPay_163 rfl rfl ?_
        refine g_iadd C dX12_findPay_164 ?_
        obtain ⟨hb25, hf⟩ := if_inv hf
        refine g_iaload (N := 39) C (by decide) dX12_findPay_165 rfl hb25 ?_
        refine g_i2l C dX12_findPay_166 rfl ?_
        refine g_aload_n (i := 0) C dX12_findPay_167 rfl rfl ?_
        refine gg_X12_below (i := 2) C hiX12_findPay_X12 rfl dX12_findPay_168 ?_
        refine g_lmul C dX12_findPay_171 ?_
        refine g_ladd C dX12_findPay_172 ?_
        refine gp_X12_above (i := 1) C hiX12_findPay_X12 rfl dX12_findPay_173 ?_
        obtain ⟨e1, e2⟩ := some_inv hf
        exact g_vret C hr hlk e2 dX12_findPay_176
      · have hf := if_f c20 hf
        refine g_aload_n (i := 0) C dX12_findPay_114 rfl rfl ?_
        refine gg_X12_allOpen (i := 4) C hiX12_findPay_X12 rfl dX12_findPay_115 ?_
        refine g_if_ne (tgt := 144) C dX12_findPay_118 (by decide) rfl (fun c27 => ?_) (fun c27 => ?_)
        · have hf := if_f c27 hf
          refine g_aload_n (i := 0) C dX12_findPay_144 rfl rfl ?_
          obtain ⟨r29, σ28, h30, hf⟩ := ob_inv hf
          refine g_callVi C (c_X12_leastWorth  h30) (cwV 0 C.2.2.2.2.1 gX12_findPay_X12_leastWorth rfl rfl rfl (by decide +kernel) ⟨Nat.le_of_ble_eq_true rfl, Nat.le_of_ble_eq_true rfl⟩) ob_X12 rfl rfl rfl rfl (Nat.le_of_ble_eq_true rfl) dX12_findPay_145 ⟨Nat.zero_le _, Nat.zero_le _⟩ ?_
          refine g_i2l C dX12_findPay_148 rfl ?_
          refine gp_X12_above (i := 1) C hiX12_findPay_X12 rfl dX12_findPay_149 ?_
          refine g_aload_n (i := 0) C dX12_findPay_152 rfl rfl ?_
          refine g_dup C dX12_findPay_153 rfl ?_
          refine gg_X12_above (i := 1) C hiX12_findPay_X12 rfl dX12_findPay_154 ?_
          refine g_aload_n (i := 0) C dX12_findPay_157 rfl rfl ?_
          refine gg_X12_s (i := 3) C hiX12_findPay_X12 rfl dX12_findPay_158 ?_
          refine g_bipush C dX12_findPay_161 (by decide) ?_
          refine g_iload_n (i := 2) C dX12_findPay_163 rfl rfl ?_
          refine g_iadd C dX12_findPay_164 ?_
          obtain ⟨hb32, hf⟩ := if_inv hf
          refine g_iaload (N := 39) C (by decide) dX12_findPay_165 rfl hb32 ?_
          refine g_i2l C dX12_findPay_166 rfl ?_
          refine g_aload_n (i := 0) C dX12_findPay_167 rfl rfl ?_
          refine gg_X12_below (i := 2) C hiX12_findPay_X12 rfl dX12_findPay_168 ?_
          refine g_lmul C dX12_findPay_171 ?_
          refine g_ladd C dX12_findPay_172 ?_
          refine gp_X12_above (i := 1) C hiX12_findPay_X12 rfl dX12_findPay_173 ?_
          obtain ⟨e1, e2⟩ := some_inv hf
          exact g_vret C hr hlk e2 dX12_findPay_176
        · have hf := if_t c27 hf
          refine g_aload_n (i := 0) C dX12_findPay_121 rfl rfl ?_
          refine gg_X12_s (i := 3) C hiX12_findPay_X12 rfl dX12_findPay_122 ?_
          refine g_bipush C dX12_findPay_125 (by decide) ?_
          refine g_aload_n (i := 0) C dX12_findPay_127 rfl rfl ?_
          refine gg_X12_s (i := 3) C hiX12_findPay_X12 rfl dX12_findPay_128 ?_
          refine g_bipush C dX12_findPay_131 (by decide) ?_
          refine g_iload_n (i := 2) C dX12_findPay_133 rfl rfl ?_
          refine g_iadd C dX12_findPay_134 ?_
          refine g_iaload (N := 39) C (by decide) dX12_findPay_135 rfl hb19 ?_
          refine g_iadd C dX12_findPay_136 ?_
          refine g_iconst C dX12_findPay_137 ?_
          refine g_isub C dX12_findPay_138 ?_
          obtain ⟨hb34, hf⟩ := if_inv hf
          refine g_iaload (N := 39) C (by decide) dX12_findPay_139 rfl hb34 ?_
          refine g_i2l C dX12_findPay_140 rfl ?_
          refine g_goto (tgt := 149) C dX12_findPay_141 (by decide) ?_
          refine gp_X12_above (i := 1) C hiX12_findPay_X12 rfl dX12_findPay_149 ?_
          refine g_aload_n (i := 0) C dX12_findPay_152 rfl rfl ?_
          refine g_dup C dX12_findPay_153 rfl ?_
          refine gg_X12_above (i := 1) C hiX12_findPay_X12 rfl dX12_findPay_154 ?_
          refine g_aload_n (i := 0) C dX12_findPay_157 rfl rfl ?_
          refine gg_X12_s (i := 3) C hiX12_findPay_X12 rfl dX12_findPay_158 ?_
          refine g_bipush C dX12_findPay_161 (by decide) ?_
          refine g_iload_n (i := 2) C dX12_findPay_163 rfl rfl ?_
          refine g_iadd C dX12_findPay_164 ?_
          obtain ⟨hb36, hf⟩ := if_inv hf
          refine g_iaload (N := 39) C (by decide) dX12_findPay_165 rfl hb36 ?_
          refine g_i2l C dX12_findPay_166 rfl ?_
          refine g_aload_n (i := 0) C dX12_findPay_167 rfl rfl ?_
          refine gg_X12_below (i := 2) C hiX12_findPay_X12 rfl dX12_findPay_168 ?_
          refine g_lmul C dX12_findPay_171 ?_
          refine g_ladd C dX12_findPay_172 ?_
          refine gp_X12_above (i := 1) C hiX12_findPay_X12 rfl dX12_findPay_173 ?_
          obtain ⟨e1, e2⟩ := some_inv hf
          exact g_vret C hr hlk e2 dX12_findPay_176
/-! X12_findGets -/
abbrev rm_X12_findGets : Room := { frames := 2, cells := 0, slots := 0, locals := 46 }
theorem hiX12_findGets_X12 : ∀ w ∈ u_ws RX12 TX12 24, w ∈ wsX12_findGets := fun _ h => (List.mem_cons_of_mem _ (List.mem_append_right _ h))
set_option maxHeartbeats 4000000 in
set_option maxRecDepth 100000 in
theorem it_X12_findGets_58 (C : Cx p s m args c cX12_findGets 6 RX12 wsX12_findGets D ca A) (hr : meth.sig.returnType = none) (hlk : meth.locks = false) {p2 p3 : Int} {o : (Int × Int × Mem) ⊕ (Int × Mem)} (hc : ∀ (x4 x5 : Int) (σ : Mem), o = .inl (x4, x5, σ) → G p l e rm_X12_findGets s m args below meth c 6 D ca ad A 0 0 (MQ below (Qv D ca ad A σ0) args s 0 0 A) σ 58 [some (.ref (ad 120)), none, some (.int (iI p2)), some (.int (iI p3)), some (.int (iI x4)), some (.int (iI x5))] []) (he : ∀ (y4 : Int) (σ : Mem), o = .inr (y4, σ) → G p l e rm_X12_findGets s m args below meth c 6 D ca ad A 0 0 (MQ below (Qv D ca ad A σ0) args s 0 0 A) σ 106 [some (.ref (ad 120)), none, some (.int (iI p2)), some (.int (iI p3)), some (.int (iI y4)), none] []) {x4 x5 : Int} {σ : Mem} (hf : f_X12_findGets_58 p2 p3 x4 x5 σ = some o) : G p l e rm_X12_findGets s m args below meth c 6 D ca ad A 0 0 (MQ below (Qv D ca ad A σ0) args s 0 0 A) σ 58 [some (.ref (ad 120)), none, some (.int (iI p2)), some (.int (iI p3)), some (.int (iI x4)), some (.int (iI x5))] [] := by
  unfold f_X12_findGets_58 at hf
  refine g_iload C dX12_findGets_58 rfl ?_
  refine g_aload_n (i := 0) C dX12_findGets_60 rfl rfl ?_
  refine gg_X12_years (i := 1) C hiX12_findGets_X12 rfl dX12_findGets_61 ?_
  refine g_icmp_ge (tgt := 106) C dX12_findGets_64 (by decide) rfl rfl (fun c6 => ?_) (fun c6 => ?_)
  · have hf := if_t c6 hf
    exact g_mask [true, false, true, true, true, false] (he _ _ (Option.some.inj hf).symm)
  · have hf := if_f c6 hf
    refine g_iload C dX12_findGets_67 rfl ?_
    refine g_aload_n (i := 0) C dX12_findGets_69 rfl rfl ?_
    refine gg_X12_s (i := 2) C hiX12_findGets_X12 rfl dX12_findGets_70 ?_
    refine g_iconst C dX12_findGets_73 ?_
    refine g_iaload (N := 39) (j := 2) C (by decide) dX12_findGets_74 (by decide) (by decide) ?_
    refine g_iload C dX12_findGets_75 rfl ?_
    refine g_imul C dX12_findGets_77 ?_
    refine g_bipush C dX12_findGets_78 (by decide) ?_
    refine g_icmp_le (b' := 100) (tgt := 88) C dX12_findGets_80 (by decide) rfl (by decide) (fun c7 => ?_) (fun c7 => ?_)
    · have hf := if_t c7 hf
      refine g_aload_n (i := 0) C dX12_findGets_88 rfl rfl ?_
      refine gg_X12_s (i := 2) C hiX12_findGets_X12 rfl dX12_findGets_89 ?_
      refine g_iconst C dX12_findGets_92 ?_
      refine g_iaload (N := 39) (j := 2) C (by decide) dX12_findGets_93 (by decide) (by decide) ?_
      refine g_iload C dX12_findGets_94 rfl ?_
      refine g_imul C dX12_findGets_96 ?_
      refine g_iadd C dX12_findGets_97 ?_
      refine g_istore C dX12_findGets_98 (by decide) rfl ?_
      refine g_iinc C dX12_findGets_100 rfl (by decide) rfl ?_
      refine g_goto (tgt := 58) C dX12_findGets_103 (by decide) ?_
      exact g_mask [true, false, true, true, true, true] (hc _ _ _ (Option.some.inj hf).symm)
    · have hf := if_f c7 hf
      refine g_bipush C dX12_findGets_83 (by decide) ?_
      refine g_goto (tgt := 97) C dX12_findGets_85 (by decide) ?_
      refine g_iadd C dX12_findGets_97 ?_
      refine g_istore C dX12_findGets_98 (by decide) rfl ?_
      refine g_iinc C dX12_findGets_100 rfl (by decide) rfl ?_
      refine g_goto (tgt := 58) C dX12_findGets_103 (by decide) ?_
      exact g_mask [true, false, true, true, true, true] (hc _ _ _ (Option.some.inj hf).symm)
set_option maxHeartbeats 4000000 in
set_option maxRecDepth 100000 in
theorem w_X12_findGets_58 (C : Cx p s m args c cX12_findGets 6 RX12 wsX12_findGets D ca A) (hr : meth.sig.returnType = none) (hlk : meth.locks = false) {p2 p3 : Int} {n : Nat} {x4 x5 : Int} {σ : Mem} {b : (Int × Mem)} (h : itr (fun z : Int × Int × Mem => f_X12_findGets_58 p2 p3 z.1 z.2.1 z.2.2) n (x4, x5, σ) = some b) (he : ∀ (y4 : Int) (σ : Mem), b = (y4, σ) → G p l e rm_X12_findGets s m args below meth c 6 D ca ad A 0 0 (MQ below (Qv D ca ad A σ0) args s 0 0 A) σ 106 [some (.ref (ad 120)), none, some (.int (iI p2)), some (.int (iI p3)), some (.int (iI y4)), none] []) : G p l e rm_X12_findGets s m args below meth c 6 D ca ad A 0 0 (MQ below (Qv D ca ad A σ0) args s 0 0 A) σ 58 [some (.ref (ad 120)), none, some (.int (iI p2)), some (.int (iI p3)), some (.int (iI x4)), some (.int (iI x5))] [] :=
  itr_rule (P := fun z : Int × Int × Mem => G p l e rm_X12_findGets s m args below meth c 6 D ca ad A 0 0 (MQ below (Qv D ca ad A σ0) args s 0 0 A) z.2.2 58 [some (.ref (ad 120)), none, some (.int (iI p2)), some (.int (iI p3)), some (.int (iI z.1)), some (.int (iI z.2.1))] []) (E := fun b => ∀ (y4 : Int) (σ : Mem), b = (y4, σ) → G p l e rm_X12_findGets s m args below meth c 6 D ca ad A 0 0 (MQ below (Qv D ca ad A σ0) args s 0 0 A) σ 106 [some (.ref (ad 120)), none, some (.int (iI p2)), some (.int (iI p3)), some (.int (iI y4)), none] []) (fun z o hb hc he => it_X12_findGets_58 C hr hlk (fun _ _ _ e => hc _ e) (fun _ _ e => (he _ e) _ _ rfl) hb) n _ _ h he
set_option maxHeartbeats 4000000 in
set_option maxRecDepth 100000 in
theorem c_X12_findGets {v1 v2 v3 : Int} {σ : Mem} (hf : f_X12_findGets v1 v2 v3 σ = some (r0, σ0)) : CTv l D ca ad A yX12_findGets wsX12_findGets rm_X12_findGets [.ref (ad 120), .int (iI v1), .int (iI v2), .int (iI v3)] σ σ0 := by
  refine ct_v (cc := cX12_findGets) (own := RX12) (maxL := 6) (ret := none) (lv0 := [some (.ref (ad 120)), some (.int (iI v1)), some (.int (iI v2)), some (.int (iI v3)), none, none]) (by decide) rfl rfl rfl (Nat.le_of_ble_eq_true rfl) ?_
  intro p e s m below meth c C hr hlk hnm
  unfold f_X12_findGets at hf
  refine g_iload_n (i := 3) C dX12_findGets_0 rfl rfl ?_
  refine g_iconst C dX12_findGets_1 ?_
  refine g_icmp_ne (b' := 4) (tgt := 31) C dX12_findGets_2 (by decide) rfl (by decide) (fun c1 => ?_) (fun c1 => ?_)
  · have hf := if_f c1 hf
    refine g_aload_n (i := 0) C dX12_findGets_31 rfl rfl ?_
    refine g_iload_n (i := 1) C dX12_findGets_32 rfl rfl ?_
    refine g_iload_n (i := 3) C dX12_findGets_33 rfl rfl ?_
    obtain ⟨r3, σ2, h4, hf⟩ := ob_inv hf
    refine g_callVv C (c_X12_findPay  h4) (cwV 2 C.2.2.2.2.1 gX12_findGets_X12_findPay rfl rfl rfl (by decide +kernel) ⟨Nat.le_of_ble_eq_true rfl, Nat.le_of_ble_eq_true rfl⟩) ob_X12 rfl rfl rfl rfl (Nat.le_of_ble_eq_true rfl) dX12_findGets_34 ⟨Nat.zero_le _, Nat.zero_le _⟩ ?_
    refine g_aload_n (i := 0) C dX12_findGets_37 rfl rfl ?_
    refine gg_X12_years (i := 1) C hiX12_findGets_X12 rfl dX12_findGets_38 ?_
    refine g_iconst C dX12_findGets_41 ?_
    refine g_icmp_gt (b' := 1) (tgt := 52) C dX12_findGets_42 (by decide) rfl (by decide) (fun c5 => ?_) (fun c5 => ?_)
    · have hf := if_t c5 hf
      refine g_iconst C dX12_findGets_52 ?_
      refine g_istore C dX12_findGets_53 (by decide) rfl ?_
      refine g_iconst C dX12_findGets_55 ?_
      refine g_istore C dX12_findGets_56 (by decide) rfl ?_
      obtain ⟨q9, hl10, hf⟩ := lb_inv hf
      refine g_mask [true, false, true, true, true, true] (w_X12_findGets_58 C hr hlk hl10 ?_)
      · rintro y11 σ12 rfl
        refine g_aload_n (i := 0) C dX12_findGets_106 rfl rfl ?_
        refine g_ldc2 (i := 6) (z := 100) C dX12_findGets_107 rfl (by decide) ?_
        refine g_aload_n (i := 0) C dX12_findGets_110 rfl rfl ?_
        refine gg_X12_years (i := 1) C hiX12_findGets_X12 rfl dX12_findGets_111 ?_
        refine g_i2l C dX12_findGets_114 rfl ?_
        refine g_lmul C dX12_findGets_115 ?_
        refine g_iload C dX12_findGets_116 rfl ?_
        refine g_i2l C dX12_findGets_118 rfl ?_
        refine g_lsub C dX12_findGets_119 ?_
        refine g_aload_n (i := 0) C dX12_findGets_120 rfl rfl ?_
        refine gg_X12_above (i := 3) C hiX12_findGets_X12 rfl dX12_findGets_121 ?_
        refine g_lmul C dX12_findGets_124 ?_
        refine g_iload C dX12_findGets_125 rfl ?_
        refine g_i2l C dX12_findGets_127 rfl ?_
        refine g_aload_n (i := 0) C dX12_findGets_128 rfl rfl ?_
        refine gg_X12_s (i := 2) C hiX12_findGets_X12 rfl dX12_findGets_129 ?_
        refine g_bipush C dX12_findGets_132 (by decide) ?_
        refine g_iload_n (i := 2) C dX12_findGets_134 rfl rfl ?_
        refine g_iadd C dX12_findGets_135 ?_
        obtain ⟨hb13, hf⟩ := if_inv hf
        refine g_iaload (N := 39) C (by decide) dX12_findGets_136 rfl hb13 ?_
        refine g_aload_n (i := 0) C dX12_findGets_137 rfl rfl ?_
        refine gg_X12_s (i := 2) C hiX12_findGets_X12 rfl dX12_findGets_138 ?_
        refine g_bipush C dX12_findGets_141 (by decide) ?_
        refine g_iload_n (i := 3) C dX12_findGets_143 rfl rfl ?_
        refine g_iadd C dX12_findGets_144 ?_
        obtain ⟨hb14, hf⟩ := if_inv hf
        refine g_iaload (N := 39) C (by decide) dX12_findGets_145 rfl hb14 ?_
        refine g_iadd C dX12_findGets_146 ?_
        refine g_i2l C dX12_findGets_147 rfl ?_
        refine g_lmul C dX12_findGets_148 ?_
        refine g_aload_n (i := 0) C dX12_findGets_149 rfl rfl ?_
        refine gg_X12_below (i := 4) C hiX12_findGets_X12 rfl dX12_findGets_150 ?_
        refine g_lmul C dX12_findGets_153 ?_
        refine g_ladd C dX12_findGets_154 ?_
        refine gp_X12_above (i := 3) C hiX12_findGets_X12 rfl dX12_findGets_155 ?_
        refine g_aload_n (i := 0) C dX12_findGets_158 rfl rfl ?_
        refine g_dup C dX12_findGets_159 rfl ?_
        refine gg_X12_below (i := 4) C hiX12_findGets_X12 rfl dX12_findGets_160 ?_
        refine g_ldc2 (i := 6) (z := 100) C dX12_findGets_163 rfl (by decide) ?_
        refine g_lmul C dX12_findGets_166 ?_
        refine gp_X12_below (i := 4) C hiX12_findGets_X12 rfl dX12_findGets_167 ?_
        refine g_aload_n (i := 0) C dX12_findGets_170 rfl rfl ?_
        refine g_dup C dX12_findGets_171 rfl ?_
        refine gg_X12_above (i := 3) C hiX12_findGets_X12 rfl dX12_findGets_172 ?_
        refine g_aload_n (i := 0) C dX12_findGets_175 rfl rfl ?_
        refine gg_X12_s (i := 2) C hiX12_findGets_X12 rfl dX12_findGets_176 ?_
        refine g_bipush C dX12_findGets_179 (by decide) ?_
        refine g_iconst C dX12_findGets_181 ?_
        refine g_iload_n (i := 3) C dX12_findGets_182 rfl rfl ?_
        refine g_imul C dX12_findGets_183 ?_
        refine g_iadd C dX12_findGets_184 ?_
        refine g_iload_n (i := 2) C dX12_findGets_185 rfl rfl ?_
        refine g_iadd C dX12_findGets_186 ?_
        obtain ⟨hb17, hf⟩ := if_inv hf
        refine g_iaload (N := 39) C (by decide) dX12_findGets_187 rfl hb17 ?_
        refine g_i2l C dX12_findGets_188 rfl ?_
        refine g_aload_n (i := 0) C dX12_findGets_189 rfl rfl ?_
        refine gg_X12_below (i := 4) C hiX12_findGets_X12 rfl dX12_findGets_190 ?_
        refine g_lmul C dX12_findGets_193 ?_
        refine g_lsub C dX12_findGets_194 ?_
        refine gp_X12_above (i := 3) C hiX12_findGets_X12 rfl dX12_findGets_195 ?_
        obtain ⟨e1, e2⟩ := some_inv hf
        exact g_vret C hr hlk e2 dX12_findGets_198
    · have hf := if_f c5 hf
      refine g_aload_n (i := 0) C dX12_findGets_45 rfl rfl ?_
      refine gg_X12_known (i := 5) C hiX12_findGets_X12 rfl dX12_findGets_46 ?_
      refine g_if_le (tgt := 170) C dX12_findGets_49 (by decide) rfl (fun c19 => ?_) (fun c19 => ?_)
      · have hf := if_t c19 hf
        refine g_aload_n (i := 0) C dX12_findGets_170 rfl rfl ?_
        refine g_dup C dX12_findGets_171 rfl ?_
        refine gg_X12_above (i := 3) C hiX12_findGets_X12 rfl dX12_findGets_172 ?_
        refine g_aload_n (i := 0) C dX12_findGets_175 rfl rfl ?_
        refine gg_X12_s (i := 2) C hiX12_findGets_X12 rfl dX12_findGets_176 ?_
        refine g_bipush C dX12_findGets_179 (by decide) ?_
        refine g_iconst C dX12_findGets_181 ?_
        refine g_iload_n (i := 3) C dX12_findGets_182 rfl rfl ?_
        refine g_imul C dX12_findGets_183 ?_
        refine g_iadd C dX12_findGets_184 ?_
        refine g_iload_n (i := 2) C dX12_findGets_185 rfl rfl ?_
        refine g_iadd C dX12_findGets_186 ?_
        obtain ⟨hb20, hf⟩ := if_inv hf
        refine g_iaload (N := 39) C (by decide) dX12_findGets_187 rfl hb20 ?_
        refine g_i2l C dX12_findGets_188 rfl ?_
        refine g_aload_n (i := 0) C dX12_findGets_189 rfl rfl ?_
        refine gg_X12_below (i := 4) C hiX12_findGets_X12 rfl dX12_findGets_190 ?_
        refine g_lmul C dX12_findGets_193 ?_
        refine g_lsub C dX12_findGets_194 ?_
        refine gp_X12_above (i := 3) C hiX12_findGets_X12 rfl dX12_findGets_195 ?_
        obtain ⟨e1, e2⟩ := some_inv hf
        exact g_vret C hr hlk e2 dX12_findGets_198
      · have hf := if_f c19 hf
        refine g_iconst C dX12_findGets_52 ?_
        refine g_istore C dX12_findGets_53 (by decide) rfl ?_
        refine g_iconst C dX12_findGets_55 ?_
        refine g_istore C dX12_findGets_56 (by decide) rfl ?_
        obtain ⟨q22, hl23, hf⟩ := lb_inv hf
        refine g_mask [true, false, true, true, true, true] (w_X12_findGets_58 C hr hlk hl23 ?_)
        · rintro y24 σ25 rfl
          refine g_aload_n (i := 0) C dX12_findGets_106 rfl rfl ?_
          refine g_ldc2 (i := 6) (z := 100) C dX12_findGets_107 rfl (by decide) ?_
          refine g_aload_n (i := 0) C dX12_findGets_110 rfl rfl ?_
          refine gg_X12_years (i := 1) C hiX12_findGets_X12 rfl dX12_findGets_111 ?_
          refine g_i2l C dX12_findGets_114 rfl ?_
          refine g_lmul C dX12_findGets_115 ?_
          refine g_iload C dX12_findGets_116 rfl ?_
          refine g_i2l C dX12_findGets_118 rfl ?_
          refine g_lsub C dX12_findGets_119 ?_
          refine g_aload_n (i := 0) C dX12_findGets_120 rfl rfl ?_
          refine gg_X12_above (i := 3) C hiX12_findGets_X12 rfl dX12_findGets_121 ?_
          refine g_lmul C dX12_findGets_124 ?_
          refine g_iload C dX12_findGets_125 rfl ?_
          refine g_i2l C dX12_findGets_127 rfl ?_
          refine g_aload_n (i := 0) C dX12_findGets_128 rfl rfl ?_
          refine gg_X12_s (i := 2) C hiX12_findGets_X12 rfl dX12_findGets_129 ?_
          refine g_bipush C dX12_findGets_132 (by decide) ?_
          refine g_iload_n (i := 2) C dX12_findGets_134 rfl rfl ?_
          refine g_iadd C dX12_findGets_135 ?_
          obtain ⟨hb26, hf⟩ := if_inv hf
          refine g_iaload (N := 39) C (by decide) dX12_findGets_136 rfl hb26 ?_
          refine g_aload_n (i := 0) C dX12_findGets_137 rfl rfl ?_
          refine gg_X12_s (i := 2) C hiX12_findGets_X12 rfl dX12_findGets_138 ?_
          refine g_bipush C dX12_findGets_141 (by decide) ?_
          refine g_iload_n (i := 3) C dX12_findGets_143 rfl rfl ?_
          refine g_iadd C dX12_findGets_144 ?_
          obtain ⟨hb27, hf⟩ := if_inv hf
          refine g_iaload (N := 39) C (by decide) dX12_findGets_145 rfl hb27 ?_
          refine g_iadd C dX12_findGets_146 ?_
          refine g_i2l C dX12_findGets_147 rfl ?_
          refine g_lmul C dX12_findGets_148 ?_
          refine g_aload_n (i := 0) C dX12_findGets_149 rfl rfl ?_
          refine gg_X12_below (i := 4) C hiX12_findGets_X12 rfl dX12_findGets_150 ?_
          refine g_lmul C dX12_findGets_153 ?_
          refine g_ladd C dX12_findGets_154 ?_
          refine gp_X12_above (i := 3) C hiX12_findGets_X12 rfl dX12_findGets_155 ?_
          refine g_aload_n (i := 0) C dX12_findGets_158 rfl rfl ?_
          refine g_dup C dX12_findGets_159 rfl ?_
          refine gg_X12_below (i := 4) C hiX12_findGets_X12 rfl dX12_findGets_160 ?_
          refine g_ldc2 (i := 6) (z := 100) C dX12_findGets_163 rfl (by decide) ?_
          refine g_lmul C dX12_findGets_166 ?_
          refine gp_X12_below (i := 4) C hiX12_findGets_X12 rfl dX12_findGets_167 ?_
          refine g_aload_n (i := 0) C dX12_findGets_170 rfl rfl ?_
          refine g_dup C dX12_findGets_171 rfl ?_
          refine gg_X12_above (i := 3) C hiX12_findGets_X12 rfl dX12_findGets_172 ?_
          refine g_aload_n (i := 0) C dX12_findGets_175 rfl rfl ?_
          refine gg_X12_s (i := 2) C hiX12_findGets_X12 rfl dX12_findGets_176 ?_
          refine g_bipush C dX12_findGets_179 (by decide) ?_
          refine g_iconst C dX12_findGets_181 ?_
          refine g_iload_n (i := 3) C dX12_findGets_182 rfl rfl ?_
          refine g_imul C dX12_findGets_183 ?_
          refine g_iadd C dX12_findGets_184 ?_
          refine g_iload_n (i := 2) C dX12_findGets_185 rfl rfl ?_
          refine g_iadd C dX12_findGets_186 ?_
          obtain ⟨hb30, hf⟩ := if_inv hf
          refine g_iaload (N := 39) C (by decide) dX12_findGets_187 rfl hb30 ?_
          refine g_i2l C dX12_findGets_188 rfl ?_
          refine g_aload_n (i := 0) C dX12_findGets_189 rfl rfl ?_
          refine gg_X12_below (i := 4) C hiX12_findGets_X12 rfl dX12_findGets_190 ?_
          refine g_lmul C dX12_findGets_193 ?_
          refine g_lsub C dX12_findGets_194 ?_
          refine gp_X12_above (i := 3) C hiX12_findGets_X12 rfl dX12_findGets_195 ?_
          obtain ⟨e1, e2⟩ := some_inv hf
          exact g_vret C hr hlk e2 dX12_findGets_198
  · have hf := if_t c1 hf
    refine g_aload_n (i := 0) C dX12_findGets_5 rfl rfl ?_
    refine g_aload_n (i := 0) C dX12_findGets_6 rfl rfl ?_
    refine gg_X12_years (i := 1) C hiX12_findGets_X12 rfl dX12_findGets_7 ?_
    refine g_i2l C dX12_findGets_10 rfl ?_
    refine g_aload_n (i := 0) C dX12_findGets_11 rfl rfl ?_
    refine gg_X12_s (i := 2) C hiX12_findGets_X12 rfl dX12_findGets_12 ?_
    refine g_bipush C dX12_findGets_15 (by decide) ?_
    refine g_iload_n (i := 2) C dX12_findGets_17 rfl rfl ?_
    refine g_iadd C dX12_findGets_18 ?_
    obtain ⟨hb32, hf⟩ := if_inv hf
    refine g_iaload (N := 39) C (by decide) dX12_findGets_19 rfl hb32 ?_
    refine g_i2l C dX12_findGets_20 rfl ?_
    refine g_lmul C dX12_findGets_21 ?_
    refine gp_X12_above (i := 3) C hiX12_findGets_X12 rfl dX12_findGets_22 ?_
    refine g_aload_n (i := 0) C dX12_findGets_25 rfl rfl ?_
    refine g_lconst (z := 1) C dX12_findGets_26 (by decide) ?_
    refine gp_X12_below (i := 4) C hiX12_findGets_X12 rfl dX12_findGets_27 ?_
    obtain ⟨e1, e2⟩ := some_inv hf
    exact g_vret C hr hlk e2 dX12_findGets_30
/-! X12_common -/
abbrev rm_X12_common : Room := { frames := 0, cells := 0, slots := 0, locals := 0 }
set_option maxHeartbeats 4000000 in
set_option maxRecDepth 100000 in
theorem it_X12_common_17 (C : Cx p s m args c cX12_common 10 RX12 wsX12_common D ca A) (hr : meth.sig.returnType = (some .long)) (hlk : meth.locks = false) {o : (Int × Int × Mem) ⊕ (Int × Mem)} (hc : ∀ (x4 x6 : Int) (σ : Mem), o = .inl (x4, x6, σ) → G p l e rm_X12_common s m args below meth c 10 D ca ad A 0 0 (MQ below (Ql D ca ad A r0 σ0) args s 0 0 A) σ 17 [none, none, none, none, some (.long (lI x4)), none, some (.long (lI x6)), none, none, none] []) (he : ∀ (y4 : Int) (σ : Mem), o = .inr (y4, σ) → G p l e rm_X12_common s m args below meth c 10 D ca ad A 0 0 (MQ below (Ql D ca ad A r0 σ0) args s 0 0 A) σ 42 [none, none, none, none, some (.long (lI y4)), none, none, none, none, none] []) {x4 x6 : Int} {σ : Mem} (hf : f_X12_common_17  x4 x6 σ = some o) : G p l e rm_X12_common s m args below meth c 10 D ca ad A 0 0 (MQ below (Ql D ca ad A r0 σ0) args s 0 0 A) σ 17 [none, none, none, none, some (.long (lI x4)), none, some (.long (lI x6)), none, none, none] [] := by
  unfold f_X12_common_17 at hf
  refine g_lload C dX12_common_17 rfl ?_
  refine g_lconst (z := 0) C dX12_common_19 (by decide) ?_
  refine g_lcmp_eq (b' := 0) (tgt := 42) C dX12_common_20 dX12_common_21 (by decide) rfl (by decide) (fun c2 => ?_) (fun c2 => ?_)
  · have hf := if_t c2 hf
    exact g_mask [false, false, false, false, true, false, false, false, false, false] (he _ _ (Option.some.inj hf).symm)
  · have hf := if_f c2 hf
    refine g_lload C dX12_common_24 rfl ?_
    refine g_lload C dX12_common_26 rfl ?_
    obtain ⟨hz3, hf⟩ := if_ninv hf
    refine g_lrem C dX12_common_28 rfl rfl hz3 ?_
    refine g_lstore C dX12_common_29 (by decide) rfl ?_
    refine g_lload C dX12_common_31 rfl ?_
    refine g_lstore C dX12_common_33 (by decide) rfl ?_
    refine g_lload C dX12_common_35 rfl ?_
    refine g_lstore C dX12_common_37 (by decide) rfl ?_
    refine g_goto (tgt := 17) C dX12_common_39 (by decide) ?_
    exact g_mask [false, false, false, false, true, false, true, false, false, false] (hc _ _ _ (Option.some.inj hf).symm)
set_option maxHeartbeats 4000000 in
set_option maxRecDepth 100000 in
theorem w_X12_common_17 (C : Cx p s m args c cX12_common 10 RX12 wsX12_common D ca A) (hr : meth.sig.returnType = (some .long)) (hlk : meth.locks = false) {n : Nat} {x4 x6 : Int} {σ : Mem} {b : (Int × Mem)} (h : itr (fun z : Int × Int × Mem => f_X12_common_17  z.1 z.2.1 z.2.2) n (x4, x6, σ) = some b) (he : ∀ (y4 : Int) (σ : Mem), b = (y4, σ) → G p l e rm_X12_common s m args below meth c 10 D ca ad A 0 0 (MQ below (Ql D ca ad A r0 σ0) args s 0 0 A) σ 42 [none, none, none, none, some (.long (lI y4)), none, none, none, none, none] []) : G p l e rm_X12_common s m args below meth c 10 D ca ad A 0 0 (MQ below (Ql D ca ad A r0 σ0) args s 0 0 A) σ 17 [none, none, none, none, some (.long (lI x4)), none, some (.long (lI x6)), none, none, none] [] :=
  itr_rule (P := fun z : Int × Int × Mem => G p l e rm_X12_common s m args below meth c 10 D ca ad A 0 0 (MQ below (Ql D ca ad A r0 σ0) args s 0 0 A) z.2.2 17 [none, none, none, none, some (.long (lI z.1)), none, some (.long (lI z.2.1)), none, none, none] []) (E := fun b => ∀ (y4 : Int) (σ : Mem), b = (y4, σ) → G p l e rm_X12_common s m args below meth c 10 D ca ad A 0 0 (MQ below (Ql D ca ad A r0 σ0) args s 0 0 A) σ 42 [none, none, none, none, some (.long (lI y4)), none, none, none, none, none] []) (fun z o hb hc he => it_X12_common_17 C hr hlk (fun _ _ _ e => hc _ e) (fun _ _ e => (he _ e) _ _ rfl) hb) n _ _ h he
set_option maxHeartbeats 4000000 in
set_option maxRecDepth 100000 in
theorem c_X12_common {v0 v2 : Int} {σ : Mem} (hf : f_X12_common v0 v2 σ = some (r0, σ0)) : CTl l D ca ad A yX12_common wsX12_common rm_X12_common [.long (lI v0), .long (lI v2)] σ r0 σ0 := by
  refine ct_l (cc := cX12_common) (own := RX12) (maxL := 10) (ret := (some .long)) (lv0 := [some (.long (lI v0)), none, some (.long (lI v2)), none, none, none, none, none, none, none]) (by decide) rfl rfl rfl (Nat.le_of_ble_eq_true rfl) ?_
  intro p e s m below meth c C hr hlk hnm
  unfold f_X12_common at hf
  refine g_lload_n (i := 0) C dX12_common_0 rfl rfl ?_
  refine g_lconst (z := 0) C dX12_common_1 (by decide) ?_
  refine g_lcmp_ge (b' := 0) (tgt := 11) C dX12_common_2 dX12_common_3 (by decide) rfl (by decide) (fun c1 => ?_) (fun c1 => ?_)
  · have hf := if_t c1 hf
    refine g_lload_n (i := 0) C dX12_common_11 rfl rfl ?_
    refine g_lstore C dX12_common_12 (by decide) rfl ?_
    refine g_lload_n (i := 2) C dX12_common_14 rfl rfl ?_
    refine g_lstore C dX12_common_15 (by decide) rfl ?_
    obtain ⟨q5, hl6, hf⟩ := lb_inv hf
    refine g_mask [false, false, false, false, true, false, true, false, false, false] (w_X12_common_17 C hr hlk hl6 ?_)
    · rintro y7 σ8 rfl
      refine g_lload C dX12_common_42 rfl ?_
      obtain ⟨e1, e2⟩ := some_inv hf
      exact g_lret C hr hlk e1 e2 dX12_common_44
  · have hf := if_f c1 hf
    refine g_lload_n (i := 0) C dX12_common_6 rfl rfl ?_
    refine g_lneg C dX12_common_7 ?_
    refine g_goto (tgt := 12) C dX12_common_8 (by decide) ?_
    refine g_lstore C dX12_common_12 (by decide) rfl ?_
    refine g_lload_n (i := 2) C dX12_common_14 rfl rfl ?_
    refine g_lstore C dX12_common_15 (by decide) rfl ?_
    obtain ⟨q9, hl10, hf⟩ := lb_inv hf
    refine g_mask [false, false, false, false, true, false, true, false, false, false] (w_X12_common_17 C hr hlk hl10 ?_)
    · rintro y11 σ12 rfl
      refine g_lload C dX12_common_42 rfl ?_
      obtain ⟨e1, e2⟩ := some_inv hf
      exact g_lret C hr hlk e1 e2 dX12_common_44
/-! X12_told -/
abbrev rm_X12_told : Room := { frames := 1, cells := 0, slots := 0, locals := 29 }
set_option maxHeartbeats 4000000 in
set_option maxRecDepth 100000 in
theorem c_X12_told {v0 v2 v4 : Int} {σ : Mem} (hf : f_X12_told v0 v2 v4 σ = some (r0, σ0)) : CTl l D ca ad A yX12_told wsX12_told rm_X12_told [.long (lI v0), .long (lI v2), .int (iI v4)] σ r0 σ0 := by
  refine ct_l (cc := cX12_told) (own := RX12) (maxL := 7) (ret := (some .long)) (lv0 := [some (.long (lI v0)), none, some (.long (lI v2)), none, some (.int (iI v4)), none, none]) (by decide) rfl rfl rfl (Nat.le_of_ble_eq_true rfl) ?_
  intro p e s m below meth c C hr hlk hnm
  unfold f_X12_told at hf
  refine g_lload_n (i := 0) C dX12_told_0 rfl rfl ?_
  refine g_lload_n (i := 2) C dX12_told_1 rfl rfl ?_
  obtain ⟨r2, σ1, h3, hf⟩ := ob_inv hf
  refine g_callSl C (c_X12_common  h3) (va_cwS 2 C.2.2.2.2.1 gX12_told_X12_common rfl rfl rfl (by decide +kernel) ⟨Nat.le_of_ble_eq_true rfl, Nat.le_of_ble_eq_true rfl⟩) rfl rfl (Nat.le_of_ble_eq_true rfl) dX12_told_2 ⟨Nat.zero_le _, Nat.zero_le _⟩ ?_
  refine g_lstore C dX12_told_5 (by decide) rfl ?_
  refine g_iload C dX12_told_7 rfl ?_
  refine g_if_ne (tgt := 19) C dX12_told_9 (by decide) rfl (fun c4 => ?_) (fun c4 => ?_)
  · have hf := if_f c4 hf
    refine g_lload_n (i := 2) C dX12_told_19 rfl rfl ?_
    refine g_lload C dX12_told_20 rfl ?_
    obtain ⟨hz5, hf⟩ := if_ninv hf
    refine g_ldiv C dX12_told_22 rfl rfl hz5 ?_
    obtain ⟨e1, e2⟩ := some_inv hf
    exact g_lret C hr hlk e1 e2 dX12_told_23
  · have hf := if_t c4 hf
    refine g_lload_n (i := 0) C dX12_told_12 rfl rfl ?_
    refine g_lload C dX12_told_13 rfl ?_
    obtain ⟨hz6, hf⟩ := if_ninv hf
    refine g_ldiv C dX12_told_15 rfl rfl hz6 ?_
    refine g_goto (tgt := 23) C dX12_told_16 (by decide) ?_
    obtain ⟨e1, e2⟩ := some_inv hf
    exact g_lret C hr hlk e1 e2 dX12_told_23
/-! X12_pay -/
abbrev rm_X12_pay : Room := { frames := 2, cells := 0, slots := 0, locals := 55 }
theorem hiX12_pay_X12 : ∀ w ∈ u_ws RX12 TX12 24, w ∈ wsX12_pay := fun _ h => (List.mem_cons_of_mem _ (List.mem_append_right _ h))
set_option maxHeartbeats 4000000 in
set_option maxRecDepth 100000 in
theorem c_X12_pay {v1 v2 v3 : Int} {σ : Mem} (hf : f_X12_pay v1 v2 v3 σ = some (r0, σ0)) : CTl l D ca ad A yX12_pay wsX12_pay rm_X12_pay [.ref (ad 120), .int (iI v1), .int (iI v2), .int (iI v3)] σ r0 σ0 := by
  refine ct_l (cc := cX12_pay) (own := RX12) (maxL := 4) (ret := (some .long)) (lv0 := [some (.ref (ad 120)), some (.int (iI v1)), some (.int (iI v2)), some (.int (iI v3))]) (by decide) rfl rfl rfl (Nat.le_of_ble_eq_true rfl) ?_
  intro p e s m below meth c C hr hlk hnm
  unfold f_X12_pay at hf
  refine g_aload_n (i := 0) C dX12_pay_0 rfl rfl ?_
  obtain ⟨r2, σ1, h3, hf⟩ := ob_inv hf
  refine g_callVi C (c_X12_isOpen  h3) (cwV 0 C.2.2.2.2.1 gX12_pay_X12_isOpen rfl rfl rfl (by decide +kernel) ⟨Nat.le_of_ble_eq_true rfl, Nat.le_of_ble_eq_true rfl⟩) ob_X12 rfl rfl rfl rfl (Nat.le_of_ble_eq_true rfl) dX12_pay_1 ⟨Nat.zero_le _, Nat.zero_le _⟩ ?_
  refine g_if_eq (tgt := 33) C dX12_pay_4 (by decide) rfl (fun c4 => ?_) (fun c4 => ?_)
  · have hf := if_t c4 hf
    refine g_ldc2 (i := 1) (z := -4611686018427387904) C dX12_pay_33 rfl (by decide) ?_
    obtain ⟨e1, e2⟩ := some_inv hf
    exact g_lret C hr hlk e1 e2 dX12_pay_36
  · have hf := if_f c4 hf
    refine g_aload_n (i := 0) C dX12_pay_7 rfl rfl ?_
    refine g_iload_n (i := 1) C dX12_pay_8 rfl rfl ?_
    obtain ⟨r6, σ5, h7, hf⟩ := ob_inv hf
    refine g_callVi C (c_X12_isFit  h7) (cwV 1 C.2.2.2.2.1 gX12_pay_X12_isFit rfl rfl rfl (by decide +kernel) ⟨Nat.le_of_ble_eq_true rfl, Nat.le_of_ble_eq_true rfl⟩) ob_X12 rfl rfl rfl rfl (Nat.le_of_ble_eq_true rfl) dX12_pay_9 ⟨Nat.zero_le _, Nat.zero_le _⟩ ?_
    refine g_if_eq (tgt := 33) C dX12_pay_12 (by decide) rfl (fun c8 => ?_) (fun c8 => ?_)
    · have hf := if_t c8 hf
      refine g_ldc2 (i := 1) (z := -4611686018427387904) C dX12_pay_33 rfl (by decide) ?_
      obtain ⟨e1, e2⟩ := some_inv hf
      exact g_lret C hr hlk e1 e2 dX12_pay_36
    · have hf := if_f c8 hf
      refine g_aload_n (i := 0) C dX12_pay_15 rfl rfl ?_
      refine g_iload_n (i := 2) C dX12_pay_16 rfl rfl ?_
      obtain ⟨r10, σ9, h11, hf⟩ := ob_inv hf
      refine g_callVi C (c_X12_isMark  h11) (cwV 1 C.2.2.2.2.1 gX12_pay_X12_isMark rfl rfl rfl (by decide +kernel) ⟨Nat.le_of_ble_eq_true rfl, Nat.le_of_ble_eq_true rfl⟩) ob_X12 rfl rfl rfl rfl (Nat.le_of_ble_eq_true rfl) dX12_pay_17 ⟨Nat.zero_le _, Nat.zero_le _⟩ ?_
      refine g_if_eq (tgt := 33) C dX12_pay_20 (by decide) rfl (fun c12 => ?_) (fun c12 => ?_)
      · have hf := if_t c12 hf
        refine g_ldc2 (i := 1) (z := -4611686018427387904) C dX12_pay_33 rfl (by decide) ?_
        obtain ⟨e1, e2⟩ := some_inv hf
        exact g_lret C hr hlk e1 e2 dX12_pay_36
      · have hf := if_f c12 hf
        refine g_iload_n (i := 3) C dX12_pay_23 rfl rfl ?_
        refine g_i2l C dX12_pay_24 rfl ?_
        refine g_lconst (z := 0) C dX12_pay_25 (by decide) ?_
        refine g_lconst (z := 1) C dX12_pay_26 (by decide) ?_
        obtain ⟨r14, σ13, h15, hf⟩ := ob_inv hf
        refine g_callSi C (c_X12_isIn  h15) (va_cwS 3 C.2.2.2.2.1 gX12_pay_X12_isIn rfl rfl rfl (by decide +kernel) ⟨Nat.le_of_ble_eq_true rfl, Nat.le_of_ble_eq_true rfl⟩) rfl rfl (Nat.le_of_ble_eq_true rfl) dX12_pay_27 ⟨Nat.zero_le _, Nat.zero_le _⟩ ?_
        refine g_if_ne (tgt := 37) C dX12_pay_30 (by decide) rfl (fun c16 => ?_) (fun c16 => ?_)
        · have hf := if_f c16 hf
          refine g_aload_n (i := 0) C dX12_pay_37 rfl rfl ?_
          refine g_iload_n (i := 1) C dX12_pay_38 rfl rfl ?_
          refine g_iload_n (i := 2) C dX12_pay_39 rfl rfl ?_
          obtain ⟨r18, σ17, h19, hf⟩ := ob_inv hf
          refine g_callVv C (c_X12_findPay  h19) (cwV 2 C.2.2.2.2.1 gX12_pay_X12_findPay rfl rfl rfl (by decide +kernel) ⟨Nat.le_of_ble_eq_true rfl, Nat.le_of_ble_eq_true rfl⟩) ob_X12 rfl rfl rfl rfl (Nat.le_of_ble_eq_true rfl) dX12_pay_40 ⟨Nat.zero_le _, Nat.zero_le _⟩ ?_
          refine g_aload_n (i := 0) C dX12_pay_43 rfl rfl ?_
          refine gg_X12_above (i := 2) C hiX12_pay_X12 rfl dX12_pay_44 ?_
          refine g_aload_n (i := 0) C dX12_pay_47 rfl rfl ?_
          refine gg_X12_below (i := 3) C hiX12_pay_X12 rfl dX12_pay_48 ?_
          refine g_iload_n (i := 3) C dX12_pay_51 rfl rfl ?_
          obtain ⟨r21, σ20, h22, hf⟩ := ob_inv hf
          refine g_callSl C (c_X12_told  h22) (va_cwS 3 C.2.2.2.2.1 gX12_pay_X12_told rfl rfl rfl (by decide +kernel) ⟨Nat.le_of_ble_eq_true rfl, Nat.le_of_ble_eq_true rfl⟩) rfl rfl (Nat.le_of_ble_eq_true rfl) dX12_pay_52 ⟨Nat.zero_le _, Nat.zero_le _⟩ ?_
          obtain ⟨e1, e2⟩ := some_inv hf
          exact g_lret C hr hlk e1 e2 dX12_pay_55
        · have hf := if_t c16 hf
          refine g_ldc2 (i := 1) (z := -4611686018427387904) C dX12_pay_33 rfl (by decide) ?_
          obtain ⟨e1, e2⟩ := some_inv hf
          exact g_lret C hr hlk e1 e2 dX12_pay_36
/-! X12_gets -/
abbrev rm_X12_gets : Room := { frames := 3, cells := 0, slots := 0, locals := 71 }
theorem hiX12_gets_X12 : ∀ w ∈ u_ws RX12 TX12 24, w ∈ wsX12_gets := fun _ h => (List.mem_cons_of_mem _ (List.mem_append_right _ h))
set_option maxHeartbeats 4000000 in
set_option maxRecDepth 100000 in
theorem c_X12_gets {v1 v2 v3 : Int} {σ : Mem} (hf : f_X12_gets v1 v2 v3 σ = some (r0, σ0)) : CTl l D ca ad A yX12_gets wsX12_gets rm_X12_gets [.ref (ad 120), .int (iI v1), .int (iI v2), .int (iI v3)] σ r0 σ0 := by
  refine ct_l (cc := cX12_gets) (own := RX12) (maxL := 4) (ret := (some .long)) (lv0 := [some (.ref (ad 120)), some (.int (iI v1)), some (.int (iI v2)), some (.int (iI v3))]) (by decide) rfl rfl rfl (Nat.le_of_ble_eq_true rfl) ?_
  intro p e s m below meth c C hr hlk hnm
  unfold f_X12_gets at hf
  refine g_aload_n (i := 0) C dX12_gets_0 rfl rfl ?_
  obtain ⟨r2, σ1, h3, hf⟩ := ob_inv hf
  refine g_callVi C (c_X12_isOpen  h3) (cwV 0 C.2.2.2.2.1 gX12_gets_X12_isOpen rfl rfl rfl (by decide +kernel) ⟨Nat.le_of_ble_eq_true rfl, Nat.le_of_ble_eq_true rfl⟩) ob_X12 rfl rfl rfl rfl (Nat.le_of_ble_eq_true rfl) dX12_gets_1 ⟨Nat.zero_le _, Nat.zero_le _⟩ ?_
  refine g_if_eq (tgt := 33) C dX12_gets_4 (by decide) rfl (fun c4 => ?_) (fun c4 => ?_)
  · have hf := if_t c4 hf
    refine g_ldc2 (i := 1) (z := -4611686018427387904) C dX12_gets_33 rfl (by decide) ?_
    obtain ⟨e1, e2⟩ := some_inv hf
    exact g_lret C hr hlk e1 e2 dX12_gets_36
  · have hf := if_f c4 hf
    refine g_aload_n (i := 0) C dX12_gets_7 rfl rfl ?_
    refine g_iload_n (i := 1) C dX12_gets_8 rfl rfl ?_
    obtain ⟨r6, σ5, h7, hf⟩ := ob_inv hf
    refine g_callVi C (c_X12_isFit  h7) (cwV 1 C.2.2.2.2.1 gX12_gets_X12_isFit rfl rfl rfl (by decide +kernel) ⟨Nat.le_of_ble_eq_true rfl, Nat.le_of_ble_eq_true rfl⟩) ob_X12 rfl rfl rfl rfl (Nat.le_of_ble_eq_true rfl) dX12_gets_9 ⟨Nat.zero_le _, Nat.zero_le _⟩ ?_
    refine g_if_eq (tgt := 33) C dX12_gets_12 (by decide) rfl (fun c8 => ?_) (fun c8 => ?_)
    · have hf := if_t c8 hf
      refine g_ldc2 (i := 1) (z := -4611686018427387904) C dX12_gets_33 rfl (by decide) ?_
      obtain ⟨e1, e2⟩ := some_inv hf
      exact g_lret C hr hlk e1 e2 dX12_gets_36
    · have hf := if_f c8 hf
      refine g_aload_n (i := 0) C dX12_gets_15 rfl rfl ?_
      refine g_iload_n (i := 2) C dX12_gets_16 rfl rfl ?_
      obtain ⟨r10, σ9, h11, hf⟩ := ob_inv hf
      refine g_callVi C (c_X12_isSort  h11) (cwV 1 C.2.2.2.2.1 gX12_gets_X12_isSort rfl rfl rfl (by decide +kernel) ⟨Nat.le_of_ble_eq_true rfl, Nat.le_of_ble_eq_true rfl⟩) ob_X12 rfl rfl rfl rfl (Nat.le_of_ble_eq_true rfl) dX12_gets_17 ⟨Nat.zero_le _, Nat.zero_le _⟩ ?_
      refine g_if_eq (tgt := 33) C dX12_gets_20 (by decide) rfl (fun c12 => ?_) (fun c12 => ?_)
      · have hf := if_t c12 hf
        refine g_ldc2 (i := 1) (z := -4611686018427387904) C dX12_gets_33 rfl (by decide) ?_
        obtain ⟨e1, e2⟩ := some_inv hf
        exact g_lret C hr hlk e1 e2 dX12_gets_36
      · have hf := if_f c12 hf
        refine g_iload_n (i := 3) C dX12_gets_23 rfl rfl ?_
        refine g_i2l C dX12_gets_24 rfl ?_
        refine g_lconst (z := 0) C dX12_gets_25 (by decide) ?_
        refine g_lconst (z := 1) C dX12_gets_26 (by decide) ?_
        obtain ⟨r14, σ13, h15, hf⟩ := ob_inv hf
        refine g_callSi C (c_X12_isIn  h15) (va_cwS 3 C.2.2.2.2.1 gX12_gets_X12_isIn rfl rfl rfl (by decide +kernel) ⟨Nat.le_of_ble_eq_true rfl, Nat.le_of_ble_eq_true rfl⟩) rfl rfl (Nat.le_of_ble_eq_true rfl) dX12_gets_27 ⟨Nat.zero_le _, Nat.zero_le _⟩ ?_
        refine g_if_ne (tgt := 37) C dX12_gets_30 (by decide) rfl (fun c16 => ?_) (fun c16 => ?_)
        · have hf := if_f c16 hf
          refine g_aload_n (i := 0) C dX12_gets_37 rfl rfl ?_
          refine g_iload_n (i := 1) C dX12_gets_38 rfl rfl ?_
          refine g_iload_n (i := 2) C dX12_gets_39 rfl rfl ?_
          refine g_iload_n (i := 1) C dX12_gets_40 rfl rfl ?_
          refine g_iload_n (i := 2) C dX12_gets_41 rfl rfl ?_
          obtain ⟨r18, σ17, h19, hf⟩ := ob_inv hf
          refine g_callSi C (c_X12_made  h19) (va_cwS 2 C.2.2.2.2.1 gX12_gets_X12_made rfl rfl rfl (by decide +kernel) ⟨Nat.le_of_ble_eq_true rfl, Nat.le_of_ble_eq_true rfl⟩) rfl rfl (Nat.le_of_ble_eq_true rfl) dX12_gets_42 ⟨Nat.zero_le _, Nat.zero_le _⟩ ?_
          obtain ⟨r21, σ20, h22, hf⟩ := ob_inv hf
          refine g_callVv C (c_X12_findGets  h22) (cwV 3 C.2.2.2.2.1 gX12_gets_X12_findGets rfl rfl rfl (by decide +kernel) ⟨Nat.le_of_ble_eq_true rfl, Nat.le_of_ble_eq_true rfl⟩) ob_X12 rfl rfl rfl rfl (Nat.le_of_ble_eq_true rfl) dX12_gets_45 ⟨Nat.zero_le _, Nat.zero_le _⟩ ?_
          refine g_aload_n (i := 0) C dX12_gets_48 rfl rfl ?_
          refine gg_X12_above (i := 2) C hiX12_gets_X12 rfl dX12_gets_49 ?_
          refine g_aload_n (i := 0) C dX12_gets_52 rfl rfl ?_
          refine gg_X12_below (i := 3) C hiX12_gets_X12 rfl dX12_gets_53 ?_
          refine g_iload_n (i := 3) C dX12_gets_56 rfl rfl ?_
          obtain ⟨r24, σ23, h25, hf⟩ := ob_inv hf
          refine g_callSl C (c_X12_told  h25) (va_cwS 3 C.2.2.2.2.1 gX12_gets_X12_told rfl rfl rfl (by decide +kernel) ⟨Nat.le_of_ble_eq_true rfl, Nat.le_of_ble_eq_true rfl⟩) rfl rfl (Nat.le_of_ble_eq_true rfl) dX12_gets_57 ⟨Nat.zero_le _, Nat.zero_le _⟩ ?_
          obtain ⟨e1, e2⟩ := some_inv hf
          exact g_lret C hr hlk e1 e2 dX12_gets_60
        · have hf := if_t c16 hf
          refine g_ldc2 (i := 1) (z := -4611686018427387904) C dX12_gets_33 rfl (by decide) ?_
          obtain ⟨e1, e2⟩ := some_inv hf
          exact g_lret C hr hlk e1 e2 dX12_gets_36
/-! X12_ratherOf -/
abbrev rm_X12_ratherOf : Room := { frames := 3, cells := 0, slots := 0, locals := 71 }
theorem hiX12_ratherOf_X12 : ∀ w ∈ u_ws RX12 TX12 24, w ∈ wsX12_ratherOf := fun _ h => (List.mem_cons_of_mem _ (List.mem_append_right _ h))
set_option maxHeartbeats 4000000 in
set_option maxRecDepth 100000 in
theorem it_X12_ratherOf_37 (C : Cx p s m args c cX12_ratherOf 8 RX12 wsX12_ratherOf D ca A) (hr : meth.sig.returnType = (some .int)) (hlk : meth.locks = false) {p1 p2 p3 p5 : Int} {o : (Int × Mem) ⊕ ((Int × Mem) ⊕ (Mem))} (hc : ∀ (x7 : Int) (σ : Mem), o = .inl (x7, σ) → G p l e rm_X12_ratherOf s m args below meth c 8 D ca ad A 0 0 (MQ below (Qi D ca ad A r0 σ0) args s 0 0 A) σ 37 [some (.ref (ad 120)), some (.int (iI p1)), some (.int (iI p2)), some (.long (lI p3)), none, some (.long (lI p5)), none, some (.int (iI x7))] []) (he1 : ∀ (r1 : Int) (σ1 : Mem), o = .inr (.inl (r1, σ1)) → r1 = r0 ∧ σ1 = σ0) (he2 : ∀ (σ : Mem), o = .inr (.inr σ) → G p l e rm_X12_ratherOf s m args below meth c 8 D ca ad A 0 0 (MQ below (Qi D ca ad A r0 σ0) args s 0 0 A) σ 113 [some (.ref (ad 120)), some (.int (iI p1)), some (.int (iI p2)), none, none, none, none, none] []) {x7 : Int} {σ : Mem} (hf : f_X12_ratherOf_37 p1 p2 p3 p5 x7 σ = some o) : G p l e rm_X12_ratherOf s m args below meth c 8 D ca ad A 0 0 (MQ below (Qi D ca ad A r0 σ0) args s 0 0 A) σ 37 [some (.ref (ad 120)), some (.int (iI p1)), some (.int (iI p2)), some (.long (lI p3)), none, some (.long (lI p5)), none, some (.int (iI x7))] [] := by
  unfold f_X12_ratherOf_37 at hf
  refine g_iload C dX12_ratherOf_37 rfl ?_
  refine g_iconst C dX12_ratherOf_39 ?_
  refine g_icmp_gt (b' := 4) (tgt := 113) C dX12_ratherOf_40 (by decide) rfl (by decide) (fun c23 => ?_) (fun c23 => ?_)
  · have hf := if_t c23 hf
    exact g_mask [true, true, true, false, false, false, false, false] (he2 _ (Option.some.inj hf).symm)
  · have hf := if_f c23 hf
    refine g_iload C dX12_ratherOf_43 rfl ?_
    refine g_iconst C dX12_ratherOf_45 ?_
    refine g_icmp_eq (b' := 4) (tgt := 74) C dX12_ratherOf_46 (by decide) rfl (by decide) (fun c24 => ?_) (fun c24 => ?_)
    · have hf := if_t c24 hf
      refine g_aload_n (i := 0) C dX12_ratherOf_74 rfl rfl ?_
      refine g_iload_n (i := 1) C dX12_ratherOf_75 rfl rfl ?_
      refine g_iload_n (i := 2) C dX12_ratherOf_76 rfl rfl ?_
      refine g_iload C dX12_ratherOf_77 rfl ?_
      obtain ⟨r26, σ25, h27, hf⟩ := ob_inv hf
      refine g_callVv C (c_X12_findGets  h27) (cwV 3 C.2.2.2.2.1 gX12_ratherOf_X12_findGets rfl rfl rfl (by decide +kernel) ⟨Nat.le_of_ble_eq_true rfl, Nat.le_of_ble_eq_true rfl⟩) ob_X12 rfl rfl rfl rfl (Nat.le_of_ble_eq_true rfl) dX12_ratherOf_79 ⟨Nat.zero_le _, Nat.zero_le _⟩ ?_
      refine g_aload_n (i := 0) C dX12_ratherOf_82 rfl rfl ?_
      refine gg_X12_above (i := 2) C hiX12_ratherOf_X12 rfl dX12_ratherOf_83 ?_
      refine g_lload C dX12_ratherOf_86 rfl ?_
      refine g_lmul C dX12_ratherOf_88 ?_
      refine g_lload_n (i := 3) C dX12_ratherOf_89 rfl rfl ?_
      refine g_aload_n (i := 0) C dX12_ratherOf_90 rfl rfl ?_
      refine gg_X12_below (i := 3) C hiX12_ratherOf_X12 rfl dX12_ratherOf_91 ?_
      refine g_lmul C dX12_ratherOf_94 ?_
      refine g_lcmp_le (tgt := 107) C dX12_ratherOf_95 dX12_ratherOf_96 (by decide) rfl rfl (fun c28 => ?_) (fun c28 => ?_)
      · have hf := if_t c28 hf
        refine g_iinc C dX12_ratherOf_107 rfl (by decide) rfl ?_
        refine g_goto (tgt := 37) C dX12_ratherOf_110 (by decide) ?_
        exact g_mask [true, true, true, true, false, true, false, true] (hc _ _ (Option.some.inj hf).symm)
      · have hf := if_f c28 hf
        refine g_bipush C dX12_ratherOf_99 (by decide) ?_
        refine g_iload_n (i := 2) C dX12_ratherOf_101 rfl rfl ?_
        refine g_imul C dX12_ratherOf_102 ?_
        refine g_iload C dX12_ratherOf_103 rfl ?_
        refine g_iadd C dX12_ratherOf_105 ?_
        obtain ⟨e1, e2⟩ := he1 _ _ (Option.some.inj hf).symm
        exact g_iret C hr hlk e1 e2 dX12_ratherOf_106
    · have hf := if_f c24 hf
      refine g_aload_n (i := 0) C dX12_ratherOf_49 rfl rfl ?_
      refine g_iload C dX12_ratherOf_50 rfl ?_
      obtain ⟨r30, σ29, h31, hf⟩ := ob_inv hf
      refine g_callVi C (c_X12_isMark  h31) (cwV 1 C.2.2.2.2.1 gX12_ratherOf_X12_isMark rfl rfl rfl (by decide +kernel) ⟨Nat.le_of_ble_eq_true rfl, Nat.le_of_ble_eq_true rfl⟩) ob_X12 rfl rfl rfl rfl (Nat.le_of_ble_eq_true rfl) dX12_ratherOf_52 ⟨Nat.zero_le _, Nat.zero_le _⟩ ?_
      refine g_if_eq (tgt := 107) C dX12_ratherOf_55 (by decide) rfl (fun c32 => ?_) (fun c32 => ?_)
      · have hf := if_t c32 hf
        refine g_iinc C dX12_ratherOf_107 rfl (by decide) rfl ?_
        refine g_goto (tgt := 37) C dX12_ratherOf_110 (by decide) ?_
        exact g_mask [true, true, true, true, false, true, false, true] (hc _ _ (Option.some.inj hf).symm)
      · have hf := if_f c32 hf
        refine g_aload_n (i := 0) C dX12_ratherOf_58 rfl rfl ?_
        refine gg_X12_barred (i := 4) C hiX12_ratherOf_X12 rfl dX12_ratherOf_59 ?_
        refine g_iload C dX12_ratherOf_62 rfl ?_
        refine g_ishr C dX12_ratherOf_64 ?_
        refine g_iconst C dX12_ratherOf_65 ?_
        refine g_iand C dX12_ratherOf_66 ?_
        refine g_iconst C dX12_ratherOf_67 ?_
        refine g_icmp_ne (b' := 1) (tgt := 74) C dX12_ratherOf_68 (by decide) rfl (by decide) (fun c33 => ?_) (fun c33 => ?_)
        · have hf := if_f c33 hf
          refine g_aload_n (i := 0) C dX12_ratherOf_74 rfl rfl ?_
          refine g_iload_n (i := 1) C dX12_ratherOf_75 rfl rfl ?_
          refine g_iload_n (i := 2) C dX12_ratherOf_76 rfl rfl ?_
          refine g_iload C dX12_ratherOf_77 rfl ?_
          obtain ⟨r35, σ34, h36, hf⟩ := ob_inv hf
          refine g_callVv C (c_X12_findGets  h36) (cwV 3 C.2.2.2.2.1 gX12_ratherOf_X12_findGets rfl rfl rfl (by decide +kernel) ⟨Nat.le_of_ble_eq_true rfl, Nat.le_of_ble_eq_true rfl⟩) ob_X12 rfl rfl rfl rfl (Nat.le_of_ble_eq_true rfl) dX12_ratherOf_79 ⟨Nat.zero_le _, Nat.zero_le _⟩ ?_
          refine g_aload_n (i := 0) C dX12_ratherOf_82 rfl rfl ?_
          refine gg_X12_above (i := 2) C hiX12_ratherOf_X12 rfl dX12_ratherOf_83 ?_
          refine g_lload C dX12_ratherOf_86 rfl ?_
          refine g_lmul C dX12_ratherOf_88 ?_
          refine g_lload_n (i := 3) C dX12_ratherOf_89 rfl rfl ?_
          refine g_aload_n (i := 0) C dX12_ratherOf_90 rfl rfl ?_
          refine gg_X12_below (i := 3) C hiX12_ratherOf_X12 rfl dX12_ratherOf_91 ?_
          refine g_lmul C dX12_ratherOf_94 ?_
          refine g_lcmp_le (tgt := 107) C dX12_ratherOf_95 dX12_ratherOf_96 (by decide) rfl rfl (fun c37 => ?_) (fun c37 => ?_)
          · have hf := if_t c37 hf
            refine g_iinc C dX12_ratherOf_107 rfl (by decide) rfl ?_
            refine g_goto (tgt := 37) C dX12_ratherOf_110 (by decide) ?_
            exact g_mask [true, true, true, true, false, true, false, true] (hc _ _ (Option.some.inj hf).symm)
          · have hf := if_f c37 hf
            refine g_bipush C dX12_ratherOf_99 (by decide) ?_
            refine g_iload_n (i := 2) C dX12_ratherOf_101 rfl rfl ?_
            refine g_imul C dX12_ratherOf_102 ?_
            refine g_iload C dX12_ratherOf_103 rfl ?_
            refine g_iadd C dX12_ratherOf_105 ?_
            obtain ⟨e1, e2⟩ := he1 _ _ (Option.some.inj hf).symm
            exact g_iret C hr hlk e1 e2 dX12_ratherOf_106
        · have hf := if_t c33 hf
          refine g_goto (tgt := 107) C dX12_ratherOf_71 (by decide) ?_
          refine g_iinc C dX12_ratherOf_107 rfl (by decide) rfl ?_
          refine g_goto (tgt := 37) C dX12_ratherOf_110 (by decide) ?_
          exact g_mask [true, true, true, true, false, true, false, true] (hc _ _ (Option.some.inj hf).symm)
set_option maxHeartbeats 4000000 in
set_option maxRecDepth 100000 in
theorem w_X12_ratherOf_37 (C : Cx p s m args c cX12_ratherOf 8 RX12 wsX12_ratherOf D ca A) (hr : meth.sig.returnType = (some .int)) (hlk : meth.locks = false) {p1 p2 p3 p5 : Int} {n : Nat} {x7 : Int} {σ : Mem} {b : ((Int × Mem) ⊕ (Mem))} (h : itr (fun z : Int × Mem => f_X12_ratherOf_37 p1 p2 p3 p5 z.1 z.2) n (x7, σ) = some b) (he1 : ∀ (r1 : Int) (σ1 : Mem), b = .inl (r1, σ1) → r1 = r0 ∧ σ1 = σ0) (he2 : ∀ (σ : Mem), b = .inr σ → G p l e rm_X12_ratherOf s m args below meth c 8 D ca ad A 0 0 (MQ below (Qi D ca ad A r0 σ0) args s 0 0 A) σ 113 [some (.ref (ad 120)), some (.int (iI p1)), some (.int (iI p2)), none, none, none, none, none] []) : G p l e rm_X12_ratherOf s m args below meth c 8 D ca ad A 0 0 (MQ below (Qi D ca ad A r0 σ0) args s 0 0 A) σ 37 [some (.ref (ad 120)), some (.int (iI p1)), some (.int (iI p2)), some (.long (lI p3)), none, some (.long (lI p5)), none, some (.int (iI x7))] [] :=
  itr_rule (P := fun z : Int × Mem => G p l e rm_X12_ratherOf s m args below meth c 8 D ca ad A 0 0 (MQ below (Qi D ca ad A r0 σ0) args s 0 0 A) z.2 37 [some (.ref (ad 120)), some (.int (iI p1)), some (.int (iI p2)), some (.long (lI p3)), none, some (.long (lI p5)), none, some (.int (iI z.1))] []) (E := fun b => (∀ (r1 : Int) (σ1 : Mem), b = .inl (r1, σ1) → r1 = r0 ∧ σ1 = σ0) ∧ (∀ (σ : Mem), b = .inr σ → G p l e rm_X12_ratherOf s m args below meth c 8 D ca ad A 0 0 (MQ below (Qi D ca ad A r0 σ0) args s 0 0 A) σ 113 [some (.ref (ad 120)), some (.int (iI p1)), some (.int (iI p2)), none, none, none, none, none] [])) (fun z o hb hc he => it_X12_ratherOf_37 C hr hlk (fun _ _ e => hc _ e) (fun r1 σ1 e => (he _ e).1 r1 σ1 rfl) (fun _ e => (he _ e).2 _ rfl) hb) n _ _ h ⟨he1, he2⟩
set_option maxHeartbeats 4000000 in
set_option maxRecDepth 100000 in
theorem it_X12_ratherOf_2 (C : Cx p s m args c cX12_ratherOf 8 RX12 wsX12_ratherOf D ca A) (hr : meth.sig.returnType = (some .int)) (hlk : meth.locks = false) {p1 : Int} {o : (Int × Mem) ⊕ ((Int × Mem) ⊕ (Mem))} (hc : ∀ (x2 : Int) (σ : Mem), o = .inl (x2, σ) → G p l e rm_X12_ratherOf s m args below meth c 8 D ca ad A 0 0 (MQ below (Qi D ca ad A r0 σ0) args s 0 0 A) σ 2 [some (.ref (ad 120)), some (.int (iI p1)), some (.int (iI x2)), none, none, none, none, none] []) (he1 : ∀ (r1 : Int) (σ1 : Mem), o = .inr (.inl (r1, σ1)) → r1 = r0 ∧ σ1 = σ0) (he2 : ∀ (σ : Mem), o = .inr (.inr σ) → G p l e rm_X12_ratherOf s m args below meth c 8 D ca ad A 0 0 (MQ below (Qi D ca ad A r0 σ0) args s 0 0 A) σ 119 [none, none, none, none, none, none, none, none] []) {x2 : Int} {σ : Mem} (hf : f_X12_ratherOf_2 p1 x2 σ = some o) : G p l e rm_X12_ratherOf s m args below meth c 8 D ca ad A 0 0 (MQ below (Qi D ca ad A r0 σ0) args s 0 0 A) σ 2 [some (.ref (ad 120)), some (.int (iI p1)), some (.int (iI x2)), none, none, none, none, none] [] := by
  unfold f_X12_ratherOf_2 at hf
  refine g_iload_n (i := 2) C dX12_ratherOf_2 rfl rfl ?_
  refine g_aload_n (i := 0) C dX12_ratherOf_3 rfl rfl ?_
  refine gg_X12_s (i := 1) C hiX12_ratherOf_X12 rfl dX12_ratherOf_4 ?_
  refine g_iconst C dX12_ratherOf_7 ?_
  refine g_iaload (N := 39) (j := 0) C (by decide) dX12_ratherOf_8 (by decide) (by decide) ?_
  refine g_icmp_ge (tgt := 119) C dX12_ratherOf_9 (by decide) rfl rfl (fun c42 => ?_) (fun c42 => ?_)
  · have hf := if_t c42 hf
    exact g_mask [false, false, false, false, false, false, false, false] (he2 _ (Option.some.inj hf).symm)
  · have hf := if_f c42 hf
    refine g_aload_n (i := 0) C dX12_ratherOf_12 rfl rfl ?_
    refine g_iload_n (i := 1) C dX12_ratherOf_13 rfl rfl ?_
    refine g_iload_n (i := 2) C dX12_ratherOf_14 rfl rfl ?_
    refine g_iload_n (i := 1) C dX12_ratherOf_15 rfl rfl ?_
    refine g_iload_n (i := 2) C dX12_ratherOf_16 rfl rfl ?_
    obtain ⟨r44, σ43, h45, hf⟩ := ob_inv hf
    refine g_callSi C (c_X12_made  h45) (va_cwS 2 C.2.2.2.2.1 gX12_ratherOf_X12_made rfl rfl rfl (by decide +kernel) ⟨Nat.le_of_ble_eq_true rfl, Nat.le_of_ble_eq_true rfl⟩) rfl rfl (Nat.le_of_ble_eq_true rfl) dX12_ratherOf_17 ⟨Nat.zero_le _, Nat.zero_le _⟩ ?_
    obtain ⟨r47, σ46, h48, hf⟩ := ob_inv hf
    refine g_callVv C (c_X12_findGets  h48) (cwV 3 C.2.2.2.2.1 gX12_ratherOf_X12_findGets rfl rfl rfl (by decide +kernel) ⟨Nat.le_of_ble_eq_true rfl, Nat.le_of_ble_eq_true rfl⟩) ob_X12 rfl rfl rfl rfl (Nat.le_of_ble_eq_true rfl) dX12_ratherOf_20 ⟨Nat.zero_le _, Nat.zero_le _⟩ ?_
    refine g_aload_n (i := 0) C dX12_ratherOf_23 rfl rfl ?_
    refine gg_X12_above (i := 2) C hiX12_ratherOf_X12 rfl dX12_ratherOf_24 ?_
    refine g_lstore_n (i := 3) C dX12_ratherOf_27 rfl (by decide) rfl ?_
    refine g_aload_n (i := 0) C dX12_ratherOf_28 rfl rfl ?_
    refine gg_X12_below (i := 3) C hiX12_ratherOf_X12 rfl dX12_ratherOf_29 ?_
    refine g_lstore C dX12_ratherOf_32 (by decide) rfl ?_
    refine g_iconst C dX12_ratherOf_34 ?_
    refine g_istore C dX12_ratherOf_35 (by decide) rfl ?_
    obtain ⟨q49, hl50, hf⟩ := lb_inv hf
    refine g_mask [true, true, true, true, false, true, false, true] (w_X12_ratherOf_37 C hr hlk hl50 ?_ ?_)
    · rintro r1 σ1 rfl
      exact he1 r1 σ1 (Option.some.inj hf).symm
    · rintro σ51 rfl
      have hf := se_r hf
      refine g_iinc C dX12_ratherOf_113 rfl (by decide) rfl ?_
      refine g_goto (tgt := 2) C dX12_ratherOf_116 (by decide) ?_
      exact g_mask [true, true, true, false, false, false, false, false] (hc _ _ (Option.some.inj hf).symm)
set_option maxHeartbeats 4000000 in
set_option maxRecDepth 100000 in
theorem w_X12_ratherOf_2 (C : Cx p s m args c cX12_ratherOf 8 RX12 wsX12_ratherOf D ca A) (hr : meth.sig.returnType = (some .int)) (hlk : meth.locks = false) {p1 : Int} {n : Nat} {x2 : Int} {σ : Mem} {b : ((Int × Mem) ⊕ (Mem))} (h : itr (fun z : Int × Mem => f_X12_ratherOf_2 p1 z.1 z.2) n (x2, σ) = some b) (he1 : ∀ (r1 : Int) (σ1 : Mem), b = .inl (r1, σ1) → r1 = r0 ∧ σ1 = σ0) (he2 : ∀ (σ : Mem), b = .inr σ → G p l e rm_X12_ratherOf s m args below meth c 8 D ca ad A 0 0 (MQ below (Qi D ca ad A r0 σ0) args s 0 0 A) σ 119 [none, none, none, none, none, none, none, none] []) : G p l e rm_X12_ratherOf s m args below meth c 8 D ca ad A 0 0 (MQ below (Qi D ca ad A r0 σ0) args s 0 0 A) σ 2 [some (.ref (ad 120)), some (.int (iI p1)), some (.int (iI x2)), none, none, none, none, none] [] :=
  itr_rule (P := fun z : Int × Mem => G p l e rm_X12_ratherOf s m args below meth c 8 D ca ad A 0 0 (MQ below (Qi D ca ad A r0 σ0) args s 0 0 A) z.2 2 [some (.ref (ad 120)), some (.int (iI p1)), some (.int (iI z.1)), none, none, none, none, none] []) (E := fun b => (∀ (r1 : Int) (σ1 : Mem), b = .inl (r1, σ1) → r1 = r0 ∧ σ1 = σ0) ∧ (∀ (σ : Mem), b = .inr σ → G p l e rm_X12_ratherOf s m args below meth c 8 D ca ad A 0 0 (MQ below (Qi D ca ad A r0 σ0) args s 0 0 A) σ 119 [none, none, none, none, none, none, none, none] [])) (fun z o hb hc he => it_X12_ratherOf_2 C hr hlk (fun _ _ e => hc _ e) (fun r1 σ1 e => (he _ e).1 r1 σ1 rfl) (fun _ e => (he _ e).2 _ rfl) hb) n _ _ h ⟨he1, he2⟩
set_option maxHeartbeats 4000000 in
set_option maxRecDepth 100000 in
theorem c_X12_ratherOf {v1 : Int} {σ : Mem} (hf : f_X12_ratherOf v1 σ = some (r0, σ0)) : CTi l D ca ad A yX12_ratherOf wsX12_ratherOf rm_X12_ratherOf [.ref (ad 120), .int (iI v1)] σ r0 σ0 := by
  refine ct_i (cc := cX12_ratherOf) (own := RX12) (maxL := 8) (ret := (some .int)) (lv0 := [some (.ref (ad 120)), some (.int (iI v1)), none, none, none, none, none, none]) (by decide) rfl rfl rfl (Nat.le_of_ble_eq_true rfl) ?_
  intro p e s m below meth c C hr hlk hnm
  unfold f_X12_ratherOf at hf
  refine g_iconst C dX12_ratherOf_0 ?_
  refine g_istore_n (i := 2) C dX12_ratherOf_1 rfl (by decide) rfl ?_
  obtain ⟨q53, hl54, hf⟩ := lb_inv hf
  refine g_mask [true, true, true, false, false, false, false, false] (w_X12_ratherOf_2 C hr hlk hl54 ?_ ?_)
  · rintro r1 σ1 rfl
    exact some_inv hf
  · rintro σ55 rfl
    have hf := se_r hf
    refine g_bipush C dX12_ratherOf_119 (by decide) ?_
    obtain ⟨e1, e2⟩ := some_inv hf
    exact g_iret C hr hlk e1 e2 dX12_ratherOf_121
/-! X12_isSure -/
abbrev rm_X12_isSure : Room := { frames := 4, cells := 0, slots := 0, locals := 98 }
set_option maxHeartbeats 4000000 in
set_option maxRecDepth 100000 in
theorem c_X12_isSure {v1 : Int} {σ : Mem} (hf : f_X12_isSure v1 σ = some (r0, σ0)) : CTi l D ca ad A yX12_isSure wsX12_isSure rm_X12_isSure [.ref (ad 120), .int (iI v1)] σ r0 σ0 := by
  refine ct_i (cc := cX12_isSure) (own := RX12) (maxL := 2) (ret := (some .boolean)) (lv0 := [some (.ref (ad 120)), some (.int (iI v1))]) (by decide) rfl rfl rfl (Nat.le_of_ble_eq_true rfl) ?_
  intro p e s m below meth c C hr hlk hnm
  unfold f_X12_isSure at hf
  refine g_aload_n (i := 0) C dX12_isSure_0 rfl rfl ?_
  refine g_iload_n (i := 1) C dX12_isSure_1 rfl rfl ?_
  obtain ⟨r2, σ1, h3, hf⟩ := ob_inv hf
  refine g_callVi C (c_X12_isFit  h3) (cwV 1 C.2.2.2.2.1 gX12_isSure_X12_isFit rfl rfl rfl (by decide +kernel) ⟨Nat.le_of_ble_eq_true rfl, Nat.le_of_ble_eq_true rfl⟩) ob_X12 rfl rfl rfl rfl (Nat.le_of_ble_eq_true rfl) dX12_isSure_2 ⟨Nat.zero_le _, Nat.zero_le _⟩ ?_
  refine g_if_eq (tgt := 22) C dX12_isSure_5 (by decide) rfl (fun c4 => ?_) (fun c4 => ?_)
  · have hf := if_t c4 hf
    refine g_iconst C dX12_isSure_22 ?_
    obtain ⟨e1, e2⟩ := some_inv hf
    exact g_zret C hr hlk (by decide) e1 e2 dX12_isSure_23
  · have hf := if_f c4 hf
    refine g_aload_n (i := 0) C dX12_isSure_8 rfl rfl ?_
    refine g_iload_n (i := 1) C dX12_isSure_9 rfl rfl ?_
    obtain ⟨r6, σ5, h7, hf⟩ := ob_inv hf
    refine g_callVi C (c_X12_ratherOf  h7) (cwV 1 C.2.2.2.2.1 gX12_isSure_X12_ratherOf rfl rfl rfl (by decide +kernel) ⟨Nat.le_of_ble_eq_true rfl, Nat.le_of_ble_eq_true rfl⟩) ob_X12 rfl rfl rfl rfl (Nat.le_of_ble_eq_true rfl) dX12_isSure_10 ⟨Nat.zero_le _, Nat.zero_le _⟩ ?_
    refine g_bipush C dX12_isSure_13 (by decide) ?_
    refine g_icmp_ne (b' := (-4)) (tgt := 22) C dX12_isSure_15 (by decide) rfl (by decide) (fun c8 => ?_) (fun c8 => ?_)
    · have hf := if_f c8 hf
      refine g_iconst C dX12_isSure_22 ?_
      obtain ⟨e1, e2⟩ := some_inv hf
      exact g_zret C hr hlk (by decide) e1 e2 dX12_isSure_23
    · have hf := if_t c8 hf
      refine g_iconst C dX12_isSure_18 ?_
      refine g_goto (tgt := 23) C dX12_isSure_19 (by decide) ?_
      obtain ⟨e1, e2⟩ := some_inv hf
      exact g_zret C hr hlk (by decide) e1 e2 dX12_isSure_23
/-! X12_rather -/
abbrev rm_X12_rather : Room := { frames := 4, cells := 0, slots := 0, locals := 98 }
set_option maxHeartbeats 4000000 in
set_option maxRecDepth 100000 in
theorem c_X12_rather {v1 : Int} {σ : Mem} (hf : f_X12_rather v1 σ = some (r0, σ0)) : CTi l D ca ad A yX12_rather wsX12_rather rm_X12_rather [.ref (ad 120), .int (iI v1)] σ r0 σ0 := by
  refine ct_i (cc := cX12_rather) (own := RX12) (maxL := 2) (ret := (some .int)) (lv0 := [some (.ref (ad 120)), some (.int (iI v1))]) (by decide) rfl rfl rfl (Nat.le_of_ble_eq_true rfl) ?_
  intro p e s m below meth c C hr hlk hnm
  unfold f_X12_rather at hf
  refine g_aload_n (i := 0) C dX12_rather_0 rfl rfl ?_
  obtain ⟨r2, σ1, h3, hf⟩ := ob_inv hf
  refine g_callVi C (c_X12_isOpen  h3) (cwV 0 C.2.2.2.2.1 gX12_rather_X12_isOpen rfl rfl rfl (by decide +kernel) ⟨Nat.le_of_ble_eq_true rfl, Nat.le_of_ble_eq_true rfl⟩) ob_X12 rfl rfl rfl rfl (Nat.le_of_ble_eq_true rfl) dX12_rather_1 ⟨Nat.zero_le _, Nat.zero_le _⟩ ?_
  refine g_if_ne (tgt := 12) C dX12_rather_4 (by decide) rfl (fun c4 => ?_) (fun c4 => ?_)
  · have hf := if_f c4 hf
    refine g_aload_n (i := 0) C dX12_rather_12 rfl rfl ?_
    refine g_iload_n (i := 1) C dX12_rather_13 rfl rfl ?_
    obtain ⟨r6, σ5, h7, hf⟩ := ob_inv hf
    refine g_callVi C (c_X12_isFit  h7) (cwV 1 C.2.2.2.2.1 gX12_rather_X12_isFit rfl rfl rfl (by decide +kernel) ⟨Nat.le_of_ble_eq_true rfl, Nat.le_of_ble_eq_true rfl⟩) ob_X12 rfl rfl rfl rfl (Nat.le_of_ble_eq_true rfl) dX12_rather_14 ⟨Nat.zero_le _, Nat.zero_le _⟩ ?_
    refine g_if_eq (tgt := 28) C dX12_rather_17 (by decide) rfl (fun c8 => ?_) (fun c8 => ?_)
    · have hf := if_t c8 hf
      refine g_iconst C dX12_rather_28 ?_
      obtain ⟨e1, e2⟩ := some_inv hf
      exact g_iret C hr hlk e1 e2 dX12_rather_29
    · have hf := if_f c8 hf
      refine g_aload_n (i := 0) C dX12_rather_20 rfl rfl ?_
      refine g_iload_n (i := 1) C dX12_rather_21 rfl rfl ?_
      obtain ⟨r10, σ9, h11, hf⟩ := ob_inv hf
      refine g_callVi C (c_X12_ratherOf  h11) (cwV 1 C.2.2.2.2.1 gX12_rather_X12_ratherOf rfl rfl rfl (by decide +kernel) ⟨Nat.le_of_ble_eq_true rfl, Nat.le_of_ble_eq_true rfl⟩) ob_X12 rfl rfl rfl rfl (Nat.le_of_ble_eq_true rfl) dX12_rather_22 ⟨Nat.zero_le _, Nat.zero_le _⟩ ?_
      refine g_goto (tgt := 29) C dX12_rather_25 (by decide) ?_
      obtain ⟨e1, e2⟩ := some_inv hf
      exact g_iret C hr hlk e1 e2 dX12_rather_29
  · have hf := if_t c4 hf
    refine g_bipush C dX12_rather_7 (by decide) ?_
    refine g_goto (tgt := 29) C dX12_rather_9 (by decide) ?_
    obtain ⟨e1, e2⟩ := some_inv hf
    exact g_iret C hr hlk e1 e2 dX12_rather_29
/-! X12_next -/
abbrev rm_X12_next : Room := { frames := 5, cells := 0, slots := 0, locals := 119 }
set_option maxHeartbeats 4000000 in
set_option maxRecDepth 100000 in
theorem it_X12_next_21 (C : Cx p s m args c cX12_next 3 RX12 wsX12_next D ca A) (hr : meth.sig.returnType = (some .int)) (hlk : meth.locks = false) {p1 : Int} {o : (Int × Mem) ⊕ ((Int × Mem) ⊕ (Mem))} (hc : ∀ (x2 : Int) (σ : Mem), o = .inl (x2, σ) → G p l e rm_X12_next s m args below meth c 3 D ca ad A 0 0 (MQ below (Qi D ca ad A r0 σ0) args s 0 0 A) σ 21 [some (.ref (ad 120)), some (.int (iI p1)), some (.int (iI x2))] []) (he1 : ∀ (r1 : Int) (σ1 : Mem), o = .inr (.inl (r1, σ1)) → r1 = r0 ∧ σ1 = σ0) (he2 : ∀ (σ : Mem), o = .inr (.inr σ) → G p l e rm_X12_next s m args below meth c 3 D ca ad A 0 0 (MQ below (Qi D ca ad A r0 σ0) args s 0 0 A) σ 61 [none, none, none] []) {x2 : Int} {σ : Mem} (hf : f_X12_next_21 p1 x2 σ = some o) : G p l e rm_X12_next s m args below meth c 3 D ca ad A 0 0 (MQ below (Qi D ca ad A r0 σ0) args s 0 0 A) σ 21 [some (.ref (ad 120)), some (.int (iI p1)), some (.int (iI x2))] [] := by
  unfold f_X12_next_21 at hf
  refine g_iload_n (i := 2) C dX12_next_21 rfl rfl ?_
  refine g_if_gt (tgt := 34) C dX12_next_22 (by decide) rfl (fun c25 => ?_) (fun c25 => ?_)
  · have hf := if_t c25 hf
    refine g_iload_n (i := 2) C dX12_next_34 rfl rfl ?_
    refine g_aload_n (i := 0) C dX12_next_35 rfl rfl ?_
    obtain ⟨r27, σ26, h28, hf⟩ := ob_inv hf
    refine g_callVi C (c_X12_fits  h28) (cwV 0 C.2.2.2.2.1 gX12_next_X12_fits rfl rfl rfl (by decide +kernel) ⟨Nat.le_of_ble_eq_true rfl, Nat.le_of_ble_eq_true rfl⟩) ob_X12 rfl rfl rfl rfl (Nat.le_of_ble_eq_true rfl) dX12_next_36 ⟨Nat.zero_le _, Nat.zero_le _⟩ ?_
    refine g_icmp_lt (tgt := 45) C dX12_next_39 (by decide) rfl rfl (fun c29 => ?_) (fun c29 => ?_)
    · have hf := if_t c29 hf
      refine g_aload_n (i := 0) C dX12_next_45 rfl rfl ?_
      refine g_iload_n (i := 2) C dX12_next_46 rfl rfl ?_
      obtain ⟨r31, σ30, h32, hf⟩ := ob_inv hf
      refine g_callVi C (c_X12_isSure  h32) (cwV 1 C.2.2.2.2.1 gX12_next_X12_isSure rfl rfl rfl (by decide +kernel) ⟨Nat.le_of_ble_eq_true rfl, Nat.le_of_ble_eq_true rfl⟩) ob_X12 rfl rfl rfl rfl (Nat.le_of_ble_eq_true rfl) dX12_next_47 ⟨Nat.zero_le _, Nat.zero_le _⟩ ?_
      refine g_if_eq (tgt := 55) C dX12_next_50 (by decide) rfl (fun c33 => ?_) (fun c33 => ?_)
      · have hf := if_t c33 hf
        refine g_iinc C dX12_next_55 rfl (by decide) rfl ?_
        refine g_goto (tgt := 21) C dX12_next_58 (by decide) ?_
        exact g_mask [true, true, true] (hc _ _ (Option.some.inj hf).symm)
      · have hf := if_f c33 hf
        refine g_iload_n (i := 2) C dX12_next_53 rfl rfl ?_
        obtain ⟨e1, e2⟩ := he1 _ _ (Option.some.inj hf).symm
        exact g_iret C hr hlk e1 e2 dX12_next_54
    · have hf := if_f c29 hf
      refine g_bipush C dX12_next_42 (by decide) ?_
      obtain ⟨e1, e2⟩ := he1 _ _ (Option.some.inj hf).symm
      exact g_iret C hr hlk e1 e2 dX12_next_44
  · have hf := if_f c25 hf
    refine g_iload_n (i := 1) C dX12_next_25 rfl rfl ?_
    refine g_iconst C dX12_next_26 ?_
    refine g_icmp_ne (b' := (-1)) (tgt := 61) C dX12_next_27 (by decide) rfl (by decide) (fun c34 => ?_) (fun c34 => ?_)
    · have hf := if_f c34 hf
      exact g_mask [false, false, false] (he2 _ (Option.some.inj hf).symm)
    · have hf := if_t c34 hf
      refine g_iload_n (i := 2) C dX12_next_30 rfl rfl ?_
      refine g_if_ne (tgt := 61) C dX12_next_31 (by decide) rfl (fun c35 => ?_) (fun c35 => ?_)
      · have hf := if_f c35 hf
        exact g_mask [false, false, false] (he2 _ (Option.some.inj hf).symm)
      · have hf := if_t c35 hf
        refine g_iload_n (i := 2) C dX12_next_34 rfl rfl ?_
        refine g_aload_n (i := 0) C dX12_next_35 rfl rfl ?_
        obtain ⟨r37, σ36, h38, hf⟩ := ob_inv hf
        refine g_callVi C (c_X12_fits  h38) (cwV 0 C.2.2.2.2.1 gX12_next_X12_fits rfl rfl rfl (by decide +kernel) ⟨Nat.le_of_ble_eq_true rfl, Nat.le_of_ble_eq_true rfl⟩) ob_X12 rfl rfl rfl rfl (Nat.le_of_ble_eq_true rfl) dX12_next_36 ⟨Nat.zero_le _, Nat.zero_le _⟩ ?_
        refine g_icmp_lt (tgt := 45) C dX12_next_39 (by decide) rfl rfl (fun c39 => ?_) (fun c39 => ?_)
        · have hf := if_t c39 hf
          refine g_aload_n (i := 0) C dX12_next_45 rfl rfl ?_
          refine g_iload_n (i := 2) C dX12_next_46 rfl rfl ?_
          obtain ⟨r41, σ40, h42, hf⟩ := ob_inv hf
          refine g_callVi C (c_X12_isSure  h42) (cwV 1 C.2.2.2.2.1 gX12_next_X12_isSure rfl rfl rfl (by decide +kernel) ⟨Nat.le_of_ble_eq_true rfl, Nat.le_of_ble_eq_true rfl⟩) ob_X12 rfl rfl rfl rfl (Nat.le_of_ble_eq_true rfl) dX12_next_47 ⟨Nat.zero_le _, Nat.zero_le _⟩ ?_
          refine g_if_eq (tgt := 55) C dX12_next_50 (by decide) rfl (fun c43 => ?_) (fun c43 => ?_)
          · have hf := if_t c43 hf
            refine g_iinc C dX12_next_55 rfl (by decide) rfl ?_
            refine g_goto (tgt := 21) C dX12_next_58 (by decide) ?_
            exact g_mask [true, true, true] (hc _ _ (Option.some.inj hf).symm)
          · have hf := if_f c43 hf
            refine g_iload_n (i := 2) C dX12_next_53 rfl rfl ?_
            obtain ⟨e1, e2⟩ := he1 _ _ (Option.some.inj hf).symm
            exact g_iret C hr hlk e1 e2 dX12_next_54
        · have hf := if_f c39 hf
          refine g_bipush C dX12_next_42 (by decide) ?_
          obtain ⟨e1, e2⟩ := he1 _ _ (Option.some.inj hf).symm
          exact g_iret C hr hlk e1 e2 dX12_next_44
set_option maxHeartbeats 4000000 in
set_option maxRecDepth 100000 in
theorem w_X12_next_21 (C : Cx p s m args c cX12_next 3 RX12 wsX12_next D ca A) (hr : meth.sig.returnType = (some .int)) (hlk : meth.locks = false) {p1 : Int} {n : Nat} {x2 : Int} {σ : Mem} {b : ((Int × Mem) ⊕ (Mem))} (h : itr (fun z : Int × Mem => f_X12_next_21 p1 z.1 z.2) n (x2, σ) = some b) (he1 : ∀ (r1 : Int) (σ1 : Mem), b = .inl (r1, σ1) → r1 = r0 ∧ σ1 = σ0) (he2 : ∀ (σ : Mem), b = .inr σ → G p l e rm_X12_next s m args below meth c 3 D ca ad A 0 0 (MQ below (Qi D ca ad A r0 σ0) args s 0 0 A) σ 61 [none, none, none] []) : G p l e rm_X12_next s m args below meth c 3 D ca ad A 0 0 (MQ below (Qi D ca ad A r0 σ0) args s 0 0 A) σ 21 [some (.ref (ad 120)), some (.int (iI p1)), some (.int (iI x2))] [] :=
  itr_rule (P := fun z : Int × Mem => G p l e rm_X12_next s m args below meth c 3 D ca ad A 0 0 (MQ below (Qi D ca ad A r0 σ0) args s 0 0 A) z.2 21 [some (.ref (ad 120)), some (.int (iI p1)), some (.int (iI z.1))] []) (E := fun b => (∀ (r1 : Int) (σ1 : Mem), b = .inl (r1, σ1) → r1 = r0 ∧ σ1 = σ0) ∧ (∀ (σ : Mem), b = .inr σ → G p l e rm_X12_next s m args below meth c 3 D ca ad A 0 0 (MQ below (Qi D ca ad A r0 σ0) args s 0 0 A) σ 61 [none, none, none] [])) (fun z o hb hc he => it_X12_next_21 C hr hlk (fun _ _ e => hc _ e) (fun r1 σ1 e => (he _ e).1 r1 σ1 rfl) (fun _ e => (he _ e).2 _ rfl) hb) n _ _ h ⟨he1, he2⟩
set_option maxHeartbeats 4000000 in
set_option maxRecDepth 100000 in
theorem c_X12_next {v1 : Int} {σ : Mem} (hf : f_X12_next v1 σ = some (r0, σ0)) : CTi l D ca ad A yX12_next wsX12_next rm_X12_next [.ref (ad 120), .int (iI v1)] σ r0 σ0 := by
  refine ct_i (cc := cX12_next) (own := RX12) (maxL := 3) (ret := (some .int)) (lv0 := [some (.ref (ad 120)), some (.int (iI v1)), none]) (by decide) rfl rfl rfl (Nat.le_of_ble_eq_true rfl) ?_
  intro p e s m below meth c C hr hlk hnm
  unfold f_X12_next at hf
  refine g_aload_n (i := 0) C dX12_next_0 rfl rfl ?_
  obtain ⟨r2, σ1, h3, hf⟩ := ob_inv hf
  refine g_callVi C (c_X12_isOpen  h3) (cwV 0 C.2.2.2.2.1 gX12_next_X12_isOpen rfl rfl rfl (by decide +kernel) ⟨Nat.le_of_ble_eq_true rfl, Nat.le_of_ble_eq_true rfl⟩) ob_X12 rfl rfl rfl rfl (Nat.le_of_ble_eq_true rfl) dX12_next_1 ⟨Nat.zero_le _, Nat.zero_le _⟩ ?_
  refine g_if_ne (tgt := 10) C dX12_next_4 (by decide) rfl (fun c4 => ?_) (fun c4 => ?_)
  · have hf := if_f c4 hf
    refine g_iload_n (i := 1) C dX12_next_10 rfl rfl ?_
    refine g_iconst C dX12_next_11 ?_
    refine g_icmp_ge (b' := (-1)) (tgt := 17) C dX12_next_12 (by decide) rfl (by decide) (fun c5 => ?_) (fun c5 => ?_)
    · have hf := if_t c5 hf
      refine g_iload_n (i := 1) C dX12_next_17 rfl rfl ?_
      refine g_iconst C dX12_next_18 ?_
      refine g_iadd C dX12_next_19 ?_
      refine g_istore_n (i := 2) C dX12_next_20 rfl (by decide) rfl ?_
      obtain ⟨q44, hl45, hf⟩ := lb_inv hf
      refine g_mask [true, true, true] (w_X12_next_21 C hr hlk hl45 ?_ ?_)
      · rintro r1 σ1 rfl
        exact some_inv hf
      · rintro σ46 rfl
        have hf := se_r hf
        refine g_bipush C dX12_next_61 (by decide) ?_
        obtain ⟨e1, e2⟩ := some_inv hf
        exact g_iret C hr hlk e1 e2 dX12_next_63
    · have hf := if_f c5 hf
      refine g_iconst C dX12_next_15 ?_
      obtain ⟨e1, e2⟩ := some_inv hf
      exact g_iret C hr hlk e1 e2 dX12_next_16
  · have hf := if_t c4 hf
    refine g_bipush C dX12_next_7 (by decide) ?_
    obtain ⟨e1, e2⟩ := some_inv hf
    exact g_iret C hr hlk e1 e2 dX12_next_9
/-! X12_sure -/
abbrev rm_X12_sure : Room := { frames := 5, cells := 0, slots := 0, locals := 119 }
set_option maxHeartbeats 4000000 in
set_option maxRecDepth 100000 in
theorem it_X12_sure_4 (C : Cx p s m args c cX12_sure 3 RX12 wsX12_sure D ca A) (hr : meth.sig.returnType = (some .int)) (hlk : meth.locks = false) {o : (Int × Int × Mem) ⊕ (Int × Mem)} (hc : ∀ (x1 x2 : Int) (σ : Mem), o = .inl (x1, x2, σ) → G p l e rm_X12_sure s m args below meth c 3 D ca ad A 0 0 (MQ below (Qi D ca ad A r0 σ0) args s 0 0 A) σ 4 [some (.ref (ad 120)), some (.int (iI x1)), some (.int (iI x2))] []) (he : ∀ (y1 : Int) (σ : Mem), o = .inr (y1, σ) → G p l e rm_X12_sure s m args below meth c 3 D ca ad A 0 0 (MQ below (Qi D ca ad A r0 σ0) args s 0 0 A) σ 34 [none, some (.int (iI y1)), none] []) {x1 x2 : Int} {σ : Mem} (hf : f_X12_sure_4  x1 x2 σ = some o) : G p l e rm_X12_sure s m args below meth c 3 D ca ad A 0 0 (MQ below (Qi D ca ad A r0 σ0) args s 0 0 A) σ 4 [some (.ref (ad 120)), some (.int (iI x1)), some (.int (iI x2))] [] := by
  unfold f_X12_sure_4 at hf
  refine g_iload_n (i := 2) C dX12_sure_4 rfl rfl ?_
  refine g_aload_n (i := 0) C dX12_sure_5 rfl rfl ?_
  obtain ⟨r2, σ1, h3, hf⟩ := ob_inv hf
  refine g_callVi C (c_X12_fits  h3) (cwV 0 C.2.2.2.2.1 gX12_sure_X12_fits rfl rfl rfl (by decide +kernel) ⟨Nat.le_of_ble_eq_true rfl, Nat.le_of_ble_eq_true rfl⟩) ob_X12 rfl rfl rfl rfl (Nat.le_of_ble_eq_true rfl) dX12_sure_6 ⟨Nat.zero_le _, Nat.zero_le _⟩ ?_
  refine g_icmp_ge (tgt := 34) C dX12_sure_9 (by decide) rfl rfl (fun c4 => ?_) (fun c4 => ?_)
  · have hf := if_t c4 hf
    exact g_mask [false, true, false] (he _ _ (Option.some.inj hf).symm)
  · have hf := if_f c4 hf
    refine g_iload_n (i := 1) C dX12_sure_12 rfl rfl ?_
    refine g_aload_n (i := 0) C dX12_sure_13 rfl rfl ?_
    refine g_iload_n (i := 2) C dX12_sure_14 rfl rfl ?_
    obtain ⟨r6, σ5, h7, hf⟩ := ob_inv hf
    refine g_callVi C (c_X12_isSure  h7) (cwV 1 C.2.2.2.2.1 gX12_sure_X12_isSure rfl rfl rfl (by decide +kernel) ⟨Nat.le_of_ble_eq_true rfl, Nat.le_of_ble_eq_true rfl⟩) ob_X12 rfl rfl rfl rfl (Nat.le_of_ble_eq_true rfl) dX12_sure_15 ⟨Nat.zero_le _, Nat.zero_le _⟩ ?_
    refine g_if_eq (tgt := 25) C dX12_sure_18 (by decide) rfl (fun c8 => ?_) (fun c8 => ?_)
    · have hf := if_t c8 hf
      refine g_iconst C dX12_sure_25 ?_
      refine g_iadd C dX12_sure_26 ?_
      refine g_istore_n (i := 1) C dX12_sure_27 rfl (by decide) rfl ?_
      refine g_iinc C dX12_sure_28 rfl (by decide) rfl ?_
      refine g_goto (tgt := 4) C dX12_sure_31 (by decide) ?_
      exact g_mask [true, true, true] (hc _ _ _ (Option.some.inj hf).symm)
    · have hf := if_f c8 hf
      refine g_iconst C dX12_sure_21 ?_
      refine g_goto (tgt := 26) C dX12_sure_22 (by decide) ?_
      refine g_iadd C dX12_sure_26 ?_
      refine g_istore_n (i := 1) C dX12_sure_27 rfl (by decide) rfl ?_
      refine g_iinc C dX12_sure_28 rfl (by decide) rfl ?_
      refine g_goto (tgt := 4) C dX12_sure_31 (by decide) ?_
      exact g_mask [true, true, true] (hc _ _ _ (Option.some.inj hf).symm)
set_option maxHeartbeats 4000000 in
set_option maxRecDepth 100000 in
theorem w_X12_sure_4 (C : Cx p s m args c cX12_sure 3 RX12 wsX12_sure D ca A) (hr : meth.sig.returnType = (some .int)) (hlk : meth.locks = false) {n : Nat} {x1 x2 : Int} {σ : Mem} {b : (Int × Mem)} (h : itr (fun z : Int × Int × Mem => f_X12_sure_4  z.1 z.2.1 z.2.2) n (x1, x2, σ) = some b) (he : ∀ (y1 : Int) (σ : Mem), b = (y1, σ) → G p l e rm_X12_sure s m args below meth c 3 D ca ad A 0 0 (MQ below (Qi D ca ad A r0 σ0) args s 0 0 A) σ 34 [none, some (.int (iI y1)), none] []) : G p l e rm_X12_sure s m args below meth c 3 D ca ad A 0 0 (MQ below (Qi D ca ad A r0 σ0) args s 0 0 A) σ 4 [some (.ref (ad 120)), some (.int (iI x1)), some (.int (iI x2))] [] :=
  itr_rule (P := fun z : Int × Int × Mem => G p l e rm_X12_sure s m args below meth c 3 D ca ad A 0 0 (MQ below (Qi D ca ad A r0 σ0) args s 0 0 A) z.2.2 4 [some (.ref (ad 120)), some (.int (iI z.1)), some (.int (iI z.2.1))] []) (E := fun b => ∀ (y1 : Int) (σ : Mem), b = (y1, σ) → G p l e rm_X12_sure s m args below meth c 3 D ca ad A 0 0 (MQ below (Qi D ca ad A r0 σ0) args s 0 0 A) σ 34 [none, some (.int (iI y1)), none] []) (fun z o hb hc he => it_X12_sure_4 C hr hlk (fun _ _ _ e => hc _ e) (fun _ _ e => (he _ e) _ _ rfl) hb) n _ _ h he
set_option maxHeartbeats 4000000 in
set_option maxRecDepth 100000 in
theorem c_X12_sure {σ : Mem} (hf : f_X12_sure  σ = some (r0, σ0)) : CTi l D ca ad A yX12_sure wsX12_sure rm_X12_sure [.ref (ad 120)] σ r0 σ0 := by
  refine ct_i (cc := cX12_sure) (own := RX12) (maxL := 3) (ret := (some .int)) (lv0 := [some (.ref (ad 120)), none, none]) (by decide) rfl rfl rfl (Nat.le_of_ble_eq_true rfl) ?_
  intro p e s m below meth c C hr hlk hnm
  unfold f_X12_sure at hf
  refine g_iconst C dX12_sure_0 ?_
  refine g_istore_n (i := 1) C dX12_sure_1 rfl (by decide) rfl ?_
  refine g_iconst C dX12_sure_2 ?_
  refine g_istore_n (i := 2) C dX12_sure_3 rfl (by decide) rfl ?_
  obtain ⟨q9, hl10, hf⟩ := lb_inv hf
  refine g_mask [true, true, true] (w_X12_sure_4 C hr hlk hl10 ?_)
  · rintro y11 σ12 rfl
    refine g_iload_n (i := 1) C dX12_sure_34 rfl rfl ?_
    obtain ⟨e1, e2⟩ := some_inv hf
    exact g_iret C hr hlk e1 e2 dX12_sure_35
/-! X12_isBarred -/
abbrev rm_X12_isBarred : Room := { frames := 3, cells := 0, slots := 0, locals := 71 }
theorem hiX12_isBarred_X12 : ∀ w ∈ u_ws RX12 TX12 24, w ∈ wsX12_isBarred := fun _ h => (List.mem_cons_of_mem _ (List.mem_append_right _ h))
set_option maxHeartbeats 4000000 in
set_option maxRecDepth 100000 in
theorem it_X12_isBarred_6 (C : Cx p s m args c cX12_isBarred 6 RX12 wsX12_isBarred D ca A) (hr : meth.sig.returnType = (some .boolean)) (hlk : meth.locks = false) {p1 p2 p3 : Int} {o : (Int × Int × Mem) ⊕ (Int × Mem)} (hc : ∀ (x4 x5 : Int) (σ : Mem), o = .inl (x4, x5, σ) → G p l e rm_X12_isBarred s m args below meth c 6 D ca ad A 0 0 (MQ below (Qi D ca ad A r0 σ0) args s 0 0 A) σ 6 [some (.ref (ad 120)), some (.int (iI p1)), some (.int (iI p2)), some (.int (iI p3)), some (.int (iI x4)), some (.int (iI x5))] []) (he : ∀ (y4 : Int) (σ : Mem), o = .inr (y4, σ) → G p l e rm_X12_isBarred s m args below meth c 6 D ca ad A 0 0 (MQ below (Qi D ca ad A r0 σ0) args s 0 0 A) σ 55 [some (.ref (ad 120)), some (.int (iI p1)), some (.int (iI p2)), some (.int (iI p3)), some (.int (iI y4)), none] []) {x4 x5 : Int} {σ : Mem} (hf : f_X12_isBarred_6 p1 p2 p3 x4 x5 σ = some o) : G p l e rm_X12_isBarred s m args below meth c 6 D ca ad A 0 0 (MQ below (Qi D ca ad A r0 σ0) args s 0 0 A) σ 6 [some (.ref (ad 120)), some (.int (iI p1)), some (.int (iI p2)), some (.int (iI p3)), some (.int (iI x4)), some (.int (iI x5))] [] := by
  unfold f_X12_isBarred_6 at hf
  refine g_iload C dX12_isBarred_6 rfl ?_
  refine g_aload_n (i := 0) C dX12_isBarred_8 rfl rfl ?_
  refine gg_X12_s (i := 1) C hiX12_isBarred_X12 rfl dX12_isBarred_9 ?_
  refine g_iconst C dX12_isBarred_12 ?_
  refine g_iaload (N := 39) (j := 0) C (by decide) dX12_isBarred_13 (by decide) (by decide) ?_
  refine g_icmp_ge (tgt := 55) C dX12_isBarred_14 (by decide) rfl rfl (fun c1 => ?_) (fun c1 => ?_)
  · have hf := if_t c1 hf
    exact g_mask [true, true, true, true, true, false] (he _ _ (Option.some.inj hf).symm)
  · have hf := if_f c1 hf
    refine g_aload_n (i := 0) C dX12_isBarred_17 rfl rfl ?_
    refine gg_X12_s (i := 1) C hiX12_isBarred_X12 rfl dX12_isBarred_18 ?_
    refine g_bipush C dX12_isBarred_21 (by decide) ?_
    refine g_iload C dX12_isBarred_23 rfl ?_
    refine g_iadd C dX12_isBarred_25 ?_
    obtain ⟨hb2, hf⟩ := if_inv hf
    refine g_iaload (N := 39) C (by decide) dX12_isBarred_26 rfl hb2 ?_
    refine g_iload C dX12_isBarred_27 rfl ?_
    refine g_icmp_le (tgt := 45) C dX12_isBarred_29 (by decide) rfl rfl (fun c3 => ?_) (fun c3 => ?_)
    · have hf := if_t c3 hf
      refine g_iload C dX12_isBarred_45 rfl ?_
      refine g_istore C dX12_isBarred_47 (by decide) rfl ?_
      refine g_iinc C dX12_isBarred_49 rfl (by decide) rfl ?_
      refine g_goto (tgt := 6) C dX12_isBarred_52 (by decide) ?_
      exact g_mask [true, true, true, true, true, true] (hc _ _ _ (Option.some.inj hf).symm)
    · have hf := if_f c3 hf
      refine g_aload_n (i := 0) C dX12_isBarred_32 rfl rfl ?_
      refine gg_X12_s (i := 1) C hiX12_isBarred_X12 rfl dX12_isBarred_33 ?_
      refine g_bipush C dX12_isBarred_36 (by decide) ?_
      refine g_iload C dX12_isBarred_38 rfl ?_
      refine g_iadd C dX12_isBarred_40 ?_
      refine g_iaload (N := 39) C (by decide) dX12_isBarred_41 rfl hb2 ?_
      refine g_goto (tgt := 47) C dX12_isBarred_42 (by decide) ?_
      refine g_istore C dX12_isBarred_47 (by decide) rfl ?_
      refine g_iinc C dX12_isBarred_49 rfl (by decide) rfl ?_
      refine g_goto (tgt := 6) C dX12_isBarred_52 (by decide) ?_
      exact g_mask [true, true, true, true, true, true] (hc _ _ _ (Option.some.inj hf).symm)
set_option maxHeartbeats 4000000 in
set_option maxRecDepth 100000 in
theorem w_X12_isBarred_6 (C : Cx p s m args c cX12_isBarred 6 RX12 wsX12_isBarred D ca A) (hr : meth.sig.returnType = (some .boolean)) (hlk : meth.locks = false) {p1 p2 p3 : Int} {n : Nat} {x4 x5 : Int} {σ : Mem} {b : (Int × Mem)} (h : itr (fun z : Int × Int × Mem => f_X12_isBarred_6 p1 p2 p3 z.1 z.2.1 z.2.2) n (x4, x5, σ) = some b) (he : ∀ (y4 : Int) (σ : Mem), b = (y4, σ) → G p l e rm_X12_isBarred s m args below meth c 6 D ca ad A 0 0 (MQ below (Qi D ca ad A r0 σ0) args s 0 0 A) σ 55 [some (.ref (ad 120)), some (.int (iI p1)), some (.int (iI p2)), some (.int (iI p3)), some (.int (iI y4)), none] []) : G p l e rm_X12_isBarred s m args below meth c 6 D ca ad A 0 0 (MQ below (Qi D ca ad A r0 σ0) args s 0 0 A) σ 6 [some (.ref (ad 120)), some (.int (iI p1)), some (.int (iI p2)), some (.int (iI p3)), some (.int (iI x4)), some (.int (iI x5))] [] :=
  itr_rule (P := fun z : Int × Int × Mem => G p l e rm_X12_isBarred s m args below meth c 6 D ca ad A 0 0 (MQ below (Qi D ca ad A r0 σ0) args s 0 0 A) z.2.2 6 [some (.ref (ad 120)), some (.int (iI p1)), some (.int (iI p2)), some (.int (iI p3)), some (.int (iI z.1)), some (.int (iI z.2.1))] []) (E := fun b => ∀ (y4 : Int) (σ : Mem), b = (y4, σ) → G p l e rm_X12_isBarred s m args below meth c 6 D ca ad A 0 0 (MQ below (Qi D ca ad A r0 σ0) args s 0 0 A) σ 55 [some (.ref (ad 120)), some (.int (iI p1)), some (.int (iI p2)), some (.int (iI p3)), some (.int (iI y4)), none] []) (fun z o hb hc he => it_X12_isBarred_6 C hr hlk (fun _ _ _ e => hc _ e) (fun _ _ e => (he _ e) _ _ rfl) hb) n _ _ h he
set_option maxHeartbeats 4000000 in
set_option maxRecDepth 100000 in
theorem c_X12_isBarred {v1 v2 v3 : Int} {σ : Mem} (hf : f_X12_isBarred v1 v2 v3 σ = some (r0, σ0)) : CTi l D ca ad A yX12_isBarred wsX12_isBarred rm_X12_isBarred [.ref (ad 120), .int (iI v1), .int (iI v2), .int (iI v3)] σ r0 σ0 := by
  refine ct_i (cc := cX12_isBarred) (own := RX12) (maxL := 6) (ret := (some .boolean)) (lv0 := [some (.ref (ad 120)), some (.int (iI v1)), some (.int (iI v2)), some (.int (iI v3)), none, none]) (by decide) rfl rfl rfl (Nat.le_of_ble_eq_true rfl) ?_
  intro p e s m below meth c C hr hlk hnm
  unfold f_X12_isBarred at hf
  refine g_iconst C dX12_isBarred_0 ?_
  refine g_istore C dX12_isBarred_1 (by decide) rfl ?_
  refine g_iconst C dX12_isBarred_3 ?_
  refine g_istore C dX12_isBarred_4 (by decide) rfl ?_
  obtain ⟨q5, hl6, hf⟩ := lb_inv hf
  refine g_mask [true, true, true, true, true, true] (w_X12_isBarred_6 C hr hlk hl6 ?_)
  · rintro y7 σ8 rfl
    refine g_aload_n (i := 0) C dX12_isBarred_55 rfl rfl ?_
    refine g_iload_n (i := 1) C dX12_isBarred_56 rfl rfl ?_
    refine g_iload_n (i := 3) C dX12_isBarred_57 rfl rfl ?_
    refine g_iload_n (i := 1) C dX12_isBarred_58 rfl rfl ?_
    refine g_iload_n (i := 3) C dX12_isBarred_59 rfl rfl ?_
    obtain ⟨r10, σ9, h11, hf⟩ := ob_inv hf
    refine g_callSi C (c_X12_made  h11) (va_cwS 2 C.2.2.2.2.1 gX12_isBarred_X12_made rfl rfl rfl (by decide +kernel) ⟨Nat.le_of_ble_eq_true rfl, Nat.le_of_ble_eq_true rfl⟩) rfl rfl (Nat.le_of_ble_eq_true rfl) dX12_isBarred_60 ⟨Nat.zero_le _, Nat.zero_le _⟩ ?_
    obtain ⟨r13, σ12, h14, hf⟩ := ob_inv hf
    refine g_callVv C (c_X12_findGets  h14) (cwV 3 C.2.2.2.2.1 gX12_isBarred_X12_findGets rfl rfl rfl (by decide +kernel) ⟨Nat.le_of_ble_eq_true rfl, Nat.le_of_ble_eq_true rfl⟩) ob_X12 rfl rfl rfl rfl (Nat.le_of_ble_eq_true rfl) dX12_isBarred_63 ⟨Nat.zero_le _, Nat.zero_le _⟩ ?_
    refine g_iload C dX12_isBarred_66 rfl ?_
    refine g_aload_n (i := 0) C dX12_isBarred_68 rfl rfl ?_
    refine gg_X12_s (i := 1) C hiX12_isBarred_X12 rfl dX12_isBarred_69 ?_
    refine g_bipush C dX12_isBarred_72 (by decide) ?_
    refine g_iload_n (i := 2) C dX12_isBarred_74 rfl rfl ?_
    refine g_iadd C dX12_isBarred_75 ?_
    obtain ⟨hb15, hf⟩ := if_inv hf
    refine g_iaload (N := 39) C (by decide) dX12_isBarred_76 rfl hb15 ?_
    refine g_iadd C dX12_isBarred_77 ?_
    refine g_aload_n (i := 0) C dX12_isBarred_78 rfl rfl ?_
    refine gg_X12_s (i := 1) C hiX12_isBarred_X12 rfl dX12_isBarred_79 ?_
    refine g_bipush C dX12_isBarred_82 (by decide) ?_
    refine g_iconst C dX12_isBarred_84 ?_
    refine g_iload_n (i := 2) C dX12_isBarred_85 rfl rfl ?_
    refine g_imul C dX12_isBarred_86 ?_
    refine g_iadd C dX12_isBarred_87 ?_
    refine g_iload_n (i := 3) C dX12_isBarred_88 rfl rfl ?_
    refine g_iadd C dX12_isBarred_89 ?_
    obtain ⟨hb16, hf⟩ := if_inv hf
    refine g_iaload (N := 39) C (by decide) dX12_isBarred_90 rfl hb16 ?_
    refine g_isub C dX12_isBarred_91 ?_
    refine g_i2l C dX12_isBarred_92 rfl ?_
    refine g_aload_n (i := 0) C dX12_isBarred_93 rfl rfl ?_
    refine gg_X12_below (i := 2) C hiX12_isBarred_X12 rfl dX12_isBarred_94 ?_
    refine g_lmul C dX12_isBarred_97 ?_
    refine g_aload_n (i := 0) C dX12_isBarred_98 rfl rfl ?_
    refine gg_X12_above (i := 3) C hiX12_isBarred_X12 rfl dX12_isBarred_99 ?_
    refine g_lcmp_ge (tgt := 110) C dX12_isBarred_102 dX12_isBarred_103 (by decide) rfl rfl (fun c17 => ?_) (fun c17 => ?_)
    · have hf := if_t c17 hf
      refine g_iconst C dX12_isBarred_110 ?_
      obtain ⟨e1, e2⟩ := some_inv hf
      exact g_zret C hr hlk (by decide) e1 e2 dX12_isBarred_111
    · have hf := if_f c17 hf
      refine g_iconst C dX12_isBarred_106 ?_
      refine g_goto (tgt := 111) C dX12_isBarred_107 (by decide) ?_
      obtain ⟨e1, e2⟩ := some_inv hf
      exact g_zret C hr hlk (by decide) e1 e2 dX12_isBarred_111
/-! X12_fallsBy -/
abbrev rm_X12_fallsBy : Room := { frames := 4, cells := 0, slots := 0, locals := 96 }
theorem hiX12_fallsBy_X12 : ∀ w ∈ u_ws RX12 TX12 24, w ∈ wsX12_fallsBy := fun _ h => (List.mem_cons_of_mem _ (List.mem_append_right _ h))
set_option maxHeartbeats 4000000 in
set_option maxRecDepth 100000 in
theorem it_X12_fallsBy_29 (C : Cx p s m args c cX12_fallsBy 5 RX12 wsX12_fallsBy D ca A) (hr : meth.sig.returnType = (some .int)) (hlk : meth.locks = false) {p1 p2 : Int} {o : (Int × Int × Mem) ⊕ (Int × Mem)} (hc : ∀ (x3 x4 : Int) (σ : Mem), o = .inl (x3, x4, σ) → G p l e rm_X12_fallsBy s m args below meth c 5 D ca ad A 0 0 (MQ below (Qi D ca ad A r0 σ0) args s 0 0 A) σ 29 [some (.ref (ad 120)), some (.int (iI p1)), some (.int (iI p2)), some (.int (iI x3)), some (.int (iI x4))] []) (he : ∀ (y3 : Int) (σ : Mem), o = .inr (y3, σ) → G p l e rm_X12_fallsBy s m args below meth c 5 D ca ad A 0 0 (MQ below (Qi D ca ad A r0 σ0) args s 0 0 A) σ 86 [some (.ref (ad 120)), some (.int (iI p1)), some (.int (iI p2)), some (.int (iI y3)), none] []) {x3 x4 : Int} {σ : Mem} (hf : f_X12_fallsBy_29 p1 p2 x3 x4 σ = some o) : G p l e rm_X12_fallsBy s m args below meth c 5 D ca ad A 0 0 (MQ below (Qi D ca ad A r0 σ0) args s 0 0 A) σ 29 [some (.ref (ad 120)), some (.int (iI p1)), some (.int (iI p2)), some (.int (iI x3)), some (.int (iI x4))] [] := by
  unfold f_X12_fallsBy_29 at hf
  refine g_iload C dX12_fallsBy_29 rfl ?_
  refine g_aload_n (i := 0) C dX12_fallsBy_31 rfl rfl ?_
  refine gg_X12_s (i := 1) C hiX12_fallsBy_X12 rfl dX12_fallsBy_32 ?_
  refine g_iconst C dX12_fallsBy_35 ?_
  refine g_iaload (N := 39) (j := 0) C (by decide) dX12_fallsBy_36 (by decide) (by decide) ?_
  refine g_icmp_ge (tgt := 86) C dX12_fallsBy_37 (by decide) rfl rfl (fun c6 => ?_) (fun c6 => ?_)
  · have hf := if_t c6 hf
    exact g_mask [true, true, true, true, false] (he _ _ (Option.some.inj hf).symm)
  · have hf := if_f c6 hf
    refine g_aload_n (i := 0) C dX12_fallsBy_40 rfl rfl ?_
    refine g_iload_n (i := 1) C dX12_fallsBy_41 rfl rfl ?_
    refine g_iload_n (i := 2) C dX12_fallsBy_42 rfl rfl ?_
    refine g_iload C dX12_fallsBy_43 rfl ?_
    obtain ⟨r8, σ7, h9, hf⟩ := ob_inv hf
    refine g_callVi C (c_X12_isBarred  h9) (cwV 3 C.2.2.2.2.1 gX12_fallsBy_X12_isBarred rfl rfl rfl (by decide +kernel) ⟨Nat.le_of_ble_eq_true rfl, Nat.le_of_ble_eq_true rfl⟩) ob_X12 rfl rfl rfl rfl (Nat.le_of_ble_eq_true rfl) dX12_fallsBy_45 ⟨Nat.zero_le _, Nat.zero_le _⟩ ?_
    refine g_if_ne (tgt := 80) C dX12_fallsBy_48 (by decide) rfl (fun c10 => ?_) (fun c10 => ?_)
    · have hf := if_f c10 hf
      refine g_iinc C dX12_fallsBy_80 rfl (by decide) rfl ?_
      refine g_goto (tgt := 29) C dX12_fallsBy_83 (by decide) ?_
      exact g_mask [true, true, true, true, true] (hc _ _ _ (Option.some.inj hf).symm)
    · have hf := if_t c10 hf
      refine g_iload_n (i := 3) C dX12_fallsBy_51 rfl rfl ?_
      refine g_if_lt (tgt := 69) C dX12_fallsBy_52 (by decide) rfl (fun c11 => ?_) (fun c11 => ?_)
      · have hf := if_t c11 hf
        refine g_aload_n (i := 0) C dX12_fallsBy_69 rfl rfl ?_
        refine gg_X12_s (i := 1) C hiX12_fallsBy_X12 rfl dX12_fallsBy_70 ?_
        refine g_bipush C dX12_fallsBy_73 (by decide) ?_
        refine g_iload C dX12_fallsBy_75 rfl ?_
        refine g_iadd C dX12_fallsBy_77 ?_
        obtain ⟨hb12, hf⟩ := if_inv hf
        refine g_iaload (N := 39) C (by decide) dX12_fallsBy_78 rfl hb12 ?_
        refine g_istore_n (i := 3) C dX12_fallsBy_79 rfl (by decide) rfl ?_
        refine g_iinc C dX12_fallsBy_80 rfl (by decide) rfl ?_
        refine g_goto (tgt := 29) C dX12_fallsBy_83 (by decide) ?_
        exact g_mask [true, true, true, true, true] (hc _ _ _ (Option.some.inj hf).symm)
      · have hf := if_f c11 hf
        refine g_aload_n (i := 0) C dX12_fallsBy_55 rfl rfl ?_
        refine gg_X12_s (i := 1) C hiX12_fallsBy_X12 rfl dX12_fallsBy_56 ?_
        refine g_bipush C dX12_fallsBy_59 (by decide) ?_
        refine g_iload C dX12_fallsBy_61 rfl ?_
        refine g_iadd C dX12_fallsBy_63 ?_
        obtain ⟨hb14, hf⟩ := if_inv hf
        refine g_iaload (N := 39) C (by decide) dX12_fallsBy_64 rfl hb14 ?_
        refine g_iload_n (i := 3) C dX12_fallsBy_65 rfl rfl ?_
        refine g_icmp_ge (tgt := 80) C dX12_fallsBy_66 (by decide) rfl rfl (fun c15 => ?_) (fun c15 => ?_)
        · have hf := if_t c15 hf
          refine g_iinc C dX12_fallsBy_80 rfl (by decide) rfl ?_
          refine g_goto (tgt := 29) C dX12_fallsBy_83 (by decide) ?_
          exact g_mask [true, true, true, true, true] (hc _ _ _ (Option.some.inj hf).symm)
        · have hf := if_f c15 hf
          refine g_aload_n (i := 0) C dX12_fallsBy_69 rfl rfl ?_
          refine gg_X12_s (i := 1) C hiX12_fallsBy_X12 rfl dX12_fallsBy_70 ?_
          refine g_bipush C dX12_fallsBy_73 (by decide) ?_
          refine g_iload C dX12_fallsBy_75 rfl ?_
          refine g_iadd C dX12_fallsBy_77 ?_
          refine g_iaload (N := 39) C (by decide) dX12_fallsBy_78 rfl hb14 ?_
          refine g_istore_n (i := 3) C dX12_fallsBy_79 rfl (by decide) rfl ?_
          refine g_iinc C dX12_fallsBy_80 rfl (by decide) rfl ?_
          refine g_goto (tgt := 29) C dX12_fallsBy_83 (by decide) ?_
          exact g_mask [true, true, true, true, true] (hc _ _ _ (Option.some.inj hf).symm)
set_option maxHeartbeats 4000000 in
set_option maxRecDepth 100000 in
theorem w_X12_fallsBy_29 (C : Cx p s m args c cX12_fallsBy 5 RX12 wsX12_fallsBy D ca A) (hr : meth.sig.returnType = (some .int)) (hlk : meth.locks = false) {p1 p2 : Int} {n : Nat} {x3 x4 : Int} {σ : Mem} {b : (Int × Mem)} (h : itr (fun z : Int × Int × Mem => f_X12_fallsBy_29 p1 p2 z.1 z.2.1 z.2.2) n (x3, x4, σ) = some b) (he : ∀ (y3 : Int) (σ : Mem), b = (y3, σ) → G p l e rm_X12_fallsBy s m args below meth c 5 D ca ad A 0 0 (MQ below (Qi D ca ad A r0 σ0) args s 0 0 A) σ 86 [some (.ref (ad 120)), some (.int (iI p1)), some (.int (iI p2)), some (.int (iI y3)), none] []) : G p l e rm_X12_fallsBy s m args below meth c 5 D ca ad A 0 0 (MQ below (Qi D ca ad A r0 σ0) args s 0 0 A) σ 29 [some (.ref (ad 120)), some (.int (iI p1)), some (.int (iI p2)), some (.int (iI x3)), some (.int (iI x4))] [] :=
  itr_rule (P := fun z : Int × Int × Mem => G p l e rm_X12_fallsBy s m args below meth c 5 D ca ad A 0 0 (MQ below (Qi D ca ad A r0 σ0) args s 0 0 A) z.2.2 29 [some (.ref (ad 120)), some (.int (iI p1)), some (.int (iI p2)), some (.int (iI z.1)), some (.int (iI z.2.1))] []) (E := fun b => ∀ (y3 : Int) (σ : Mem), b = (y3, σ) → G p l e rm_X12_fallsBy s m args below meth c 5 D ca ad A 0 0 (MQ below (Qi D ca ad A r0 σ0) args s 0 0 A) σ 86 [some (.ref (ad 120)), some (.int (iI p1)), some (.int (iI p2)), some (.int (iI y3)), none] []) (fun z o hb hc he => it_X12_fallsBy_29 C hr hlk (fun _ _ _ e => hc _ e) (fun _ _ e => (he _ e) _ _ rfl) hb) n _ _ h he
set_option maxHeartbeats 4000000 in
set_option maxRecDepth 100000 in
theorem it_X12_fallsBy_89 (C : Cx p s m args c cX12_fallsBy 5 RX12 wsX12_fallsBy D ca A) (hr : meth.sig.returnType = (some .int)) (hlk : meth.locks = false) {p1 p2 p3 : Int} {o : (Int × Mem) ⊕ ((Int × Mem) ⊕ (Mem))} (hc : ∀ (x4 : Int) (σ : Mem), o = .inl (x4, σ) → G p l e rm_X12_fallsBy s m args below meth c 5 D ca ad A 0 0 (MQ below (Qi D ca ad A r0 σ0) args s 0 0 A) σ 89 [some (.ref (ad 120)), some (.int (iI p1)), some (.int (iI p2)), some (.int (iI p3)), some (.int (iI x4))] []) (he1 : ∀ (r1 : Int) (σ1 : Mem), o = .inr (.inl (r1, σ1)) → r1 = r0 ∧ σ1 = σ0) (he2 : ∀ (σ : Mem), o = .inr (.inr σ) → G p l e rm_X12_fallsBy s m args below meth c 5 D ca ad A 0 0 (MQ below (Qi D ca ad A r0 σ0) args s 0 0 A) σ 171 [some (.ref (ad 120)), some (.int (iI p1)), some (.int (iI p2)), none, none] []) {x4 : Int} {σ : Mem} (hf : f_X12_fallsBy_89 p1 p2 p3 x4 σ = some o) : G p l e rm_X12_fallsBy s m args below meth c 5 D ca ad A 0 0 (MQ below (Qi D ca ad A r0 σ0) args s 0 0 A) σ 89 [some (.ref (ad 120)), some (.int (iI p1)), some (.int (iI p2)), some (.int (iI p3)), some (.int (iI x4))] [] := by
  unfold f_X12_fallsBy_89 at hf
  refine g_iload C dX12_fallsBy_89 rfl ?_
  refine g_aload_n (i := 0) C dX12_fallsBy_91 rfl rfl ?_
  refine gg_X12_s (i := 1) C hiX12_fallsBy_X12 rfl dX12_fallsBy_92 ?_
  refine g_iconst C dX12_fallsBy_95 ?_
  refine g_iaload (N := 39) (j := 0) C (by decide) dX12_fallsBy_96 (by decide) (by decide) ?_
  refine g_icmp_ge (tgt := 171) C dX12_fallsBy_97 (by decide) rfl rfl (fun c32 => ?_) (fun c32 => ?_)
  · have hf := if_t c32 hf
    exact g_mask [true, true, true, false, false] (he2 _ (Option.some.inj hf).symm)
  · have hf := if_f c32 hf
    refine g_iload_n (i := 3) C dX12_fallsBy_100 rfl rfl ?_
    refine g_if_lt (tgt := 171) C dX12_fallsBy_101 (by decide) rfl (fun c33 => ?_) (fun c33 => ?_)
    · have hf := if_t c33 hf
      exact g_mask [true, true, true, false, false] (he2 _ (Option.some.inj hf).symm)
    · have hf := if_f c33 hf
      refine g_aload_n (i := 0) C dX12_fallsBy_104 rfl rfl ?_
      refine g_iload_n (i := 1) C dX12_fallsBy_105 rfl rfl ?_
      refine g_iload C dX12_fallsBy_106 rfl ?_
      refine g_iload_n (i := 1) C dX12_fallsBy_108 rfl rfl ?_
      refine g_iload C dX12_fallsBy_109 rfl ?_
      obtain ⟨r35, σ34, h36, hf⟩ := ob_inv hf
      refine g_callSi C (c_X12_made  h36) (va_cwS 2 C.2.2.2.2.1 gX12_fallsBy_X12_made rfl rfl rfl (by decide +kernel) ⟨Nat.le_of_ble_eq_true rfl, Nat.le_of_ble_eq_true rfl⟩) rfl rfl (Nat.le_of_ble_eq_true rfl) dX12_fallsBy_111 ⟨Nat.zero_le _, Nat.zero_le _⟩ ?_
      obtain ⟨r38, σ37, h39, hf⟩ := ob_inv hf
      refine g_callVv C (c_X12_findGets  h39) (cwV 3 C.2.2.2.2.1 gX12_fallsBy_X12_findGets rfl rfl rfl (by decide +kernel) ⟨Nat.le_of_ble_eq_true rfl, Nat.le_of_ble_eq_true rfl⟩) ob_X12 rfl rfl rfl rfl (Nat.le_of_ble_eq_true rfl) dX12_fallsBy_114 ⟨Nat.zero_le _, Nat.zero_le _⟩ ?_
      refine g_iload_n (i := 3) C dX12_fallsBy_117 rfl rfl ?_
      refine g_aload_n (i := 0) C dX12_fallsBy_118 rfl rfl ?_
      refine gg_X12_s (i := 1) C hiX12_fallsBy_X12 rfl dX12_fallsBy_119 ?_
      refine g_bipush C dX12_fallsBy_122 (by decide) ?_
      refine g_iload_n (i := 2) C dX12_fallsBy_124 rfl rfl ?_
      refine g_iadd C dX12_fallsBy_125 ?_
      obtain ⟨hb40, hf⟩ := if_inv hf
      refine g_iaload (N := 39) C (by decide) dX12_fallsBy_126 rfl hb40 ?_
      refine g_iadd C dX12_fallsBy_127 ?_
      refine g_aload_n (i := 0) C dX12_fallsBy_128 rfl rfl ?_
      refine gg_X12_s (i := 1) C hiX12_fallsBy_X12 rfl dX12_fallsBy_129 ?_
      refine g_bipush C dX12_fallsBy_132 (by decide) ?_
      refine g_iconst C dX12_fallsBy_134 ?_
      refine g_iload_n (i := 2) C dX12_fallsBy_135 rfl rfl ?_
      refine g_imul C dX12_fallsBy_136 ?_
      refine g_iadd C dX12_fallsBy_137 ?_
      refine g_iload C dX12_fallsBy_138 rfl ?_
      refine g_iadd C dX12_fallsBy_140 ?_
      obtain ⟨hb41, hf⟩ := if_inv hf
      refine g_iaload (N := 39) C (by decide) dX12_fallsBy_141 rfl hb41 ?_
      refine g_isub C dX12_fallsBy_142 ?_
      refine g_i2l C dX12_fallsBy_143 rfl ?_
      refine g_aload_n (i := 0) C dX12_fallsBy_144 rfl rfl ?_
      refine gg_X12_below (i := 2) C hiX12_fallsBy_X12 rfl dX12_fallsBy_145 ?_
      refine g_lmul C dX12_fallsBy_148 ?_
      refine g_aload_n (i := 0) C dX12_fallsBy_149 rfl rfl ?_
      refine gg_X12_above (i := 3) C hiX12_fallsBy_X12 rfl dX12_fallsBy_150 ?_
      refine g_lcmp_le (tgt := 165) C dX12_fallsBy_153 dX12_fallsBy_154 (by decide) rfl rfl (fun c42 => ?_) (fun c42 => ?_)
      · have hf := if_t c42 hf
        refine g_iinc C dX12_fallsBy_165 rfl (by decide) rfl ?_
        refine g_goto (tgt := 89) C dX12_fallsBy_168 (by decide) ?_
        exact g_mask [true, true, true, true, true] (hc _ _ (Option.some.inj hf).symm)
      · have hf := if_f c42 hf
        refine g_bipush C dX12_fallsBy_157 (by decide) ?_
        refine g_iload_n (i := 2) C dX12_fallsBy_159 rfl rfl ?_
        refine g_imul C dX12_fallsBy_160 ?_
        refine g_iload C dX12_fallsBy_161 rfl ?_
        refine g_iadd C dX12_fallsBy_163 ?_
        obtain ⟨e1, e2⟩ := he1 _ _ (Option.some.inj hf).symm
        exact g_iret C hr hlk e1 e2 dX12_fallsBy_164
set_option maxHeartbeats 4000000 in
set_option maxRecDepth 100000 in
theorem w_X12_fallsBy_89 (C : Cx p s m args c cX12_fallsBy 5 RX12 wsX12_fallsBy D ca A) (hr : meth.sig.returnType = (some .int)) (hlk : meth.locks = false) {p1 p2 p3 : Int} {n : Nat} {x4 : Int} {σ : Mem} {b : ((Int × Mem) ⊕ (Mem))} (h : itr (fun z : Int × Mem => f_X12_fallsBy_89 p1 p2 p3 z.1 z.2) n (x4, σ) = some b) (he1 : ∀ (r1 : Int) (σ1 : Mem), b = .inl (r1, σ1) → r1 = r0 ∧ σ1 = σ0) (he2 : ∀ (σ : Mem), b = .inr σ → G p l e rm_X12_fallsBy s m args below meth c 5 D ca ad A 0 0 (MQ below (Qi D ca ad A r0 σ0) args s 0 0 A) σ 171 [some (.ref (ad 120)), some (.int (iI p1)), some (.int (iI p2)), none, none] []) : G p l e rm_X12_fallsBy s m args below meth c 5 D ca ad A 0 0 (MQ below (Qi D ca ad A r0 σ0) args s 0 0 A) σ 89 [some (.ref (ad 120)), some (.int (iI p1)), some (.int (iI p2)), some (.int (iI p3)), some (.int (iI x4))] [] :=
  itr_rule (P := fun z : Int × Mem => G p l e rm_X12_fallsBy s m args below meth c 5 D ca ad A 0 0 (MQ below (Qi D ca ad A r0 σ0) args s 0 0 A) z.2 89 [some (.ref (ad 120)), some (.int (iI p1)), some (.int (iI p2)), some (.int (iI p3)), some (.int (iI z.1))] []) (E := fun b => (∀ (r1 : Int) (σ1 : Mem), b = .inl (r1, σ1) → r1 = r0 ∧ σ1 = σ0) ∧ (∀ (σ : Mem), b = .inr σ → G p l e rm_X12_fallsBy s m args below meth c 5 D ca ad A 0 0 (MQ below (Qi D ca ad A r0 σ0) args s 0 0 A) σ 171 [some (.ref (ad 120)), some (.int (iI p1)), some (.int (iI p2)), none, none] [])) (fun z o hb hc he => it_X12_fallsBy_89 C hr hlk (fun _ _ e => hc _ e) (fun r1 σ1 e => (he _ e).1 r1 σ1 rfl) (fun _ e => (he _ e).2 _ rfl) hb) n _ _ h ⟨he1, he2⟩
set_option maxHeartbeats 4000000 in
set_option maxRecDepth 100000 in
theorem it_X12_fallsBy_2 (C : Cx p s m args c cX12_fallsBy 5 RX12 wsX12_fallsBy D ca A) (hr : meth.sig.returnType = (some .int)) (hlk : meth.locks = false) {p1 : Int} {o : (Int × Mem) ⊕ ((Int × Mem) ⊕ (Mem))} (hc : ∀ (x2 : Int) (σ : Mem), o = .inl (x2, σ) → G p l e rm_X12_fallsBy s m args below meth c 5 D ca ad A 0 0 (MQ below (Qi D ca ad A r0 σ0) args s 0 0 A) σ 2 [some (.ref (ad 120)), some (.int (iI p1)), some (.int (iI x2)), none, none] []) (he1 : ∀ (r1 : Int) (σ1 : Mem), o = .inr (.inl (r1, σ1)) → r1 = r0 ∧ σ1 = σ0) (he2 : ∀ (σ : Mem), o = .inr (.inr σ) → G p l e rm_X12_fallsBy s m args below meth c 5 D ca ad A 0 0 (MQ below (Qi D ca ad A r0 σ0) args s 0 0 A) σ 177 [none, none, none, none, none] []) {x2 : Int} {σ : Mem} (hf : f_X12_fallsBy_2 p1 x2 σ = some o) : G p l e rm_X12_fallsBy s m args below meth c 5 D ca ad A 0 0 (MQ below (Qi D ca ad A r0 σ0) args s 0 0 A) σ 2 [some (.ref (ad 120)), some (.int (iI p1)), some (.int (iI x2)), none, none] [] := by
  unfold f_X12_fallsBy_2 at hf
  refine g_iload_n (i := 2) C dX12_fallsBy_2 rfl rfl ?_
  refine g_aload_n (i := 0) C dX12_fallsBy_3 rfl rfl ?_
  refine gg_X12_s (i := 1) C hiX12_fallsBy_X12 rfl dX12_fallsBy_4 ?_
  refine g_iconst C dX12_fallsBy_7 ?_
  refine g_iaload (N := 39) (j := 1) C (by decide) dX12_fallsBy_8 (by decide) (by decide) ?_
  refine g_icmp_ge (tgt := 177) C dX12_fallsBy_9 (by decide) rfl rfl (fun c47 => ?_) (fun c47 => ?_)
  · have hf := if_t c47 hf
    exact g_mask [false, false, false, false, false] (he2 _ (Option.some.inj hf).symm)
  · have hf := if_f c47 hf
    refine g_aload_n (i := 0) C dX12_fallsBy_12 rfl rfl ?_
    refine g_iload_n (i := 1) C dX12_fallsBy_13 rfl rfl ?_
    refine g_iload_n (i := 2) C dX12_fallsBy_14 rfl rfl ?_
    obtain ⟨r49, σ48, h50, hf⟩ := ob_inv hf
    refine g_callVi C (c_X12_isMade  h50) (cwV 2 C.2.2.2.2.1 gX12_fallsBy_X12_isMade rfl rfl rfl (by decide +kernel) ⟨Nat.le_of_ble_eq_true rfl, Nat.le_of_ble_eq_true rfl⟩) ob_X12 rfl rfl rfl rfl (Nat.le_of_ble_eq_true rfl) dX12_fallsBy_15 ⟨Nat.zero_le _, Nat.zero_le _⟩ ?_
    refine g_if_eq (tgt := 24) C dX12_fallsBy_18 (by decide) rfl (fun c51 => ?_) (fun c51 => ?_)
    · have hf := if_t c51 hf
      refine g_iconst C dX12_fallsBy_24 ?_
      refine g_istore_n (i := 3) C dX12_fallsBy_25 rfl (by decide) rfl ?_
      refine g_iconst C dX12_fallsBy_26 ?_
      refine g_istore C dX12_fallsBy_27 (by decide) rfl ?_
      obtain ⟨q52, hl53, hf⟩ := lb_inv hf
      refine g_mask [true, true, true, true, true] (w_X12_fallsBy_29 C hr hlk hl53 ?_)
      · rintro y54 σ55 rfl
        refine g_iconst C dX12_fallsBy_86 ?_
        refine g_istore C dX12_fallsBy_87 (by decide) rfl ?_
        obtain ⟨q56, hl57, hf⟩ := lb_inv hf
        refine g_mask [true, true, true, true, true] (w_X12_fallsBy_89 C hr hlk hl57 ?_ ?_)
        · rintro r1 σ1 rfl
          exact he1 r1 σ1 (Option.some.inj hf).symm
        · rintro σ58 rfl
          have hf := se_r hf
          refine g_iinc C dX12_fallsBy_171 rfl (by decide) rfl ?_
          refine g_goto (tgt := 2) C dX12_fallsBy_174 (by decide) ?_
          exact g_mask [true, true, true, false, false] (hc _ _ (Option.some.inj hf).symm)
    · have hf := if_f c51 hf
      refine g_goto (tgt := 171) C dX12_fallsBy_21 (by decide) ?_
      refine g_iinc C dX12_fallsBy_171 rfl (by decide) rfl ?_
      refine g_goto (tgt := 2) C dX12_fallsBy_174 (by decide) ?_
      exact g_mask [true, true, true, false, false] (hc _ _ (Option.some.inj hf).symm)
set_option maxHeartbeats 4000000 in
set_option maxRecDepth 100000 in
theorem w_X12_fallsBy_2 (C : Cx p s m args c cX12_fallsBy 5 RX12 wsX12_fallsBy D ca A) (hr : meth.sig.returnType = (some .int)) (hlk : meth.locks = false) {p1 : Int} {n : Nat} {x2 : Int} {σ : Mem} {b : ((Int × Mem) ⊕ (Mem))} (h : itr (fun z : Int × Mem => f_X12_fallsBy_2 p1 z.1 z.2) n (x2, σ) = some b) (he1 : ∀ (r1 : Int) (σ1 : Mem), b = .inl (r1, σ1) → r1 = r0 ∧ σ1 = σ0) (he2 : ∀ (σ : Mem), b = .inr σ → G p l e rm_X12_fallsBy s m args below meth c 5 D ca ad A 0 0 (MQ below (Qi D ca ad A r0 σ0) args s 0 0 A) σ 177 [none, none, none, none, none] []) : G p l e rm_X12_fallsBy s m args below meth c 5 D ca ad A 0 0 (MQ below (Qi D ca ad A r0 σ0) args s 0 0 A) σ 2 [some (.ref (ad 120)), some (.int (iI p1)), some (.int (iI x2)), none, none] [] :=
  itr_rule (P := fun z : Int × Mem => G p l e rm_X12_fallsBy s m args below meth c 5 D ca ad A 0 0 (MQ below (Qi D ca ad A r0 σ0) args s 0 0 A) z.2 2 [some (.ref (ad 120)), some (.int (iI p1)), some (.int (iI z.1)), none, none] []) (E := fun b => (∀ (r1 : Int) (σ1 : Mem), b = .inl (r1, σ1) → r1 = r0 ∧ σ1 = σ0) ∧ (∀ (σ : Mem), b = .inr σ → G p l e rm_X12_fallsBy s m args below meth c 5 D ca ad A 0 0 (MQ below (Qi D ca ad A r0 σ0) args s 0 0 A) σ 177 [none, none, none, none, none] [])) (fun z o hb hc he => it_X12_fallsBy_2 C hr hlk (fun _ _ e => hc _ e) (fun r1 σ1 e => (he _ e).1 r1 σ1 rfl) (fun _ e => (he _ e).2 _ rfl) hb) n _ _ h ⟨he1, he2⟩
set_option maxHeartbeats 4000000 in
set_option maxRecDepth 100000 in
theorem c_X12_fallsBy {v1 : Int} {σ : Mem} (hf : f_X12_fallsBy v1 σ = some (r0, σ0)) : CTi l D ca ad A yX12_fallsBy wsX12_fallsBy rm_X12_fallsBy [.ref (ad 120), .int (iI v1)] σ r0 σ0 := by
  refine ct_i (cc := cX12_fallsBy) (own := RX12) (maxL := 5) (ret := (some .int)) (lv0 := [some (.ref (ad 120)), some (.int (iI v1)), none, none, none]) (by decide) rfl rfl rfl (Nat.le_of_ble_eq_true rfl) ?_
  intro p e s m below meth c C hr hlk hnm
  unfold f_X12_fallsBy at hf
  refine g_iconst C dX12_fallsBy_0 ?_
  refine g_istore_n (i := 2) C dX12_fallsBy_1 rfl (by decide) rfl ?_
  obtain ⟨q60, hl61, hf⟩ := lb_inv hf
  refine g_mask [true, true, true, false, false] (w_X12_fallsBy_2 C hr hlk hl61 ?_ ?_)
  · rintro r1 σ1 rfl
    exact some_inv hf
  · rintro σ62 rfl
    have hf := se_r hf
    refine g_bipush C dX12_fallsBy_177 (by decide) ?_
    obtain ⟨e1, e2⟩ := some_inv hf
    exact g_iret C hr hlk e1 e2 dX12_fallsBy_179
/-! X12_all -/
abbrev rm_X12_all : Room := { frames := 6, cells := 0, slots := 0, locals := 141 }
theorem hiX12_all_X12 : ∀ w ∈ u_ws RX12 TX12 24, w ∈ wsX12_all := fun _ h => (List.mem_cons_of_mem _ (List.mem_append_right _ h))
set_option maxHeartbeats 4000000 in
set_option maxRecDepth 100000 in
theorem it_X12_all_59 (C : Cx p s m args c cX12_all 4 RX12 wsX12_all D ca A) (hr : meth.sig.returnType = (some .int)) (hlk : meth.locks = false) {p1 : Int} {o : (Int × Int × Mem) ⊕ (Int × Mem)} (hc : ∀ (x2 x3 : Int) (σ : Mem), o = .inl (x2, x3, σ) → G p l e rm_X12_all s m args below meth c 4 D ca ad A 0 0 (MQ below (Qi D ca ad A r0 σ0) args s 0 0 A) σ 59 [some (.ref (ad 120)), some (.int (iI p1)), some (.int (iI x2)), some (.int (iI x3))] []) (he : ∀ (y2 : Int) (σ : Mem), o = .inr (y2, σ) → G p l e rm_X12_all s m args below meth c 4 D ca ad A 0 0 (MQ below (Qi D ca ad A r0 σ0) args s 0 0 A) σ 104 [none, none, some (.int (iI y2)), none] []) {x2 x3 : Int} {σ : Mem} (hf : f_X12_all_59 p1 x2 x3 σ = some o) : G p l e rm_X12_all s m args below meth c 4 D ca ad A 0 0 (MQ below (Qi D ca ad A r0 σ0) args s 0 0 A) σ 59 [some (.ref (ad 120)), some (.int (iI p1)), some (.int (iI x2)), some (.int (iI x3))] [] := by
  unfold f_X12_all_59 at hf
  refine g_iload_n (i := 3) C dX12_all_59 rfl rfl ?_
  refine g_aload_n (i := 0) C dX12_all_60 rfl rfl ?_
  obtain ⟨r17, σ16, h18, hf⟩ := ob_inv hf
  refine g_callVi C (c_X12_fits  h18) (cwV 0 C.2.2.2.2.1 gX12_all_X12_fits rfl rfl rfl (by decide +kernel) ⟨Nat.le_of_ble_eq_true rfl, Nat.le_of_ble_eq_true rfl⟩) ob_X12 rfl rfl rfl rfl (Nat.le_of_ble_eq_true rfl) dX12_all_61 ⟨Nat.zero_le _, Nat.zero_le _⟩ ?_
  refine g_icmp_ge (tgt := 104) C dX12_all_64 (by decide) rfl rfl (fun c19 => ?_) (fun c19 => ?_)
  · have hf := if_t c19 hf
    exact g_mask [false, false, true, false] (he _ _ (Option.some.inj hf).symm)
  · have hf := if_f c19 hf
    refine g_iload_n (i := 1) C dX12_all_67 rfl rfl ?_
    refine g_iconst C dX12_all_68 ?_
    refine g_icmp_ne (b' := 2) (tgt := 104) C dX12_all_69 (by decide) rfl (by decide) (fun c20 => ?_) (fun c20 => ?_)
    · have hf := if_f c20 hf
      exact g_mask [false, false, true, false] (he _ _ (Option.some.inj hf).symm)
    · have hf := if_t c20 hf
      refine g_iload_n (i := 2) C dX12_all_72 rfl rfl ?_
      refine g_aload_n (i := 0) C dX12_all_73 rfl rfl ?_
      refine g_iload_n (i := 3) C dX12_all_74 rfl rfl ?_
      obtain ⟨r22, σ21, h23, hf⟩ := ob_inv hf
      refine g_callVi C (c_X12_isSure  h23) (cwV 1 C.2.2.2.2.1 gX12_all_X12_isSure rfl rfl rfl (by decide +kernel) ⟨Nat.le_of_ble_eq_true rfl, Nat.le_of_ble_eq_true rfl⟩) ob_X12 rfl rfl rfl rfl (Nat.le_of_ble_eq_true rfl) dX12_all_75 ⟨Nat.zero_le _, Nat.zero_le _⟩ ?_
      refine g_if_eq (tgt := 95) C dX12_all_78 (by decide) rfl (fun c24 => ?_) (fun c24 => ?_)
      · have hf := if_t c24 hf
        refine g_iconst C dX12_all_95 ?_
        refine g_iadd C dX12_all_96 ?_
        refine g_istore_n (i := 2) C dX12_all_97 rfl (by decide) rfl ?_
        refine g_iinc C dX12_all_98 rfl (by decide) rfl ?_
        refine g_goto (tgt := 59) C dX12_all_101 (by decide) ?_
        exact g_mask [true, true, true, true] (hc _ _ _ (Option.some.inj hf).symm)
      · have hf := if_f c24 hf
        refine g_aload_n (i := 0) C dX12_all_81 rfl rfl ?_
        refine g_iload_n (i := 3) C dX12_all_82 rfl rfl ?_
        obtain ⟨r26, σ25, h27, hf⟩ := ob_inv hf
        refine g_callVi C (c_X12_fallsBy  h27) (cwV 1 C.2.2.2.2.1 gX12_all_X12_fallsBy rfl rfl rfl (by decide +kernel) ⟨Nat.le_of_ble_eq_true rfl, Nat.le_of_ble_eq_true rfl⟩) ob_X12 rfl rfl rfl rfl (Nat.le_of_ble_eq_true rfl) dX12_all_83 ⟨Nat.zero_le _, Nat.zero_le _⟩ ?_
        refine g_bipush C dX12_all_86 (by decide) ?_
        refine g_icmp_ne (b' := (-4)) (tgt := 95) C dX12_all_88 (by decide) rfl (by decide) (fun c28 => ?_) (fun c28 => ?_)
        · have hf := if_f c28 hf
          refine g_iconst C dX12_all_95 ?_
          refine g_iadd C dX12_all_96 ?_
          refine g_istore_n (i := 2) C dX12_all_97 rfl (by decide) rfl ?_
          refine g_iinc C dX12_all_98 rfl (by decide) rfl ?_
          refine g_goto (tgt := 59) C dX12_all_101 (by decide) ?_
          exact g_mask [true, true, true, true] (hc _ _ _ (Option.some.inj hf).symm)
        · have hf := if_t c28 hf
          refine g_iconst C dX12_all_91 ?_
          refine g_goto (tgt := 96) C dX12_all_92 (by decide) ?_
          refine g_iadd C dX12_all_96 ?_
          refine g_istore_n (i := 2) C dX12_all_97 rfl (by decide) rfl ?_
          refine g_iinc C dX12_all_98 rfl (by decide) rfl ?_
          refine g_goto (tgt := 59) C dX12_all_101 (by decide) ?_
          exact g_mask [true, true, true, true] (hc _ _ _ (Option.some.inj hf).symm)
set_option maxHeartbeats 4000000 in
set_option maxRecDepth 100000 in
theorem w_X12_all_59 (C : Cx p s m args c cX12_all 4 RX12 wsX12_all D ca A) (hr : meth.sig.returnType = (some .int)) (hlk : meth.locks = false) {p1 : Int} {n : Nat} {x2 x3 : Int} {σ : Mem} {b : (Int × Mem)} (h : itr (fun z : Int × Int × Mem => f_X12_all_59 p1 z.1 z.2.1 z.2.2) n (x2, x3, σ) = some b) (he : ∀ (y2 : Int) (σ : Mem), b = (y2, σ) → G p l e rm_X12_all s m args below meth c 4 D ca ad A 0 0 (MQ below (Qi D ca ad A r0 σ0) args s 0 0 A) σ 104 [none, none, some (.int (iI y2)), none] []) : G p l e rm_X12_all s m args below meth c 4 D ca ad A 0 0 (MQ below (Qi D ca ad A r0 σ0) args s 0 0 A) σ 59 [some (.ref (ad 120)), some (.int (iI p1)), some (.int (iI x2)), some (.int (iI x3))] [] :=
  itr_rule (P := fun z : Int × Int × Mem => G p l e rm_X12_all s m args below meth c 4 D ca ad A 0 0 (MQ below (Qi D ca ad A r0 σ0) args s 0 0 A) z.2.2 59 [some (.ref (ad 120)), some (.int (iI p1)), some (.int (iI z.1)), some (.int (iI z.2.1))] []) (E := fun b => ∀ (y2 : Int) (σ : Mem), b = (y2, σ) → G p l e rm_X12_all s m args below meth c 4 D ca ad A 0 0 (MQ below (Qi D ca ad A r0 σ0) args s 0 0 A) σ 104 [none, none, some (.int (iI y2)), none] []) (fun z o hb hc he => it_X12_all_59 C hr hlk (fun _ _ _ e => hc _ e) (fun _ _ e => (he _ e) _ _ rfl) hb) n _ _ h he
set_option maxHeartbeats 4000000 in
set_option maxRecDepth 100000 in
theorem c_X12_all {v1 : Int} {σ : Mem} (hf : f_X12_all v1 σ = some (r0, σ0)) : CTi l D ca ad A yX12_all wsX12_all rm_X12_all [.ref (ad 120), .int (iI v1)] σ r0 σ0 := by
  refine ct_i (cc := cX12_all) (own := RX12) (maxL := 4) (ret := (some .int)) (lv0 := [some (.ref (ad 120)), some (.int (iI v1)), none, none]) (by decide) rfl rfl rfl (Nat.le_of_ble_eq_true rfl) ?_
  intro p e s m below meth c C hr hlk hnm
  unfold f_X12_all at hf
  refine g_aload_n (i := 0) C dX12_all_0 rfl rfl ?_
  obtain ⟨r2, σ1, h3, hf⟩ := ob_inv hf
  refine g_callVi C (c_X12_isOpen  h3) (cwV 0 C.2.2.2.2.1 gX12_all_X12_isOpen rfl rfl rfl (by decide +kernel) ⟨Nat.le_of_ble_eq_true rfl, Nat.le_of_ble_eq_true rfl⟩) ob_X12 rfl rfl rfl rfl (Nat.le_of_ble_eq_true rfl) dX12_all_1 ⟨Nat.zero_le _, Nat.zero_le _⟩ ?_
  refine g_if_ne (tgt := 10) C dX12_all_4 (by decide) rfl (fun c4 => ?_) (fun c4 => ?_)
  · have hf := if_f c4 hf
    refine g_iload_n (i := 1) C dX12_all_10 rfl rfl ?_
    refine g_i2l C dX12_all_11 rfl ?_
    refine g_lconst (z := 0) C dX12_all_12 (by decide) ?_
    refine g_ldc2 (i := 1) (z := 2) C dX12_all_13 rfl (by decide) ?_
    obtain ⟨r6, σ5, h7, hf⟩ := ob_inv hf
    refine g_callSi C (c_X12_isIn  h7) (va_cwS 3 C.2.2.2.2.1 gX12_all_X12_isIn rfl rfl rfl (by decide +kernel) ⟨Nat.le_of_ble_eq_true rfl, Nat.le_of_ble_eq_true rfl⟩) rfl rfl (Nat.le_of_ble_eq_true rfl) dX12_all_16 ⟨Nat.zero_le _, Nat.zero_le _⟩ ?_
    refine g_if_ne (tgt := 24) C dX12_all_19 (by decide) rfl (fun c8 => ?_) (fun c8 => ?_)
    · have hf := if_f c8 hf
      refine g_aload_n (i := 0) C dX12_all_24 rfl rfl ?_
      refine g_iload_n (i := 1) C dX12_all_25 rfl rfl ?_
      refine g_iconst C dX12_all_26 ?_
      refine g_icmp_ne (b' := 1) (tgt := 34) C dX12_all_27 (by decide) rfl (by decide) (fun c9 => ?_) (fun c9 => ?_)
      · have hf := if_f c9 hf
        refine g_iconst C dX12_all_34 ?_
        refine gp_X12_allOpen (i := 2) C (by decide) hiX12_all_X12 rfl dX12_all_35 ?_
        refine g_iload_n (i := 1) C dX12_all_38 rfl rfl ?_
        refine g_iconst C dX12_all_39 ?_
        refine g_icmp_ne (b' := 2) (tgt := 47) C dX12_all_40 (by decide) rfl (by decide) (fun c11 => ?_) (fun c11 => ?_)
        · have hf := if_f c11 hf
          refine g_aload_n (i := 0) C dX12_all_47 rfl rfl ?_
          obtain ⟨r13, σ12, h14, hf⟩ := ob_inv hf
          refine g_callVi C (c_X12_sure  h14) (cwV 0 C.2.2.2.2.1 gX12_all_X12_sure rfl rfl rfl (by decide +kernel) ⟨Nat.le_of_ble_eq_true rfl, Nat.le_of_ble_eq_true rfl⟩) ob_X12 rfl rfl rfl rfl (Nat.le_of_ble_eq_true rfl) dX12_all_48 ⟨Nat.zero_le _, Nat.zero_le _⟩ ?_
          refine g_istore_n (i := 2) C dX12_all_51 rfl (by decide) rfl ?_
          refine g_aload_n (i := 0) C dX12_all_52 rfl rfl ?_
          refine g_iconst C dX12_all_53 ?_
          refine gp_X12_allOpen (i := 2) C (by decide) hiX12_all_X12 rfl dX12_all_54 ?_
          refine g_iconst C dX12_all_57 ?_
          refine g_istore_n (i := 3) C dX12_all_58 rfl (by decide) rfl ?_
          obtain ⟨q29, hl30, hf⟩ := lb_inv hf
          refine g_mask [true, true, true, true] (w_X12_all_59 C hr hlk hl30 ?_)
          · rintro y31 σ32 rfl
            refine g_iload_n (i := 2) C dX12_all_104 rfl rfl ?_
            obtain ⟨e1, e2⟩ := some_inv hf
            exact g_iret C hr hlk e1 e2 dX12_all_105
        · have hf := if_t c11 hf
          refine g_iconst C dX12_all_43 ?_
          refine g_goto (tgt := 51) C dX12_all_44 (by decide) ?_
          refine g_istore_n (i := 2) C dX12_all_51 rfl (by decide) rfl ?_
          refine g_aload_n (i := 0) C dX12_all_52 rfl rfl ?_
          refine g_iconst C dX12_all_53 ?_
          refine gp_X12_allOpen (i := 2) C (by decide) hiX12_all_X12 rfl dX12_all_54 ?_
          refine g_iconst C dX12_all_57 ?_
          refine g_istore_n (i := 3) C dX12_all_58 rfl (by decide) rfl ?_
          obtain ⟨q34, hl35, hf⟩ := lb_inv hf
          refine g_mask [true, true, true, true] (w_X12_all_59 C hr hlk hl35 ?_)
          · rintro y36 σ37 rfl
            refine g_iload_n (i := 2) C dX12_all_104 rfl rfl ?_
            obtain ⟨e1, e2⟩ := some_inv hf
            exact g_iret C hr hlk e1 e2 dX12_all_105
      · have hf := if_t c9 hf
        refine g_iconst C dX12_all_30 ?_
        refine g_goto (tgt := 35) C dX12_all_31 (by decide) ?_
        refine gp_X12_allOpen (i := 2) C (by decide) hiX12_all_X12 rfl dX12_all_35 ?_
        refine g_iload_n (i := 1) C dX12_all_38 rfl rfl ?_
        refine g_iconst C dX12_all_39 ?_
        refine g_icmp_ne (b' := 2) (tgt := 47) C dX12_all_40 (by decide) rfl (by decide) (fun c39 => ?_) (fun c39 => ?_)
        · have hf := if_f c39 hf
          refine g_aload_n (i := 0) C dX12_all_47 rfl rfl ?_
          obtain ⟨r41, σ40, h42, hf⟩ := ob_inv hf
          refine g_callVi C (c_X12_sure  h42) (cwV 0 C.2.2.2.2.1 gX12_all_X12_sure rfl rfl rfl (by decide +kernel) ⟨Nat.le_of_ble_eq_true rfl, Nat.le_of_ble_eq_true rfl⟩) ob_X12 rfl rfl rfl rfl (Nat.le_of_ble_eq_true rfl) dX12_all_48 ⟨Nat.zero_le _, Nat.zero_le _⟩ ?_
          refine g_istore_n (i := 2) C dX12_all_51 rfl (by decide) rfl ?_
          refine g_aload_n (i := 0) C dX12_all_52 rfl rfl ?_
          refine g_iconst C dX12_all_53 ?_
          refine gp_X12_allOpen (i := 2) C (by decide) hiX12_all_X12 rfl dX12_all_54 ?_
          refine g_iconst C dX12_all_57 ?_
          refine g_istore_n (i := 3) C dX12_all_58 rfl (by decide) rfl ?_
          obtain ⟨q44, hl45, hf⟩ := lb_inv hf
          refine g_mask [true, true, true, true] (w_X12_all_59 C hr hlk hl45 ?_)
          · rintro y46 σ47 rfl
            refine g_iload_n (i := 2) C dX12_all_104 rfl rfl ?_
            obtain ⟨e1, e2⟩ := some_inv hf
            exact g_iret C hr hlk e1 e2 dX12_all_105
        · have hf := if_t c39 hf
          refine g_iconst C dX12_all_43 ?_
          refine g_goto (tgt := 51) C dX12_all_44 (by decide) ?_
          refine g_istore_n (i := 2) C dX12_all_51 rfl (by decide) rfl ?_
          refine g_aload_n (i := 0) C dX12_all_52 rfl rfl ?_
          refine g_iconst C dX12_all_53 ?_
          refine gp_X12_allOpen (i := 2) C (by decide) hiX12_all_X12 rfl dX12_all_54 ?_
          refine g_iconst C dX12_all_57 ?_
          refine g_istore_n (i := 3) C dX12_all_58 rfl (by decide) rfl ?_
          obtain ⟨q49, hl50, hf⟩ := lb_inv hf
          refine g_mask [true, true, true, true] (w_X12_all_59 C hr hlk hl50 ?_)
          · rintro y51 σ52 rfl
            refine g_iload_n (i := 2) C dX12_all_104 rfl rfl ?_
            obtain ⟨e1, e2⟩ := some_inv hf
            exact g_iret C hr hlk e1 e2 dX12_all_105
    · have hf := if_t c8 hf
      refine g_iconst C dX12_all_22 ?_
      obtain ⟨e1, e2⟩ := some_inv hf
      exact g_iret C hr hlk e1 e2 dX12_all_23
  · have hf := if_t c4 hf
    refine g_bipush C dX12_all_7 (by decide) ?_
    obtain ⟨e1, e2⟩ := some_inv hf
    exact g_iret C hr hlk e1 e2 dX12_all_9
/-! X12_falls -/
abbrev rm_X12_falls : Room := { frames := 5, cells := 0, slots := 0, locals := 120 }
set_option maxHeartbeats 4000000 in
set_option maxRecDepth 100000 in
theorem c_X12_falls {v1 : Int} {σ : Mem} (hf : f_X12_falls v1 σ = some (r0, σ0)) : CTi l D ca ad A yX12_falls wsX12_falls rm_X12_falls [.ref (ad 120), .int (iI v1)] σ r0 σ0 := by
  refine ct_i (cc := cX12_falls) (own := RX12) (maxL := 2) (ret := (some .int)) (lv0 := [some (.ref (ad 120)), some (.int (iI v1))]) (by decide) rfl rfl rfl (Nat.le_of_ble_eq_true rfl) ?_
  intro p e s m below meth c C hr hlk hnm
  unfold f_X12_falls at hf
  refine g_aload_n (i := 0) C dX12_falls_0 rfl rfl ?_
  obtain ⟨r2, σ1, h3, hf⟩ := ob_inv hf
  refine g_callVi C (c_X12_isOpen  h3) (cwV 0 C.2.2.2.2.1 gX12_falls_X12_isOpen rfl rfl rfl (by decide +kernel) ⟨Nat.le_of_ble_eq_true rfl, Nat.le_of_ble_eq_true rfl⟩) ob_X12 rfl rfl rfl rfl (Nat.le_of_ble_eq_true rfl) dX12_falls_1 ⟨Nat.zero_le _, Nat.zero_le _⟩ ?_
  refine g_if_ne (tgt := 12) C dX12_falls_4 (by decide) rfl (fun c4 => ?_) (fun c4 => ?_)
  · have hf := if_f c4 hf
    refine g_aload_n (i := 0) C dX12_falls_12 rfl rfl ?_
    refine g_iload_n (i := 1) C dX12_falls_13 rfl rfl ?_
    obtain ⟨r6, σ5, h7, hf⟩ := ob_inv hf
    refine g_callVi C (c_X12_isFit  h7) (cwV 1 C.2.2.2.2.1 gX12_falls_X12_isFit rfl rfl rfl (by decide +kernel) ⟨Nat.le_of_ble_eq_true rfl, Nat.le_of_ble_eq_true rfl⟩) ob_X12 rfl rfl rfl rfl (Nat.le_of_ble_eq_true rfl) dX12_falls_14 ⟨Nat.zero_le _, Nat.zero_le _⟩ ?_
    refine g_if_ne (tgt := 24) C dX12_falls_17 (by decide) rfl (fun c8 => ?_) (fun c8 => ?_)
    · have hf := if_f c8 hf
      refine g_aload_n (i := 0) C dX12_falls_24 rfl rfl ?_
      refine g_iload_n (i := 1) C dX12_falls_25 rfl rfl ?_
      obtain ⟨r10, σ9, h11, hf⟩ := ob_inv hf
      refine g_callVi C (c_X12_isSure  h11) (cwV 1 C.2.2.2.2.1 gX12_falls_X12_isSure rfl rfl rfl (by decide +kernel) ⟨Nat.le_of_ble_eq_true rfl, Nat.le_of_ble_eq_true rfl⟩) ob_X12 rfl rfl rfl rfl (Nat.le_of_ble_eq_true rfl) dX12_falls_26 ⟨Nat.zero_le _, Nat.zero_le _⟩ ?_
      refine g_if_eq (tgt := 40) C dX12_falls_29 (by decide) rfl (fun c12 => ?_) (fun c12 => ?_)
      · have hf := if_t c12 hf
        refine g_bipush C dX12_falls_40 (by decide) ?_
        obtain ⟨e1, e2⟩ := some_inv hf
        exact g_iret C hr hlk e1 e2 dX12_falls_42
      · have hf := if_f c12 hf
        refine g_aload_n (i := 0) C dX12_falls_32 rfl rfl ?_
        refine g_iload_n (i := 1) C dX12_falls_33 rfl rfl ?_
        obtain ⟨r14, σ13, h15, hf⟩ := ob_inv hf
        refine g_callVi C (c_X12_fallsBy  h15) (cwV 1 C.2.2.2.2.1 gX12_falls_X12_fallsBy rfl rfl rfl (by decide +kernel) ⟨Nat.le_of_ble_eq_true rfl, Nat.le_of_ble_eq_true rfl⟩) ob_X12 rfl rfl rfl rfl (Nat.le_of_ble_eq_true rfl) dX12_falls_34 ⟨Nat.zero_le _, Nat.zero_le _⟩ ?_
        refine g_goto (tgt := 42) C dX12_falls_37 (by decide) ?_
        obtain ⟨e1, e2⟩ := some_inv hf
        exact g_iret C hr hlk e1 e2 dX12_falls_42
    · have hf := if_t c8 hf
      refine g_iconst C dX12_falls_20 ?_
      refine g_goto (tgt := 42) C dX12_falls_21 (by decide) ?_
      obtain ⟨e1, e2⟩ := some_inv hf
      exact g_iret C hr hlk e1 e2 dX12_falls_42
  · have hf := if_t c4 hf
    refine g_bipush C dX12_falls_7 (by decide) ?_
    refine g_goto (tgt := 42) C dX12_falls_9 (by decide) ?_
    obtain ⟨e1, e2⟩ := some_inv hf
    exact g_iret C hr hlk e1 e2 dX12_falls_42
/-! X12_barred -/
abbrev rm_X12_barred : Room := { frames := 5, cells := 0, slots := 0, locals := 119 }
set_option maxHeartbeats 4000000 in
set_option maxRecDepth 100000 in
theorem c_X12_barred {v1 v2 v3 : Int} {σ : Mem} (hf : f_X12_barred v1 v2 v3 σ = some (r0, σ0)) : CTi l D ca ad A yX12_barred wsX12_barred rm_X12_barred [.ref (ad 120), .int (iI v1), .int (iI v2), .int (iI v3)] σ r0 σ0 := by
  refine ct_i (cc := cX12_barred) (own := RX12) (maxL := 4) (ret := (some .int)) (lv0 := [some (.ref (ad 120)), some (.int (iI v1)), some (.int (iI v2)), some (.int (iI v3))]) (by decide) rfl rfl rfl (Nat.le_of_ble_eq_true rfl) ?_
  intro p e s m below meth c C hr hlk hnm
  unfold f_X12_barred at hf
  refine g_aload_n (i := 0) C dX12_barred_0 rfl rfl ?_
  obtain ⟨r2, σ1, h3, hf⟩ := ob_inv hf
  refine g_callVi C (c_X12_isOpen  h3) (cwV 0 C.2.2.2.2.1 gX12_barred_X12_isOpen rfl rfl rfl (by decide +kernel) ⟨Nat.le_of_ble_eq_true rfl, Nat.le_of_ble_eq_true rfl⟩) ob_X12 rfl rfl rfl rfl (Nat.le_of_ble_eq_true rfl) dX12_barred_1 ⟨Nat.zero_le _, Nat.zero_le _⟩ ?_
  refine g_if_ne (tgt := 10) C dX12_barred_4 (by decide) rfl (fun c4 => ?_) (fun c4 => ?_)
  · have hf := if_f c4 hf
    refine g_aload_n (i := 0) C dX12_barred_10 rfl rfl ?_
    refine g_iload_n (i := 1) C dX12_barred_11 rfl rfl ?_
    obtain ⟨r6, σ5, h7, hf⟩ := ob_inv hf
    refine g_callVi C (c_X12_isFit  h7) (cwV 1 C.2.2.2.2.1 gX12_barred_X12_isFit rfl rfl rfl (by decide +kernel) ⟨Nat.le_of_ble_eq_true rfl, Nat.le_of_ble_eq_true rfl⟩) ob_X12 rfl rfl rfl rfl (Nat.le_of_ble_eq_true rfl) dX12_barred_12 ⟨Nat.zero_le _, Nat.zero_le _⟩ ?_
    refine g_if_eq (tgt := 34) C dX12_barred_15 (by decide) rfl (fun c8 => ?_) (fun c8 => ?_)
    · have hf := if_t c8 hf
      refine g_iconst C dX12_barred_34 ?_
      obtain ⟨e1, e2⟩ := some_inv hf
      exact g_iret C hr hlk e1 e2 dX12_barred_35
    · have hf := if_f c8 hf
      refine g_aload_n (i := 0) C dX12_barred_18 rfl rfl ?_
      refine g_iload_n (i := 2) C dX12_barred_19 rfl rfl ?_
      obtain ⟨r10, σ9, h11, hf⟩ := ob_inv hf
      refine g_callVi C (c_X12_isMark  h11) (cwV 1 C.2.2.2.2.1 gX12_barred_X12_isMark rfl rfl rfl (by decide +kernel) ⟨Nat.le_of_ble_eq_true rfl, Nat.le_of_ble_eq_true rfl⟩) ob_X12 rfl rfl rfl rfl (Nat.le_of_ble_eq_true rfl) dX12_barred_20 ⟨Nat.zero_le _, Nat.zero_le _⟩ ?_
      refine g_if_eq (tgt := 34) C dX12_barred_23 (by decide) rfl (fun c12 => ?_) (fun c12 => ?_)
      · have hf := if_t c12 hf
        refine g_iconst C dX12_barred_34 ?_
        obtain ⟨e1, e2⟩ := some_inv hf
        exact g_iret C hr hlk e1 e2 dX12_barred_35
      · have hf := if_f c12 hf
        refine g_aload_n (i := 0) C dX12_barred_26 rfl rfl ?_
        refine g_iload_n (i := 3) C dX12_barred_27 rfl rfl ?_
        obtain ⟨r14, σ13, h15, hf⟩ := ob_inv hf
        refine g_callVi C (c_X12_isSort  h15) (cwV 1 C.2.2.2.2.1 gX12_barred_X12_isSort rfl rfl rfl (by decide +kernel) ⟨Nat.le_of_ble_eq_true rfl, Nat.le_of_ble_eq_true rfl⟩) ob_X12 rfl rfl rfl rfl (Nat.le_of_ble_eq_true rfl) dX12_barred_28 ⟨Nat.zero_le _, Nat.zero_le _⟩ ?_
        refine g_if_ne (tgt := 36) C dX12_barred_31 (by decide) rfl (fun c16 => ?_) (fun c16 => ?_)
        · have hf := if_f c16 hf
          refine g_aload_n (i := 0) C dX12_barred_36 rfl rfl ?_
          refine g_iload_n (i := 1) C dX12_barred_37 rfl rfl ?_
          obtain ⟨r18, σ17, h19, hf⟩ := ob_inv hf
          refine g_callVi C (c_X12_isSure  h19) (cwV 1 C.2.2.2.2.1 gX12_barred_X12_isSure rfl rfl rfl (by decide +kernel) ⟨Nat.le_of_ble_eq_true rfl, Nat.le_of_ble_eq_true rfl⟩) ob_X12 rfl rfl rfl rfl (Nat.le_of_ble_eq_true rfl) dX12_barred_38 ⟨Nat.zero_le _, Nat.zero_le _⟩ ?_
          refine g_if_eq (tgt := 53) C dX12_barred_41 (by decide) rfl (fun c20 => ?_) (fun c20 => ?_)
          · have hf := if_t c20 hf
            refine g_bipush C dX12_barred_53 (by decide) ?_
            refine g_goto (tgt := 73) C dX12_barred_55 (by decide) ?_
            obtain ⟨e1, e2⟩ := some_inv hf
            exact g_iret C hr hlk e1 e2 dX12_barred_73
          · have hf := if_f c20 hf
            refine g_aload_n (i := 0) C dX12_barred_44 rfl rfl ?_
            refine g_iload_n (i := 1) C dX12_barred_45 rfl rfl ?_
            refine g_iload_n (i := 2) C dX12_barred_46 rfl rfl ?_
            obtain ⟨r22, σ21, h23, hf⟩ := ob_inv hf
            refine g_callVi C (c_X12_isMade  h23) (cwV 2 C.2.2.2.2.1 gX12_barred_X12_isMade rfl rfl rfl (by decide +kernel) ⟨Nat.le_of_ble_eq_true rfl, Nat.le_of_ble_eq_true rfl⟩) ob_X12 rfl rfl rfl rfl (Nat.le_of_ble_eq_true rfl) dX12_barred_47 ⟨Nat.zero_le _, Nat.zero_le _⟩ ?_
            refine g_if_eq (tgt := 58) C dX12_barred_50 (by decide) rfl (fun c24 => ?_) (fun c24 => ?_)
            · have hf := if_t c24 hf
              refine g_aload_n (i := 0) C dX12_barred_58 rfl rfl ?_
              refine g_iload_n (i := 1) C dX12_barred_59 rfl rfl ?_
              refine g_iload_n (i := 2) C dX12_barred_60 rfl rfl ?_
              refine g_iload_n (i := 3) C dX12_barred_61 rfl rfl ?_
              obtain ⟨r26, σ25, h27, hf⟩ := ob_inv hf
              refine g_callVi C (c_X12_isBarred  h27) (cwV 3 C.2.2.2.2.1 gX12_barred_X12_isBarred rfl rfl rfl (by decide +kernel) ⟨Nat.le_of_ble_eq_true rfl, Nat.le_of_ble_eq_true rfl⟩) ob_X12 rfl rfl rfl rfl (Nat.le_of_ble_eq_true rfl) dX12_barred_62 ⟨Nat.zero_le _, Nat.zero_le _⟩ ?_
              refine g_if_eq (tgt := 72) C dX12_barred_65 (by decide) rfl (fun c28 => ?_) (fun c28 => ?_)
              · have hf := if_t c28 hf
                refine g_iconst C dX12_barred_72 ?_
                obtain ⟨e1, e2⟩ := some_inv hf
                exact g_iret C hr hlk e1 e2 dX12_barred_73
              · have hf := if_f c28 hf
                refine g_iconst C dX12_barred_68 ?_
                refine g_goto (tgt := 73) C dX12_barred_69 (by decide) ?_
                obtain ⟨e1, e2⟩ := some_inv hf
                exact g_iret C hr hlk e1 e2 dX12_barred_73
            · have hf := if_f c24 hf
              refine g_bipush C dX12_barred_53 (by decide) ?_
              refine g_goto (tgt := 73) C dX12_barred_55 (by decide) ?_
              obtain ⟨e1, e2⟩ := some_inv hf
              exact g_iret C hr hlk e1 e2 dX12_barred_73
        · have hf := if_t c16 hf
          refine g_iconst C dX12_barred_34 ?_
          obtain ⟨e1, e2⟩ := some_inv hf
          exact g_iret C hr hlk e1 e2 dX12_barred_35
  · have hf := if_t c4 hf
    refine g_bipush C dX12_barred_7 (by decide) ?_
    obtain ⟨e1, e2⟩ := some_inv hf
    exact g_iret C hr hlk e1 e2 dX12_barred_9
/-! X12_findLots -/
abbrev rm_X12_findLots : Room := { frames := 2, cells := 0, slots := 0, locals := 47 }
theorem hiX12_findLots_X12 : ∀ w ∈ u_ws RX12 TX12 24, w ∈ wsX12_findLots := fun _ h => (List.mem_cons_of_mem _ (List.mem_append_right _ h))
set_option maxHeartbeats 4000000 in
set_option maxRecDepth 100000 in
theorem it_X12_findLots_99 (C : Cx p s m args c cX12_findLots 7 RX12 wsX12_findLots D ca A) (hr : meth.sig.returnType = (some .boolean)) (hlk : meth.locks = false) {p1 p2 p4 p5 : Int} {o : (Int × Mem) ⊕ (Mem)} (hc : ∀ (x6 : Int) (σ : Mem), o = .inl (x6, σ) → G p l e rm_X12_findLots s m args below meth c 7 D ca ad A 0 0 (MQ below (Qi D ca ad A r0 σ0) args s 0 0 A) σ 99 [some (.ref (ad 120)), some (.int (iI p1)), some (.int (iI p2)), none, some (.int (iI p4)), some (.int (iI p5)), some (.int (iI x6))] []) (he : ∀ (σ : Mem), o = .inr σ → G p l e rm_X12_findLots s m args below meth c 7 D ca ad A 0 0 (MQ below (Qi D ca ad A r0 σ0) args s 0 0 A) σ 171 [some (.ref (ad 120)), none, some (.int (iI p2)), none, none, some (.int (iI p5)), none] []) {x6 : Int} {σ : Mem} (hf : f_X12_findLots_99 p1 p2 p4 p5 x6 σ = some o) : G p l e rm_X12_findLots s m args below meth c 7 D ca ad A 0 0 (MQ below (Qi D ca ad A r0 σ0) args s 0 0 A) σ 99 [some (.ref (ad 120)), some (.int (iI p1)), some (.int (iI p2)), none, some (.int (iI p4)), some (.int (iI p5)), some (.int (iI x6))] [] := by
  unfold f_X12_findLots_99 at hf
  refine g_iload C dX12_findLots_99 rfl ?_
  refine g_aload_n (i := 0) C dX12_findLots_101 rfl rfl ?_
  refine gg_X12_s (i := 1) C hiX12_findLots_X12 rfl dX12_findLots_102 ?_
  refine g_iconst C dX12_findLots_105 ?_
  refine g_iaload (N := 39) (j := 0) C (by decide) dX12_findLots_106 (by decide) (by decide) ?_
  refine g_icmp_ge (tgt := 171) C dX12_findLots_107 (by decide) rfl rfl (fun c17 => ?_) (fun c17 => ?_)
  · have hf := if_t c17 hf
    exact g_mask [true, false, true, false, false, true, false] (he _ (Option.some.inj hf).symm)
  · have hf := if_f c17 hf
    refine g_aload_n (i := 0) C dX12_findLots_110 rfl rfl ?_
    refine g_dup C dX12_findLots_111 rfl ?_
    refine gg_X12_above (i := 2) C hiX12_findLots_X12 rfl dX12_findLots_112 ?_
    refine g_iload C dX12_findLots_115 rfl ?_
    refine g_iload_n (i := 2) C dX12_findLots_117 rfl rfl ?_
    refine g_icmp_eq (tgt := 160) C dX12_findLots_118 (by decide) rfl rfl (fun c18 => ?_) (fun c18 => ?_)
    · have hf := if_t c18 hf
      refine g_lconst (z := 0) C dX12_findLots_160 (by decide) ?_
      refine g_ladd C dX12_findLots_161 ?_
      refine gp_X12_above (i := 2) C hiX12_findLots_X12 rfl dX12_findLots_162 ?_
      refine g_iinc C dX12_findLots_165 rfl (by decide) rfl ?_
      refine g_goto (tgt := 99) C dX12_findLots_168 (by decide) ?_
      exact g_mask [true, true, true, false, true, true, true] (hc _ _ (Option.some.inj hf).symm)
    · have hf := if_f c18 hf
      refine g_iload_n (i := 1) C dX12_findLots_121 rfl rfl ?_
      refine g_iload C dX12_findLots_122 rfl ?_
      obtain ⟨r21, σ20, h22, hf⟩ := ob_inv hf
      refine g_callSi C (c_X12_made  h22) (va_cwS 2 C.2.2.2.2.1 gX12_findLots_X12_made rfl rfl rfl (by decide +kernel) ⟨Nat.le_of_ble_eq_true rfl, Nat.le_of_ble_eq_true rfl⟩) rfl rfl (Nat.le_of_ble_eq_true rfl) dX12_findLots_124 ⟨Nat.zero_le _, Nat.zero_le _⟩ ?_
      refine g_iload C dX12_findLots_127 rfl ?_
      refine g_icmp_ne (tgt := 160) C dX12_findLots_129 (by decide) rfl rfl (fun c23 => ?_) (fun c23 => ?_)
      · have hf := if_f c23 hf
        refine g_lconst (z := 0) C dX12_findLots_160 (by decide) ?_
        refine g_ladd C dX12_findLots_161 ?_
        refine gp_X12_above (i := 2) C hiX12_findLots_X12 rfl dX12_findLots_162 ?_
        refine g_iinc C dX12_findLots_165 rfl (by decide) rfl ?_
        refine g_goto (tgt := 99) C dX12_findLots_168 (by decide) ?_
        exact g_mask [true, true, true, false, true, true, true] (hc _ _ (Option.some.inj hf).symm)
      · have hf := if_t c23 hf
        refine g_aload_n (i := 0) C dX12_findLots_132 rfl rfl ?_
        refine gg_X12_s (i := 1) C hiX12_findLots_X12 rfl dX12_findLots_133 ?_
        refine g_iconst C dX12_findLots_136 ?_
        refine g_iload C dX12_findLots_137 rfl ?_
        refine g_iadd C dX12_findLots_139 ?_
        obtain ⟨hb25, hf⟩ := if_inv hf
        refine g_iaload (N := 39) C (by decide) dX12_findLots_140 rfl hb25 ?_
        refine g_i2l C dX12_findLots_141 rfl ?_
        refine g_aload_n (i := 0) C dX12_findLots_142 rfl rfl ?_
        refine gg_X12_s (i := 1) C hiX12_findLots_X12 rfl dX12_findLots_143 ?_
        refine g_bipush C dX12_findLots_146 (by decide) ?_
        refine g_iload C dX12_findLots_148 rfl ?_
        refine g_iadd C dX12_findLots_150 ?_
        obtain ⟨hb26, hf⟩ := if_inv hf
        refine g_iaload (N := 39) C (by decide) dX12_findLots_151 rfl hb26 ?_
        refine g_iload C dX12_findLots_152 rfl ?_
        refine g_isub C dX12_findLots_154 ?_
        refine g_i2l C dX12_findLots_155 rfl ?_
        refine g_lmul C dX12_findLots_156 ?_
        refine g_goto (tgt := 161) C dX12_findLots_157 (by decide) ?_
        refine g_ladd C dX12_findLots_161 ?_
        refine gp_X12_above (i := 2) C hiX12_findLots_X12 rfl dX12_findLots_162 ?_
        refine g_iinc C dX12_findLots_165 rfl (by decide) rfl ?_
        refine g_goto (tgt := 99) C dX12_findLots_168 (by decide) ?_
        exact g_mask [true, true, true, false, true, true, true] (hc _ _ (Option.some.inj hf).symm)
set_option maxHeartbeats 4000000 in
set_option maxRecDepth 100000 in
theorem w_X12_findLots_99 (C : Cx p s m args c cX12_findLots 7 RX12 wsX12_findLots D ca A) (hr : meth.sig.returnType = (some .boolean)) (hlk : meth.locks = false) {p1 p2 p4 p5 : Int} {n : Nat} {x6 : Int} {σ : Mem} {b : (Mem)} (h : itr (fun z : Int × Mem => f_X12_findLots_99 p1 p2 p4 p5 z.1 z.2) n (x6, σ) = some b) (he : ∀ (σ : Mem), b = σ → G p l e rm_X12_findLots s m args below meth c 7 D ca ad A 0 0 (MQ below (Qi D ca ad A r0 σ0) args s 0 0 A) σ 171 [some (.ref (ad 120)), none, some (.int (iI p2)), none, none, some (.int (iI p5)), none] []) : G p l e rm_X12_findLots s m args below meth c 7 D ca ad A 0 0 (MQ below (Qi D ca ad A r0 σ0) args s 0 0 A) σ 99 [some (.ref (ad 120)), some (.int (iI p1)), some (.int (iI p2)), none, some (.int (iI p4)), some (.int (iI p5)), some (.int (iI x6))] [] :=
  itr_rule (P := fun z : Int × Mem => G p l e rm_X12_findLots s m args below meth c 7 D ca ad A 0 0 (MQ below (Qi D ca ad A r0 σ0) args s 0 0 A) z.2 99 [some (.ref (ad 120)), some (.int (iI p1)), some (.int (iI p2)), none, some (.int (iI p4)), some (.int (iI p5)), some (.int (iI z.1))] []) (E := fun b => ∀ (σ : Mem), b = σ → G p l e rm_X12_findLots s m args below meth c 7 D ca ad A 0 0 (MQ below (Qi D ca ad A r0 σ0) args s 0 0 A) σ 171 [some (.ref (ad 120)), none, some (.int (iI p2)), none, none, some (.int (iI p5)), none] []) (fun z o hb hc he => it_X12_findLots_99 C hr hlk (fun _ _ e => hc _ e) (fun _ e => (he _ e) _ rfl) hb) n _ _ h he
set_option maxHeartbeats 4000000 in
set_option maxRecDepth 100000 in
theorem c_X12_findLots {v1 v2 v3 : Int} {σ : Mem} (hf : f_X12_findLots v1 v2 v3 σ = some (r0, σ0)) : CTi l D ca ad A yX12_findLots wsX12_findLots rm_X12_findLots [.ref (ad 120), .int (iI v1), .int (iI v2), .int (iI v3)] σ r0 σ0 := by
  refine ct_i (cc := cX12_findLots) (own := RX12) (maxL := 7) (ret := (some .boolean)) (lv0 := [some (.ref (ad 120)), some (.int (iI v1)), some (.int (iI v2)), some (.int (iI v3)), none, none, none]) (by decide) rfl rfl rfl (Nat.le_of_ble_eq_true rfl) ?_
  intro p e s m below meth c C hr hlk hnm
  unfold f_X12_findLots at hf
  refine g_iload_n (i := 1) C dX12_findLots_0 rfl rfl ?_
  refine g_iload_n (i := 2) C dX12_findLots_1 rfl rfl ?_
  obtain ⟨r2, σ1, h3, hf⟩ := ob_inv hf
  refine g_callSi C (c_X12_made  h3) (va_cwS 2 C.2.2.2.2.1 gX12_findLots_X12_made rfl rfl rfl (by decide +kernel) ⟨Nat.le_of_ble_eq_true rfl, Nat.le_of_ble_eq_true rfl⟩) rfl rfl (Nat.le_of_ble_eq_true rfl) dX12_findLots_2 ⟨Nat.zero_le _, Nat.zero_le _⟩ ?_
  refine g_istore C dX12_findLots_5 (by decide) rfl ?_
  refine g_iload C dX12_findLots_7 rfl ?_
  refine g_iconst C dX12_findLots_9 ?_
  refine g_icmp_eq (b' := 4) (tgt := 28) C dX12_findLots_10 (by decide) rfl (by decide) (fun c4 => ?_) (fun c4 => ?_)
  · have hf := if_t c4 hf
    refine g_iconst C dX12_findLots_28 ?_
    obtain ⟨e1, e2⟩ := some_inv hf
    exact g_zret C hr hlk (by decide) e1 e2 dX12_findLots_29
  · have hf := if_f c4 hf
    refine g_iload C dX12_findLots_13 rfl ?_
    refine g_iload_n (i := 3) C dX12_findLots_15 rfl rfl ?_
    refine g_icmp_eq (tgt := 28) C dX12_findLots_16 (by decide) rfl rfl (fun c5 => ?_) (fun c5 => ?_)
    · have hf := if_t c5 hf
      refine g_iconst C dX12_findLots_28 ?_
      obtain ⟨e1, e2⟩ := some_inv hf
      exact g_zret C hr hlk (by decide) e1 e2 dX12_findLots_29
    · have hf := if_f c5 hf
      refine g_aload_n (i := 0) C dX12_findLots_19 rfl rfl ?_
      refine g_iload_n (i := 1) C dX12_findLots_20 rfl rfl ?_
      refine g_iload_n (i := 3) C dX12_findLots_21 rfl rfl ?_
      obtain ⟨r7, σ6, h8, hf⟩ := ob_inv hf
      refine g_callVi C (c_X12_isMade  h8) (cwV 2 C.2.2.2.2.1 gX12_findLots_X12_isMade rfl rfl rfl (by decide +kernel) ⟨Nat.le_of_ble_eq_true rfl, Nat.le_of_ble_eq_true rfl⟩) ob_X12 rfl rfl rfl rfl (Nat.le_of_ble_eq_true rfl) dX12_findLots_22 ⟨Nat.zero_le _, Nat.zero_le _⟩ ?_
      refine g_if_eq (tgt := 30) C dX12_findLots_25 (by decide) rfl (fun c9 => ?_) (fun c9 => ?_)
      · have hf := if_t c9 hf
        refine g_aload_n (i := 0) C dX12_findLots_30 rfl rfl ?_
        refine gg_X12_s (i := 1) C hiX12_findLots_X12 rfl dX12_findLots_31 ?_
        refine g_bipush C dX12_findLots_34 (by decide) ?_
        refine g_iload_n (i := 2) C dX12_findLots_36 rfl rfl ?_
        refine g_iadd C dX12_findLots_37 ?_
        obtain ⟨hb10, hf⟩ := if_inv hf
        refine g_iaload (N := 39) C (by decide) dX12_findLots_38 rfl hb10 ?_
        refine g_aload_n (i := 0) C dX12_findLots_39 rfl rfl ?_
        refine gg_X12_s (i := 1) C hiX12_findLots_X12 rfl dX12_findLots_40 ?_
        refine g_bipush C dX12_findLots_43 (by decide) ?_
        refine g_iload_n (i := 3) C dX12_findLots_45 rfl rfl ?_
        refine g_iadd C dX12_findLots_46 ?_
        obtain ⟨hb11, hf⟩ := if_inv hf
        refine g_iaload (N := 39) C (by decide) dX12_findLots_47 rfl hb11 ?_
        refine g_iadd C dX12_findLots_48 ?_
        refine g_aload_n (i := 0) C dX12_findLots_49 rfl rfl ?_
        refine gg_X12_s (i := 1) C hiX12_findLots_X12 rfl dX12_findLots_50 ?_
        refine g_bipush C dX12_findLots_53 (by decide) ?_
        refine g_iconst C dX12_findLots_55 ?_
        refine g_iload_n (i := 3) C dX12_findLots_56 rfl rfl ?_
        refine g_imul C dX12_findLots_57 ?_
        refine g_iadd C dX12_findLots_58 ?_
        refine g_iload_n (i := 2) C dX12_findLots_59 rfl rfl ?_
        refine g_iadd C dX12_findLots_60 ?_
        obtain ⟨hb12, hf⟩ := if_inv hf
        refine g_iaload (N := 39) C (by decide) dX12_findLots_61 rfl hb12 ?_
        refine g_isub C dX12_findLots_62 ?_
        refine g_aload_n (i := 0) C dX12_findLots_63 rfl rfl ?_
        refine gg_X12_s (i := 1) C hiX12_findLots_X12 rfl dX12_findLots_64 ?_
        refine g_bipush C dX12_findLots_67 (by decide) ?_
        refine g_iconst C dX12_findLots_69 ?_
        refine g_iload C dX12_findLots_70 rfl ?_
        refine g_imul C dX12_findLots_72 ?_
        refine g_iadd C dX12_findLots_73 ?_
        refine g_iload_n (i := 2) C dX12_findLots_74 rfl rfl ?_
        refine g_iadd C dX12_findLots_75 ?_
        obtain ⟨hb13, hf⟩ := if_inv hf
        refine g_iaload (N := 39) C (by decide) dX12_findLots_76 rfl hb13 ?_
        refine g_iadd C dX12_findLots_77 ?_
        refine g_aload_n (i := 0) C dX12_findLots_78 rfl rfl ?_
        refine gg_X12_s (i := 1) C hiX12_findLots_X12 rfl dX12_findLots_79 ?_
        refine g_bipush C dX12_findLots_82 (by decide) ?_
        refine g_iload C dX12_findLots_84 rfl ?_
        refine g_iadd C dX12_findLots_86 ?_
        obtain ⟨hb14, hf⟩ := if_inv hf
        refine g_iaload (N := 39) C (by decide) dX12_findLots_87 rfl hb14 ?_
        refine g_isub C dX12_findLots_88 ?_
        refine g_istore C dX12_findLots_89 (by decide) rfl ?_
        refine g_aload_n (i := 0) C dX12_findLots_91 rfl rfl ?_
        refine g_lconst (z := 0) C dX12_findLots_92 (by decide) ?_
        refine gp_X12_above (i := 2) C hiX12_findLots_X12 rfl dX12_findLots_93 ?_
        refine g_iconst C dX12_findLots_96 ?_
        refine g_istore C dX12_findLots_97 (by decide) rfl ?_
        obtain ⟨q28, hl29, hf⟩ := lb_inv hf
        refine g_mask [true, true, true, false, true, true, true] (w_X12_findLots_99 C hr hlk hl29 ?_)
        · rintro σ30 rfl
          refine g_aload_n (i := 0) C dX12_findLots_171 rfl rfl ?_
          refine g_aload_n (i := 0) C dX12_findLots_172 rfl rfl ?_
          refine gg_X12_s (i := 1) C hiX12_findLots_X12 rfl dX12_findLots_173 ?_
          refine g_iconst C dX12_findLots_176 ?_
          refine g_iload_n (i := 2) C dX12_findLots_177 rfl rfl ?_
          refine g_iadd C dX12_findLots_178 ?_
          obtain ⟨hb31, hf⟩ := if_inv hf
          refine g_iaload (N := 39) C (by decide) dX12_findLots_179 rfl hb31 ?_
          refine g_i2l C dX12_findLots_180 rfl ?_
          refine g_iload C dX12_findLots_181 rfl ?_
          refine g_aload_n (i := 0) C dX12_findLots_183 rfl rfl ?_
          refine gg_X12_s (i := 1) C hiX12_findLots_X12 rfl dX12_findLots_184 ?_
          refine g_bipush C dX12_findLots_187 (by decide) ?_
          refine g_iload_n (i := 2) C dX12_findLots_189 rfl rfl ?_
          refine g_iadd C dX12_findLots_190 ?_
          obtain ⟨hb32, hf⟩ := if_inv hf
          refine g_iaload (N := 39) C (by decide) dX12_findLots_191 rfl hb32 ?_
          refine g_isub C dX12_findLots_192 ?_
          refine g_i2l C dX12_findLots_193 rfl ?_
          refine g_lmul C dX12_findLots_194 ?_
          refine gp_X12_below (i := 3) C hiX12_findLots_X12 rfl dX12_findLots_195 ?_
          refine g_aload_n (i := 0) C dX12_findLots_198 rfl rfl ?_
          refine gg_X12_below (i := 3) C hiX12_findLots_X12 rfl dX12_findLots_199 ?_
          refine g_lconst (z := 0) C dX12_findLots_202 (by decide) ?_
          refine g_lcmp_ge (b' := 0) (tgt := 225) C dX12_findLots_203 dX12_findLots_204 (by decide) rfl (by decide) (fun c34 => ?_) (fun c34 => ?_)
          · have hf := if_t c34 hf
            refine g_aload_n (i := 0) C dX12_findLots_225 rfl rfl ?_
            refine gg_X12_above (i := 2) C hiX12_findLots_X12 rfl dX12_findLots_226 ?_
            refine g_lconst (z := 0) C dX12_findLots_229 (by decide) ?_
            refine g_lcmp_le (b' := 0) (tgt := 250) C dX12_findLots_230 dX12_findLots_231 (by decide) rfl (by decide) (fun c35 => ?_) (fun c35 => ?_)
            · have hf := if_t c35 hf
              refine g_iconst C dX12_findLots_250 ?_
              obtain ⟨e1, e2⟩ := some_inv hf
              exact g_zret C hr hlk (by decide) e1 e2 dX12_findLots_251
            · have hf := if_f c35 hf
              refine g_aload_n (i := 0) C dX12_findLots_234 rfl rfl ?_
              refine gg_X12_above (i := 2) C hiX12_findLots_X12 rfl dX12_findLots_235 ?_
              refine g_aload_n (i := 0) C dX12_findLots_238 rfl rfl ?_
              refine gg_X12_below (i := 3) C hiX12_findLots_X12 rfl dX12_findLots_239 ?_
              refine g_lcmp_ge (tgt := 250) C dX12_findLots_242 dX12_findLots_243 (by decide) rfl rfl (fun c36 => ?_) (fun c36 => ?_)
              · have hf := if_t c36 hf
                refine g_iconst C dX12_findLots_250 ?_
                obtain ⟨e1, e2⟩ := some_inv hf
                exact g_zret C hr hlk (by decide) e1 e2 dX12_findLots_251
              · have hf := if_f c36 hf
                refine g_iconst C dX12_findLots_246 ?_
                refine g_goto (tgt := 251) C dX12_findLots_247 (by decide) ?_
                obtain ⟨e1, e2⟩ := some_inv hf
                exact g_zret C hr hlk (by decide) e1 e2 dX12_findLots_251
          · have hf := if_f c34 hf
            refine g_aload_n (i := 0) C dX12_findLots_207 rfl rfl ?_
            refine g_aload_n (i := 0) C dX12_findLots_208 rfl rfl ?_
            refine gg_X12_above (i := 2) C hiX12_findLots_X12 rfl dX12_findLots_209 ?_
            refine g_lneg C dX12_findLots_212 ?_
            refine gp_X12_above (i := 2) C hiX12_findLots_X12 rfl dX12_findLots_213 ?_
            refine g_aload_n (i := 0) C dX12_findLots_216 rfl rfl ?_
            refine g_aload_n (i := 0) C dX12_findLots_217 rfl rfl ?_
            refine gg_X12_below (i := 3) C hiX12_findLots_X12 rfl dX12_findLots_218 ?_
            refine g_lneg C dX12_findLots_221 ?_
            refine gp_X12_below (i := 3) C hiX12_findLots_X12 rfl dX12_findLots_222 ?_
            refine g_aload_n (i := 0) C dX12_findLots_225 rfl rfl ?_
            refine gg_X12_above (i := 2) C hiX12_findLots_X12 rfl dX12_findLots_226 ?_
            refine g_lconst (z := 0) C dX12_findLots_229 (by decide) ?_
            refine g_lcmp_le (b' := 0) (tgt := 250) C dX12_findLots_230 dX12_findLots_231 (by decide) rfl (by decide) (fun c39 => ?_) (fun c39 => ?_)
            · have hf := if_t c39 hf
              refine g_iconst C dX12_findLots_250 ?_
              obtain ⟨e1, e2⟩ := some_inv hf
              exact g_zret C hr hlk (by decide) e1 e2 dX12_findLots_251
            · have hf := if_f c39 hf
              refine g_aload_n (i := 0) C dX12_findLots_234 rfl rfl ?_
              refine gg_X12_above (i := 2) C hiX12_findLots_X12 rfl dX12_findLots_235 ?_
              refine g_aload_n (i := 0) C dX12_findLots_238 rfl rfl ?_
              refine gg_X12_below (i := 3) C hiX12_findLots_X12 rfl dX12_findLots_239 ?_
              refine g_lcmp_ge (tgt := 250) C dX12_findLots_242 dX12_findLots_243 (by decide) rfl rfl (fun c40 => ?_) (fun c40 => ?_)
              · have hf := if_t c40 hf
                refine g_iconst C dX12_findLots_250 ?_
                obtain ⟨e1, e2⟩ := some_inv hf
                exact g_zret C hr hlk (by decide) e1 e2 dX12_findLots_251
              · have hf := if_f c40 hf
                refine g_iconst C dX12_findLots_246 ?_
                refine g_goto (tgt := 251) C dX12_findLots_247 (by decide) ?_
                obtain ⟨e1, e2⟩ := some_inv hf
                exact g_zret C hr hlk (by decide) e1 e2 dX12_findLots_251
      · have hf := if_f c9 hf
        refine g_iconst C dX12_findLots_28 ?_
        obtain ⟨e1, e2⟩ := some_inv hf
        exact g_zret C hr hlk (by decide) e1 e2 dX12_findLots_29
/-! X12_lots -/
abbrev rm_X12_lots : Room := { frames := 3, cells := 0, slots := 0, locals := 73 }
theorem hiX12_lots_X12 : ∀ w ∈ u_ws RX12 TX12 24, w ∈ wsX12_lots := fun _ h => (List.mem_cons_of_mem _ (List.mem_append_right _ h))
set_option maxHeartbeats 4000000 in
set_option maxRecDepth 100000 in
theorem c_X12_lots {v1 v2 v3 v4 : Int} {σ : Mem} (hf : f_X12_lots v1 v2 v3 v4 σ = some (r0, σ0)) : CTl l D ca ad A yX12_lots wsX12_lots rm_X12_lots [.ref (ad 120), .int (iI v1), .int (iI v2), .int (iI v3), .int (iI v4)] σ r0 σ0 := by
  refine ct_l (cc := cX12_lots) (own := RX12) (maxL := 5) (ret := (some .long)) (lv0 := [some (.ref (ad 120)), some (.int (iI v1)), some (.int (iI v2)), some (.int (iI v3)), some (.int (iI v4))]) (by decide) rfl rfl rfl (Nat.le_of_ble_eq_true rfl) ?_
  intro p e s m below meth c C hr hlk hnm
  unfold f_X12_lots at hf
  refine g_aload_n (i := 0) C dX12_lots_0 rfl rfl ?_
  obtain ⟨r2, σ1, h3, hf⟩ := ob_inv hf
  refine g_callVi C (c_X12_isOpen  h3) (cwV 0 C.2.2.2.2.1 gX12_lots_X12_isOpen rfl rfl rfl (by decide +kernel) ⟨Nat.le_of_ble_eq_true rfl, Nat.le_of_ble_eq_true rfl⟩) ob_X12 rfl rfl rfl rfl (Nat.le_of_ble_eq_true rfl) dX12_lots_1 ⟨Nat.zero_le _, Nat.zero_le _⟩ ?_
  refine g_if_eq (tgt := 52) C dX12_lots_4 (by decide) rfl (fun c4 => ?_) (fun c4 => ?_)
  · have hf := if_t c4 hf
    refine g_ldc2 (i := 1) (z := -4611686018427387904) C dX12_lots_52 rfl (by decide) ?_
    obtain ⟨e1, e2⟩ := some_inv hf
    exact g_lret C hr hlk e1 e2 dX12_lots_55
  · have hf := if_f c4 hf
    refine g_aload_n (i := 0) C dX12_lots_7 rfl rfl ?_
    refine g_iload_n (i := 1) C dX12_lots_8 rfl rfl ?_
    obtain ⟨r6, σ5, h7, hf⟩ := ob_inv hf
    refine g_callVi C (c_X12_isFit  h7) (cwV 1 C.2.2.2.2.1 gX12_lots_X12_isFit rfl rfl rfl (by decide +kernel) ⟨Nat.le_of_ble_eq_true rfl, Nat.le_of_ble_eq_true rfl⟩) ob_X12 rfl rfl rfl rfl (Nat.le_of_ble_eq_true rfl) dX12_lots_9 ⟨Nat.zero_le _, Nat.zero_le _⟩ ?_
    refine g_if_eq (tgt := 52) C dX12_lots_12 (by decide) rfl (fun c8 => ?_) (fun c8 => ?_)
    · have hf := if_t c8 hf
      refine g_ldc2 (i := 1) (z := -4611686018427387904) C dX12_lots_52 rfl (by decide) ?_
      obtain ⟨e1, e2⟩ := some_inv hf
      exact g_lret C hr hlk e1 e2 dX12_lots_55
    · have hf := if_f c8 hf
      refine g_aload_n (i := 0) C dX12_lots_15 rfl rfl ?_
      refine g_iload_n (i := 2) C dX12_lots_16 rfl rfl ?_
      obtain ⟨r10, σ9, h11, hf⟩ := ob_inv hf
      refine g_callVi C (c_X12_isSort  h11) (cwV 1 C.2.2.2.2.1 gX12_lots_X12_isSort rfl rfl rfl (by decide +kernel) ⟨Nat.le_of_ble_eq_true rfl, Nat.le_of_ble_eq_true rfl⟩) ob_X12 rfl rfl rfl rfl (Nat.le_of_ble_eq_true rfl) dX12_lots_17 ⟨Nat.zero_le _, Nat.zero_le _⟩ ?_
      refine g_if_eq (tgt := 52) C dX12_lots_20 (by decide) rfl (fun c12 => ?_) (fun c12 => ?_)
      · have hf := if_t c12 hf
        refine g_ldc2 (i := 1) (z := -4611686018427387904) C dX12_lots_52 rfl (by decide) ?_
        obtain ⟨e1, e2⟩ := some_inv hf
        exact g_lret C hr hlk e1 e2 dX12_lots_55
      · have hf := if_f c12 hf
        refine g_aload_n (i := 0) C dX12_lots_23 rfl rfl ?_
        refine g_iload_n (i := 3) C dX12_lots_24 rfl rfl ?_
        obtain ⟨r14, σ13, h15, hf⟩ := ob_inv hf
        refine g_callVi C (c_X12_isMark  h15) (cwV 1 C.2.2.2.2.1 gX12_lots_X12_isMark rfl rfl rfl (by decide +kernel) ⟨Nat.le_of_ble_eq_true rfl, Nat.le_of_ble_eq_true rfl⟩) ob_X12 rfl rfl rfl rfl (Nat.le_of_ble_eq_true rfl) dX12_lots_25 ⟨Nat.zero_le _, Nat.zero_le _⟩ ?_
        refine g_if_eq (tgt := 52) C dX12_lots_28 (by decide) rfl (fun c16 => ?_) (fun c16 => ?_)
        · have hf := if_t c16 hf
          refine g_ldc2 (i := 1) (z := -4611686018427387904) C dX12_lots_52 rfl (by decide) ?_
          obtain ⟨e1, e2⟩ := some_inv hf
          exact g_lret C hr hlk e1 e2 dX12_lots_55
        · have hf := if_f c16 hf
          refine g_iload C dX12_lots_31 rfl ?_
          refine g_i2l C dX12_lots_33 rfl ?_
          refine g_lconst (z := 0) C dX12_lots_34 (by decide) ?_
          refine g_lconst (z := 1) C dX12_lots_35 (by decide) ?_
          obtain ⟨r18, σ17, h19, hf⟩ := ob_inv hf
          refine g_callSi C (c_X12_isIn  h19) (va_cwS 3 C.2.2.2.2.1 gX12_lots_X12_isIn rfl rfl rfl (by decide +kernel) ⟨Nat.le_of_ble_eq_true rfl, Nat.le_of_ble_eq_true rfl⟩) rfl rfl (Nat.le_of_ble_eq_true rfl) dX12_lots_36 ⟨Nat.zero_le _, Nat.zero_le _⟩ ?_
          refine g_if_eq (tgt := 52) C dX12_lots_39 (by decide) rfl (fun c20 => ?_) (fun c20 => ?_)
          · have hf := if_t c20 hf
            refine g_ldc2 (i := 1) (z := -4611686018427387904) C dX12_lots_52 rfl (by decide) ?_
            obtain ⟨e1, e2⟩ := some_inv hf
            exact g_lret C hr hlk e1 e2 dX12_lots_55
          · have hf := if_f c20 hf
            refine g_aload_n (i := 0) C dX12_lots_42 rfl rfl ?_
            refine g_iload_n (i := 1) C dX12_lots_43 rfl rfl ?_
            refine g_iload_n (i := 2) C dX12_lots_44 rfl rfl ?_
            refine g_iload_n (i := 3) C dX12_lots_45 rfl rfl ?_
            obtain ⟨r22, σ21, h23, hf⟩ := ob_inv hf
            refine g_callVi C (c_X12_findLots  h23) (cwV 3 C.2.2.2.2.1 gX12_lots_X12_findLots rfl rfl rfl (by decide +kernel) ⟨Nat.le_of_ble_eq_true rfl, Nat.le_of_ble_eq_true rfl⟩) ob_X12 rfl rfl rfl rfl (Nat.le_of_ble_eq_true rfl) dX12_lots_46 ⟨Nat.zero_le _, Nat.zero_le _⟩ ?_
            refine g_if_ne (tgt := 56) C dX12_lots_49 (by decide) rfl (fun c24 => ?_) (fun c24 => ?_)
            · have hf := if_f c24 hf
              refine g_aload_n (i := 0) C dX12_lots_56 rfl rfl ?_
              refine gg_X12_above (i := 2) C hiX12_lots_X12 rfl dX12_lots_57 ?_
              refine g_aload_n (i := 0) C dX12_lots_60 rfl rfl ?_
              refine gg_X12_below (i := 3) C hiX12_lots_X12 rfl dX12_lots_61 ?_
              refine g_iload C dX12_lots_64 rfl ?_
              obtain ⟨r26, σ25, h27, hf⟩ := ob_inv hf
              refine g_callSl C (c_X12_told  h27) (va_cwS 3 C.2.2.2.2.1 gX12_lots_X12_told rfl rfl rfl (by decide +kernel) ⟨Nat.le_of_ble_eq_true rfl, Nat.le_of_ble_eq_true rfl⟩) rfl rfl (Nat.le_of_ble_eq_true rfl) dX12_lots_66 ⟨Nat.zero_le _, Nat.zero_le _⟩ ?_
              obtain ⟨e1, e2⟩ := some_inv hf
              exact g_lret C hr hlk e1 e2 dX12_lots_69
            · have hf := if_t c24 hf
              refine g_ldc2 (i := 1) (z := -4611686018427387904) C dX12_lots_52 rfl (by decide) ?_
              obtain ⟨e1, e2⟩ := some_inv hf
              exact g_lret C hr hlk e1 e2 dX12_lots_55
/-! X12_standing -/
abbrev rm_X12_standing : Room := { frames := 3, cells := 0, slots := 0, locals := 73 }
theorem hiX12_standing_X12 : ∀ w ∈ u_ws RX12 TX12 24, w ∈ wsX12_standing := fun _ h => (List.mem_cons_of_mem _ (List.mem_append_right _ h))
set_option maxHeartbeats 4000000 in
set_option maxRecDepth 100000 in
theorem it_X12_standing_45 (C : Cx p s m args c cX12_standing 5 RX12 wsX12_standing D ca A) (hr : meth.sig.returnType = (some .int)) (hlk : meth.locks = false) {p2 p3 : Int} {o : (Int × Int × Mem) ⊕ (Int × Mem)} (hc : ∀ (x1 x4 : Int) (σ : Mem), o = .inl (x1, x4, σ) → G p l e rm_X12_standing s m args below meth c 5 D ca ad A 0 0 (MQ below (Qi D ca ad A r0 σ0) args s 0 0 A) σ 45 [some (.ref (ad 120)), some (.int (iI x1)), some (.int (iI p2)), some (.int (iI p3)), some (.int (iI x4))] []) (he : ∀ (y1 : Int) (σ : Mem), o = .inr (y1, σ) → G p l e rm_X12_standing s m args below meth c 5 D ca ad A 0 0 (MQ below (Qi D ca ad A r0 σ0) args s 0 0 A) σ 81 [some (.ref (ad 120)), some (.int (iI y1)), some (.int (iI p2)), some (.int (iI p3)), none] []) {x1 x4 : Int} {σ : Mem} (hf : f_X12_standing_45 p2 p3 x1 x4 σ = some o) : G p l e rm_X12_standing s m args below meth c 5 D ca ad A 0 0 (MQ below (Qi D ca ad A r0 σ0) args s 0 0 A) σ 45 [some (.ref (ad 120)), some (.int (iI x1)), some (.int (iI p2)), some (.int (iI p3)), some (.int (iI x4))] [] := by
  unfold f_X12_standing_45 at hf
  refine g_iload C dX12_standing_45 rfl ?_
  refine g_aload_n (i := 0) C dX12_standing_47 rfl rfl ?_
  refine gg_X12_s (i := 1) C hiX12_standing_X12 rfl dX12_standing_48 ?_
  refine g_iconst C dX12_standing_51 ?_
  refine g_iaload (N := 39) (j := 1) C (by decide) dX12_standing_52 (by decide) (by decide) ?_
  refine g_icmp_ge (tgt := 81) C dX12_standing_53 (by decide) rfl rfl (fun c14 => ?_) (fun c14 => ?_)
  · have hf := if_t c14 hf
    exact g_mask [true, true, true, true, false] (he _ _ (Option.some.inj hf).symm)
  · have hf := if_f c14 hf
    refine g_iload_n (i := 1) C dX12_standing_56 rfl rfl ?_
    refine g_aload_n (i := 0) C dX12_standing_57 rfl rfl ?_
    refine g_iload_n (i := 2) C dX12_standing_58 rfl rfl ?_
    refine g_iload_n (i := 3) C dX12_standing_59 rfl rfl ?_
    refine g_iload C dX12_standing_60 rfl ?_
    obtain ⟨r16, σ15, h17, hf⟩ := ob_inv hf
    refine g_callVi C (c_X12_findLots  h17) (cwV 3 C.2.2.2.2.1 gX12_standing_X12_findLots rfl rfl rfl (by decide +kernel) ⟨Nat.le_of_ble_eq_true rfl, Nat.le_of_ble_eq_true rfl⟩) ob_X12 rfl rfl rfl rfl (Nat.le_of_ble_eq_true rfl) dX12_standing_62 ⟨Nat.zero_le _, Nat.zero_le _⟩ ?_
    refine g_if_eq (tgt := 72) C dX12_standing_65 (by decide) rfl (fun c18 => ?_) (fun c18 => ?_)
    · have hf := if_t c18 hf
      refine g_iconst C dX12_standing_72 ?_
      refine g_iadd C dX12_standing_73 ?_
      refine g_istore_n (i := 1) C dX12_standing_74 rfl (by decide) rfl ?_
      refine g_iinc C dX12_standing_75 rfl (by decide) rfl ?_
      refine g_goto (tgt := 45) C dX12_standing_78 (by decide) ?_
      exact g_mask [true, true, true, true, true] (hc _ _ _ (Option.some.inj hf).symm)
    · have hf := if_f c18 hf
      refine g_iconst C dX12_standing_68 ?_
      refine g_goto (tgt := 73) C dX12_standing_69 (by decide) ?_
      refine g_iadd C dX12_standing_73 ?_
      refine g_istore_n (i := 1) C dX12_standing_74 rfl (by decide) rfl ?_
      refine g_iinc C dX12_standing_75 rfl (by decide) rfl ?_
      refine g_goto (tgt := 45) C dX12_standing_78 (by decide) ?_
      exact g_mask [true, true, true, true, true] (hc _ _ _ (Option.some.inj hf).symm)
set_option maxHeartbeats 4000000 in
set_option maxRecDepth 100000 in
theorem w_X12_standing_45 (C : Cx p s m args c cX12_standing 5 RX12 wsX12_standing D ca A) (hr : meth.sig.returnType = (some .int)) (hlk : meth.locks = false) {p2 p3 : Int} {n : Nat} {x1 x4 : Int} {σ : Mem} {b : (Int × Mem)} (h : itr (fun z : Int × Int × Mem => f_X12_standing_45 p2 p3 z.1 z.2.1 z.2.2) n (x1, x4, σ) = some b) (he : ∀ (y1 : Int) (σ : Mem), b = (y1, σ) → G p l e rm_X12_standing s m args below meth c 5 D ca ad A 0 0 (MQ below (Qi D ca ad A r0 σ0) args s 0 0 A) σ 81 [some (.ref (ad 120)), some (.int (iI y1)), some (.int (iI p2)), some (.int (iI p3)), none] []) : G p l e rm_X12_standing s m args below meth c 5 D ca ad A 0 0 (MQ below (Qi D ca ad A r0 σ0) args s 0 0 A) σ 45 [some (.ref (ad 120)), some (.int (iI x1)), some (.int (iI p2)), some (.int (iI p3)), some (.int (iI x4))] [] :=
  itr_rule (P := fun z : Int × Int × Mem => G p l e rm_X12_standing s m args below meth c 5 D ca ad A 0 0 (MQ below (Qi D ca ad A r0 σ0) args s 0 0 A) z.2.2 45 [some (.ref (ad 120)), some (.int (iI z.1)), some (.int (iI p2)), some (.int (iI p3)), some (.int (iI z.2.1))] []) (E := fun b => ∀ (y1 : Int) (σ : Mem), b = (y1, σ) → G p l e rm_X12_standing s m args below meth c 5 D ca ad A 0 0 (MQ below (Qi D ca ad A r0 σ0) args s 0 0 A) σ 81 [some (.ref (ad 120)), some (.int (iI y1)), some (.int (iI p2)), some (.int (iI p3)), none] []) (fun z o hb hc he => it_X12_standing_45 C hr hlk (fun _ _ _ e => hc _ e) (fun _ _ e => (he _ e) _ _ rfl) hb) n _ _ h he
set_option maxHeartbeats 4000000 in
set_option maxRecDepth 100000 in
theorem it_X12_standing_24 (C : Cx p s m args c cX12_standing 5 RX12 wsX12_standing D ca A) (hr : meth.sig.returnType = (some .int)) (hlk : meth.locks = false) {p2 : Int} {o : (Int × Int × Mem) ⊕ (Int × Mem)} (hc : ∀ (x1 x3 : Int) (σ : Mem), o = .inl (x1, x3, σ) → G p l e rm_X12_standing s m args below meth c 5 D ca ad A 0 0 (MQ below (Qi D ca ad A r0 σ0) args s 0 0 A) σ 24 [some (.ref (ad 120)), some (.int (iI x1)), some (.int (iI p2)), some (.int (iI x3)), none] []) (he : ∀ (y1 : Int) (σ : Mem), o = .inr (y1, σ) → G p l e rm_X12_standing s m args below meth c 5 D ca ad A 0 0 (MQ below (Qi D ca ad A r0 σ0) args s 0 0 A) σ 87 [some (.ref (ad 120)), some (.int (iI y1)), some (.int (iI p2)), none, none] []) {x1 x3 : Int} {σ : Mem} (hf : f_X12_standing_24 p2 x1 x3 σ = some o) : G p l e rm_X12_standing s m args below meth c 5 D ca ad A 0 0 (MQ below (Qi D ca ad A r0 σ0) args s 0 0 A) σ 24 [some (.ref (ad 120)), some (.int (iI x1)), some (.int (iI p2)), some (.int (iI x3)), none] [] := by
  unfold f_X12_standing_24 at hf
  refine g_iload_n (i := 3) C dX12_standing_24 rfl rfl ?_
  refine g_aload_n (i := 0) C dX12_standing_25 rfl rfl ?_
  refine gg_X12_s (i := 1) C hiX12_standing_X12 rfl dX12_standing_26 ?_
  refine g_iconst C dX12_standing_29 ?_
  refine g_iaload (N := 39) (j := 0) C (by decide) dX12_standing_30 (by decide) (by decide) ?_
  refine g_icmp_ge (tgt := 87) C dX12_standing_31 (by decide) rfl rfl (fun c9 => ?_) (fun c9 => ?_)
  · have hf := if_t c9 hf
    exact g_mask [true, true, true, false, false] (he _ _ (Option.some.inj hf).symm)
  · have hf := if_f c9 hf
    refine g_aload_n (i := 0) C dX12_standing_34 rfl rfl ?_
    refine g_iload_n (i := 2) C dX12_standing_35 rfl rfl ?_
    obtain ⟨r11, σ10, h12, hf⟩ := ob_inv hf
    refine g_callVi C (c_X12_isFit  h12) (cwV 1 C.2.2.2.2.1 gX12_standing_X12_isFit rfl rfl rfl (by decide +kernel) ⟨Nat.le_of_ble_eq_true rfl, Nat.le_of_ble_eq_true rfl⟩) ob_X12 rfl rfl rfl rfl (Nat.le_of_ble_eq_true rfl) dX12_standing_36 ⟨Nat.zero_le _, Nat.zero_le _⟩ ?_
    refine g_if_eq (tgt := 87) C dX12_standing_39 (by decide) rfl (fun c13 => ?_) (fun c13 => ?_)
    · have hf := if_t c13 hf
      exact g_mask [true, true, true, false, false] (he _ _ (Option.some.inj hf).symm)
    · have hf := if_f c13 hf
      refine g_iconst C dX12_standing_42 ?_
      refine g_istore C dX12_standing_43 (by decide) rfl ?_
      obtain ⟨q19, hl20, hf⟩ := lb_inv hf
      refine g_mask [true, true, true, true, true] (w_X12_standing_45 C hr hlk hl20 ?_)
      · rintro y21 σ22 rfl
        refine g_iinc C dX12_standing_81 rfl (by decide) rfl ?_
        refine g_goto (tgt := 24) C dX12_standing_84 (by decide) ?_
        exact g_mask [true, true, true, true, false] (hc _ _ _ (Option.some.inj hf).symm)
set_option maxHeartbeats 4000000 in
set_option maxRecDepth 100000 in
theorem w_X12_standing_24 (C : Cx p s m args c cX12_standing 5 RX12 wsX12_standing D ca A) (hr : meth.sig.returnType = (some .int)) (hlk : meth.locks = false) {p2 : Int} {n : Nat} {x1 x3 : Int} {σ : Mem} {b : (Int × Mem)} (h : itr (fun z : Int × Int × Mem => f_X12_standing_24 p2 z.1 z.2.1 z.2.2) n (x1, x3, σ) = some b) (he : ∀ (y1 : Int) (σ : Mem), b = (y1, σ) → G p l e rm_X12_standing s m args below meth c 5 D ca ad A 0 0 (MQ below (Qi D ca ad A r0 σ0) args s 0 0 A) σ 87 [some (.ref (ad 120)), some (.int (iI y1)), some (.int (iI p2)), none, none] []) : G p l e rm_X12_standing s m args below meth c 5 D ca ad A 0 0 (MQ below (Qi D ca ad A r0 σ0) args s 0 0 A) σ 24 [some (.ref (ad 120)), some (.int (iI x1)), some (.int (iI p2)), some (.int (iI x3)), none] [] :=
  itr_rule (P := fun z : Int × Int × Mem => G p l e rm_X12_standing s m args below meth c 5 D ca ad A 0 0 (MQ below (Qi D ca ad A r0 σ0) args s 0 0 A) z.2.2 24 [some (.ref (ad 120)), some (.int (iI z.1)), some (.int (iI p2)), some (.int (iI z.2.1)), none] []) (E := fun b => ∀ (y1 : Int) (σ : Mem), b = (y1, σ) → G p l e rm_X12_standing s m args below meth c 5 D ca ad A 0 0 (MQ below (Qi D ca ad A r0 σ0) args s 0 0 A) σ 87 [some (.ref (ad 120)), some (.int (iI y1)), some (.int (iI p2)), none, none] []) (fun z o hb hc he => it_X12_standing_24 C hr hlk (fun _ _ _ e => hc _ e) (fun _ _ e => (he _ e) _ _ rfl) hb) n _ _ h he
set_option maxHeartbeats 4000000 in
set_option maxRecDepth 100000 in
theorem it_X12_standing_14 (C : Cx p s m args c cX12_standing 5 RX12 wsX12_standing D ca A) (hr : meth.sig.returnType = (some .int)) (hlk : meth.locks = false) {o : (Int × Int × Mem) ⊕ (Int × Mem)} (hc : ∀ (x1 x2 : Int) (σ : Mem), o = .inl (x1, x2, σ) → G p l e rm_X12_standing s m args below meth c 5 D ca ad A 0 0 (MQ below (Qi D ca ad A r0 σ0) args s 0 0 A) σ 14 [some (.ref (ad 120)), some (.int (iI x1)), some (.int (iI x2)), none, none] []) (he : ∀ (y1 : Int) (σ : Mem), o = .inr (y1, σ) → G p l e rm_X12_standing s m args below meth c 5 D ca ad A 0 0 (MQ below (Qi D ca ad A r0 σ0) args s 0 0 A) σ 93 [none, some (.int (iI y1)), none, none, none] []) {x1 x2 : Int} {σ : Mem} (hf : f_X12_standing_14  x1 x2 σ = some o) : G p l e rm_X12_standing s m args below meth c 5 D ca ad A 0 0 (MQ below (Qi D ca ad A r0 σ0) args s 0 0 A) σ 14 [some (.ref (ad 120)), some (.int (iI x1)), some (.int (iI x2)), none, none] [] := by
  unfold f_X12_standing_14 at hf
  refine g_iload_n (i := 2) C dX12_standing_14 rfl rfl ?_
  refine g_aload_n (i := 0) C dX12_standing_15 rfl rfl ?_
  obtain ⟨r6, σ5, h7, hf⟩ := ob_inv hf
  refine g_callVi C (c_X12_fits  h7) (cwV 0 C.2.2.2.2.1 gX12_standing_X12_fits rfl rfl rfl (by decide +kernel) ⟨Nat.le_of_ble_eq_true rfl, Nat.le_of_ble_eq_true rfl⟩) ob_X12 rfl rfl rfl rfl (Nat.le_of_ble_eq_true rfl) dX12_standing_16 ⟨Nat.zero_le _, Nat.zero_le _⟩ ?_
  refine g_icmp_ge (tgt := 93) C dX12_standing_19 (by decide) rfl rfl (fun c8 => ?_) (fun c8 => ?_)
  · have hf := if_t c8 hf
    exact g_mask [false, true, false, false, false] (he _ _ (Option.some.inj hf).symm)
  · have hf := if_f c8 hf
    refine g_iconst C dX12_standing_22 ?_
    refine g_istore_n (i := 3) C dX12_standing_23 rfl (by decide) rfl ?_
    obtain ⟨q23, hl24, hf⟩ := lb_inv hf
    refine g_mask [true, true, true, true, false] (w_X12_standing_24 C hr hlk hl24 ?_)
    · rintro y25 σ26 rfl
      refine g_iinc C dX12_standing_87 rfl (by decide) rfl ?_
      refine g_goto (tgt := 14) C dX12_standing_90 (by decide) ?_
      exact g_mask [true, true, true, false, false] (hc _ _ _ (Option.some.inj hf).symm)
set_option maxHeartbeats 4000000 in
set_option maxRecDepth 100000 in
theorem w_X12_standing_14 (C : Cx p s m args c cX12_standing 5 RX12 wsX12_standing D ca A) (hr : meth.sig.returnType = (some .int)) (hlk : meth.locks = false) {n : Nat} {x1 x2 : Int} {σ : Mem} {b : (Int × Mem)} (h : itr (fun z : Int × Int × Mem => f_X12_standing_14  z.1 z.2.1 z.2.2) n (x1, x2, σ) = some b) (he : ∀ (y1 : Int) (σ : Mem), b = (y1, σ) → G p l e rm_X12_standing s m args below meth c 5 D ca ad A 0 0 (MQ below (Qi D ca ad A r0 σ0) args s 0 0 A) σ 93 [none, some (.int (iI y1)), none, none, none] []) : G p l e rm_X12_standing s m args below meth c 5 D ca ad A 0 0 (MQ below (Qi D ca ad A r0 σ0) args s 0 0 A) σ 14 [some (.ref (ad 120)), some (.int (iI x1)), some (.int (iI x2)), none, none] [] :=
  itr_rule (P := fun z : Int × Int × Mem => G p l e rm_X12_standing s m args below meth c 5 D ca ad A 0 0 (MQ below (Qi D ca ad A r0 σ0) args s 0 0 A) z.2.2 14 [some (.ref (ad 120)), some (.int (iI z.1)), some (.int (iI z.2.1)), none, none] []) (E := fun b => ∀ (y1 : Int) (σ : Mem), b = (y1, σ) → G p l e rm_X12_standing s m args below meth c 5 D ca ad A 0 0 (MQ below (Qi D ca ad A r0 σ0) args s 0 0 A) σ 93 [none, some (.int (iI y1)), none, none, none] []) (fun z o hb hc he => it_X12_standing_14 C hr hlk (fun _ _ _ e => hc _ e) (fun _ _ e => (he _ e) _ _ rfl) hb) n _ _ h he
set_option maxHeartbeats 4000000 in
set_option maxRecDepth 100000 in
theorem c_X12_standing {σ : Mem} (hf : f_X12_standing  σ = some (r0, σ0)) : CTi l D ca ad A yX12_standing wsX12_standing rm_X12_standing [.ref (ad 120)] σ r0 σ0 := by
  refine ct_i (cc := cX12_standing) (own := RX12) (maxL := 5) (ret := (some .int)) (lv0 := [some (.ref (ad 120)), none, none, none, none]) (by decide) rfl rfl rfl (Nat.le_of_ble_eq_true rfl) ?_
  intro p e s m below meth c C hr hlk hnm
  unfold f_X12_standing at hf
  refine g_aload_n (i := 0) C dX12_standing_0 rfl rfl ?_
  obtain ⟨r2, σ1, h3, hf⟩ := ob_inv hf
  refine g_callVi C (c_X12_isOpen  h3) (cwV 0 C.2.2.2.2.1 gX12_standing_X12_isOpen rfl rfl rfl (by decide +kernel) ⟨Nat.le_of_ble_eq_true rfl, Nat.le_of_ble_eq_true rfl⟩) ob_X12 rfl rfl rfl rfl (Nat.le_of_ble_eq_true rfl) dX12_standing_1 ⟨Nat.zero_le _, Nat.zero_le _⟩ ?_
  refine g_if_ne (tgt := 10) C dX12_standing_4 (by decide) rfl (fun c4 => ?_) (fun c4 => ?_)
  · have hf := if_f c4 hf
    refine g_iconst C dX12_standing_10 ?_
    refine g_istore_n (i := 1) C dX12_standing_11 rfl (by decide) rfl ?_
    refine g_iconst C dX12_standing_12 ?_
    refine g_istore_n (i := 2) C dX12_standing_13 rfl (by decide) rfl ?_
    obtain ⟨q27, hl28, hf⟩ := lb_inv hf
    refine g_mask [true, true, true, false, false] (w_X12_standing_14 C hr hlk hl28 ?_)
    · rintro y29 σ30 rfl
      refine g_iload_n (i := 1) C dX12_standing_93 rfl rfl ?_
      obtain ⟨e1, e2⟩ := some_inv hf
      exact g_iret C hr hlk e1 e2 dX12_standing_94
  · have hf := if_t c4 hf
    refine g_bipush C dX12_standing_7 (by decide) ?_
    obtain ⟨e1, e2⟩ := some_inv hf
    exact g_iret C hr hlk e1 e2 dX12_standing_9
/-! X12_wasteOf -/
abbrev rm_X12_wasteOf : Room := { frames := 1, cells := 0, slots := 0, locals := 23 }
theorem hiX12_wasteOf_X12 : ∀ w ∈ u_ws RX12 TX12 24, w ∈ wsX12_wasteOf := fun _ h => (List.mem_cons_of_mem _ (List.mem_append_right _ h))
set_option maxHeartbeats 4000000 in
set_option maxRecDepth 100000 in
theorem it_X12_wasteOf_4 (C : Cx p s m args c cX12_wasteOf 4 RX12 wsX12_wasteOf D ca A) (hr : meth.sig.returnType = (some .int)) (hlk : meth.locks = false) {p1 : Int} {o : (Int × Int × Mem) ⊕ (Int × Mem)} (hc : ∀ (x2 x3 : Int) (σ : Mem), o = .inl (x2, x3, σ) → G p l e rm_X12_wasteOf s m args below meth c 4 D ca ad A 0 0 (MQ below (Qi D ca ad A r0 σ0) args s 0 0 A) σ 4 [some (.ref (ad 120)), some (.int (iI p1)), some (.int (iI x2)), some (.int (iI x3))] []) (he : ∀ (y2 : Int) (σ : Mem), o = .inr (y2, σ) → G p l e rm_X12_wasteOf s m args below meth c 4 D ca ad A 0 0 (MQ below (Qi D ca ad A r0 σ0) args s 0 0 A) σ 62 [none, none, some (.int (iI y2)), none] []) {x2 x3 : Int} {σ : Mem} (hf : f_X12_wasteOf_4 p1 x2 x3 σ = some o) : G p l e rm_X12_wasteOf s m args below meth c 4 D ca ad A 0 0 (MQ below (Qi D ca ad A r0 σ0) args s 0 0 A) σ 4 [some (.ref (ad 120)), some (.int (iI p1)), some (.int (iI x2)), some (.int (iI x3))] [] := by
  unfold f_X12_wasteOf_4 at hf
  refine g_iload_n (i := 3) C dX12_wasteOf_4 rfl rfl ?_
  refine g_aload_n (i := 0) C dX12_wasteOf_5 rfl rfl ?_
  refine gg_X12_s (i := 1) C hiX12_wasteOf_X12 rfl dX12_wasteOf_6 ?_
  refine g_iconst C dX12_wasteOf_9 ?_
  refine g_iaload (N := 39) (j := 0) C (by decide) dX12_wasteOf_10 (by decide) (by decide) ?_
  refine g_icmp_ge (tgt := 62) C dX12_wasteOf_11 (by decide) rfl rfl (fun c1 => ?_) (fun c1 => ?_)
  · have hf := if_t c1 hf
    exact g_mask [false, false, true, false] (he _ _ (Option.some.inj hf).symm)
  · have hf := if_f c1 hf
    refine g_iload_n (i := 2) C dX12_wasteOf_14 rfl rfl ?_
    refine g_iload_n (i := 1) C dX12_wasteOf_15 rfl rfl ?_
    refine g_iload_n (i := 3) C dX12_wasteOf_16 rfl rfl ?_
    obtain ⟨r3, σ2, h4, hf⟩ := ob_inv hf
    refine g_callSi C (c_X12_made  h4) (va_cwS 2 C.2.2.2.2.1 gX12_wasteOf_X12_made rfl rfl rfl (by decide +kernel) ⟨Nat.le_of_ble_eq_true rfl, Nat.le_of_ble_eq_true rfl⟩) rfl rfl (Nat.le_of_ble_eq_true rfl) dX12_wasteOf_17 ⟨Nat.zero_le _, Nat.zero_le _⟩ ?_
    refine g_iconst C dX12_wasteOf_20 ?_
    refine g_icmp_ne (b' := 4) (tgt := 28) C dX12_wasteOf_21 (by decide) rfl (by decide) (fun c5 => ?_) (fun c5 => ?_)
    · have hf := if_f c5 hf
      refine g_aload_n (i := 0) C dX12_wasteOf_28 rfl rfl ?_
      refine gg_X12_s (i := 1) C hiX12_wasteOf_X12 rfl dX12_wasteOf_29 ?_
      refine g_iconst C dX12_wasteOf_32 ?_
      refine g_iload_n (i := 3) C dX12_wasteOf_33 rfl rfl ?_
      refine g_iadd C dX12_wasteOf_34 ?_
      obtain ⟨hb6, hf⟩ := if_inv hf
      refine g_iaload (N := 39) C (by decide) dX12_wasteOf_35 rfl hb6 ?_
      refine g_aload_n (i := 0) C dX12_wasteOf_36 rfl rfl ?_
      refine gg_X12_s (i := 1) C hiX12_wasteOf_X12 rfl dX12_wasteOf_37 ?_
      refine g_bipush C dX12_wasteOf_40 (by decide) ?_
      refine g_iconst C dX12_wasteOf_42 ?_
      refine g_iload_n (i := 1) C dX12_wasteOf_43 rfl rfl ?_
      refine g_iload_n (i := 3) C dX12_wasteOf_44 rfl rfl ?_
      obtain ⟨r8, σ7, h9, hf⟩ := ob_inv hf
      refine g_callSi C (c_X12_made  h9) (va_cwS 2 C.2.2.2.2.1 gX12_wasteOf_X12_made rfl rfl rfl (by decide +kernel) ⟨Nat.le_of_ble_eq_true rfl, Nat.le_of_ble_eq_true rfl⟩) rfl rfl (Nat.le_of_ble_eq_true rfl) dX12_wasteOf_45 ⟨Nat.zero_le _, Nat.zero_le _⟩ ?_
      refine g_imul C dX12_wasteOf_48 ?_
      refine g_iadd C dX12_wasteOf_49 ?_
      refine g_iload_n (i := 3) C dX12_wasteOf_50 rfl rfl ?_
      refine g_iadd C dX12_wasteOf_51 ?_
      obtain ⟨hb10, hf⟩ := if_inv hf
      refine g_iaload (N := 39) C (by decide) dX12_wasteOf_52 rfl hb10 ?_
      refine g_imul C dX12_wasteOf_53 ?_
      refine g_iadd C dX12_wasteOf_54 ?_
      refine g_istore_n (i := 2) C dX12_wasteOf_55 rfl (by decide) rfl ?_
      refine g_iinc C dX12_wasteOf_56 rfl (by decide) rfl ?_
      refine g_goto (tgt := 4) C dX12_wasteOf_59 (by decide) ?_
      exact g_mask [true, true, true, true] (hc _ _ _ (Option.some.inj hf).symm)
    · have hf := if_t c5 hf
      refine g_iconst C dX12_wasteOf_24 ?_
      refine g_goto (tgt := 54) C dX12_wasteOf_25 (by decide) ?_
      refine g_iadd C dX12_wasteOf_54 ?_
      refine g_istore_n (i := 2) C dX12_wasteOf_55 rfl (by decide) rfl ?_
      refine g_iinc C dX12_wasteOf_56 rfl (by decide) rfl ?_
      refine g_goto (tgt := 4) C dX12_wasteOf_59 (by decide) ?_
      exact g_mask [true, true, true, true] (hc _ _ _ (Option.some.inj hf).symm)
set_option maxHeartbeats 4000000 in
set_option maxRecDepth 100000 in
theorem w_X12_wasteOf_4 (C : Cx p s m args c cX12_wasteOf 4 RX12 wsX12_wasteOf D ca A) (hr : meth.sig.returnType = (some .int)) (hlk : meth.locks = false) {p1 : Int} {n : Nat} {x2 x3 : Int} {σ : Mem} {b : (Int × Mem)} (h : itr (fun z : Int × Int × Mem => f_X12_wasteOf_4 p1 z.1 z.2.1 z.2.2) n (x2, x3, σ) = some b) (he : ∀ (y2 : Int) (σ : Mem), b = (y2, σ) → G p l e rm_X12_wasteOf s m args below meth c 4 D ca ad A 0 0 (MQ below (Qi D ca ad A r0 σ0) args s 0 0 A) σ 62 [none, none, some (.int (iI y2)), none] []) : G p l e rm_X12_wasteOf s m args below meth c 4 D ca ad A 0 0 (MQ below (Qi D ca ad A r0 σ0) args s 0 0 A) σ 4 [some (.ref (ad 120)), some (.int (iI p1)), some (.int (iI x2)), some (.int (iI x3))] [] :=
  itr_rule (P := fun z : Int × Int × Mem => G p l e rm_X12_wasteOf s m args below meth c 4 D ca ad A 0 0 (MQ below (Qi D ca ad A r0 σ0) args s 0 0 A) z.2.2 4 [some (.ref (ad 120)), some (.int (iI p1)), some (.int (iI z.1)), some (.int (iI z.2.1))] []) (E := fun b => ∀ (y2 : Int) (σ : Mem), b = (y2, σ) → G p l e rm_X12_wasteOf s m args below meth c 4 D ca ad A 0 0 (MQ below (Qi D ca ad A r0 σ0) args s 0 0 A) σ 62 [none, none, some (.int (iI y2)), none] []) (fun z o hb hc he => it_X12_wasteOf_4 C hr hlk (fun _ _ _ e => hc _ e) (fun _ _ e => (he _ e) _ _ rfl) hb) n _ _ h he
set_option maxHeartbeats 4000000 in
set_option maxRecDepth 100000 in
theorem c_X12_wasteOf {v1 : Int} {σ : Mem} (hf : f_X12_wasteOf v1 σ = some (r0, σ0)) : CTi l D ca ad A yX12_wasteOf wsX12_wasteOf rm_X12_wasteOf [.ref (ad 120), .int (iI v1)] σ r0 σ0 := by
  refine ct_i (cc := cX12_wasteOf) (own := RX12) (maxL := 4) (ret := (some .int)) (lv0 := [some (.ref (ad 120)), some (.int (iI v1)), none, none]) (by decide) rfl rfl rfl (Nat.le_of_ble_eq_true rfl) ?_
  intro p e s m below meth c C hr hlk hnm
  unfold f_X12_wasteOf at hf
  refine g_iconst C dX12_wasteOf_0 ?_
  refine g_istore_n (i := 2) C dX12_wasteOf_1 rfl (by decide) rfl ?_
  refine g_iconst C dX12_wasteOf_2 ?_
  refine g_istore_n (i := 3) C dX12_wasteOf_3 rfl (by decide) rfl ?_
  obtain ⟨q12, hl13, hf⟩ := lb_inv hf
  refine g_mask [true, true, true, true] (w_X12_wasteOf_4 C hr hlk hl13 ?_)
  · rintro y14 σ15 rfl
    refine g_iload_n (i := 2) C dX12_wasteOf_62 rfl rfl ?_
    obtain ⟨e1, e2⟩ := some_inv hf
    exact g_iret C hr hlk e1 e2 dX12_wasteOf_63
/-! X12_waste -/
abbrev rm_X12_waste : Room := { frames := 2, cells := 0, slots := 0, locals := 47 }
set_option maxHeartbeats 4000000 in
set_option maxRecDepth 100000 in
theorem c_X12_waste {v1 : Int} {σ : Mem} (hf : f_X12_waste v1 σ = some (r0, σ0)) : CTi l D ca ad A yX12_waste wsX12_waste rm_X12_waste [.ref (ad 120), .int (iI v1)] σ r0 σ0 := by
  refine ct_i (cc := cX12_waste) (own := RX12) (maxL := 2) (ret := (some .int)) (lv0 := [some (.ref (ad 120)), some (.int (iI v1))]) (by decide) rfl rfl rfl (Nat.le_of_ble_eq_true rfl) ?_
  intro p e s m below meth c C hr hlk hnm
  unfold f_X12_waste at hf
  refine g_aload_n (i := 0) C dX12_waste_0 rfl rfl ?_
  obtain ⟨r2, σ1, h3, hf⟩ := ob_inv hf
  refine g_callVi C (c_X12_isOpen  h3) (cwV 0 C.2.2.2.2.1 gX12_waste_X12_isOpen rfl rfl rfl (by decide +kernel) ⟨Nat.le_of_ble_eq_true rfl, Nat.le_of_ble_eq_true rfl⟩) ob_X12 rfl rfl rfl rfl (Nat.le_of_ble_eq_true rfl) dX12_waste_1 ⟨Nat.zero_le _, Nat.zero_le _⟩ ?_
  refine g_if_ne (tgt := 12) C dX12_waste_4 (by decide) rfl (fun c4 => ?_) (fun c4 => ?_)
  · have hf := if_f c4 hf
    refine g_aload_n (i := 0) C dX12_waste_12 rfl rfl ?_
    refine g_iload_n (i := 1) C dX12_waste_13 rfl rfl ?_
    obtain ⟨r6, σ5, h7, hf⟩ := ob_inv hf
    refine g_callVi C (c_X12_isFit  h7) (cwV 1 C.2.2.2.2.1 gX12_waste_X12_isFit rfl rfl rfl (by decide +kernel) ⟨Nat.le_of_ble_eq_true rfl, Nat.le_of_ble_eq_true rfl⟩) ob_X12 rfl rfl rfl rfl (Nat.le_of_ble_eq_true rfl) dX12_waste_14 ⟨Nat.zero_le _, Nat.zero_le _⟩ ?_
    refine g_if_eq (tgt := 28) C dX12_waste_17 (by decide) rfl (fun c8 => ?_) (fun c8 => ?_)
    · have hf := if_t c8 hf
      refine g_iconst C dX12_waste_28 ?_
      obtain ⟨e1, e2⟩ := some_inv hf
      exact g_iret C hr hlk e1 e2 dX12_waste_29
    · have hf := if_f c8 hf
      refine g_aload_n (i := 0) C dX12_waste_20 rfl rfl ?_
      refine g_iload_n (i := 1) C dX12_waste_21 rfl rfl ?_
      obtain ⟨r10, σ9, h11, hf⟩ := ob_inv hf
      refine g_callVi C (c_X12_wasteOf  h11) (cwV 1 C.2.2.2.2.1 gX12_waste_X12_wasteOf rfl rfl rfl (by decide +kernel) ⟨Nat.le_of_ble_eq_true rfl, Nat.le_of_ble_eq_true rfl⟩) ob_X12 rfl rfl rfl rfl (Nat.le_of_ble_eq_true rfl) dX12_waste_22 ⟨Nat.zero_le _, Nat.zero_le _⟩ ?_
      refine g_goto (tgt := 29) C dX12_waste_25 (by decide) ?_
      obtain ⟨e1, e2⟩ := some_inv hf
      exact g_iret C hr hlk e1 e2 dX12_waste_29
  · have hf := if_t c4 hf
    refine g_bipush C dX12_waste_7 (by decide) ?_
    refine g_goto (tgt := 29) C dX12_waste_9 (by decide) ?_
    obtain ⟨e1, e2⟩ := some_inv hf
    exact g_iret C hr hlk e1 e2 dX12_waste_29
/-! X12_isApart -/
abbrev rm_X12_isApart : Room := { frames := 1, cells := 0, slots := 0, locals := 23 }
theorem hiX12_isApart_X12 : ∀ w ∈ u_ws RX12 TX12 24, w ∈ wsX12_isApart := fun _ h => (List.mem_cons_of_mem _ (List.mem_append_right _ h))
set_option maxHeartbeats 4000000 in
set_option maxRecDepth 100000 in
theorem it_X12_isApart_4 (C : Cx p s m args c cX12_isApart 5 RX12 wsX12_isApart D ca A) (hr : meth.sig.returnType = (some .boolean)) (hlk : meth.locks = false) {p1 : Int} {o : (Int × Int × Mem) ⊕ ((Int × Mem) ⊕ (Mem))} (hc : ∀ (x2 x3 : Int) (σ : Mem), o = .inl (x2, x3, σ) → G p l e rm_X12_isApart s m args below meth c 5 D ca ad A 0 0 (MQ below (Qi D ca ad A r0 σ0) args s 0 0 A) σ 4 [some (.ref (ad 120)), some (.int (iI p1)), some (.int (iI x2)), some (.int (iI x3)), none] []) (he1 : ∀ (r1 : Int) (σ1 : Mem), o = .inr (.inl (r1, σ1)) → r1 = r0 ∧ σ1 = σ0) (he2 : ∀ (σ : Mem), o = .inr (.inr σ) → G p l e rm_X12_isApart s m args below meth c 5 D ca ad A 0 0 (MQ below (Qi D ca ad A r0 σ0) args s 0 0 A) σ 52 [none, none, none, none, none] []) {x2 x3 : Int} {σ : Mem} (hf : f_X12_isApart_4 p1 x2 x3 σ = some o) : G p l e rm_X12_isApart s m args below meth c 5 D ca ad A 0 0 (MQ below (Qi D ca ad A r0 σ0) args s 0 0 A) σ 4 [some (.ref (ad 120)), some (.int (iI p1)), some (.int (iI x2)), some (.int (iI x3)), none] [] := by
  unfold f_X12_isApart_4 at hf
  refine g_iload_n (i := 3) C dX12_isApart_4 rfl rfl ?_
  refine g_aload_n (i := 0) C dX12_isApart_5 rfl rfl ?_
  refine gg_X12_s (i := 1) C hiX12_isApart_X12 rfl dX12_isApart_6 ?_
  refine g_iconst C dX12_isApart_9 ?_
  refine g_iaload (N := 39) (j := 0) C (by decide) dX12_isApart_10 (by decide) (by decide) ?_
  refine g_icmp_ge (tgt := 52) C dX12_isApart_11 (by decide) rfl rfl (fun c8 => ?_) (fun c8 => ?_)
  · have hf := if_t c8 hf
    exact g_mask [false, false, false, false, false] (he2 _ (Option.some.inj hf).symm)
  · have hf := if_f c8 hf
    refine g_iload_n (i := 1) C dX12_isApart_14 rfl rfl ?_
    refine g_iload_n (i := 3) C dX12_isApart_15 rfl rfl ?_
    obtain ⟨r10, σ9, h11, hf⟩ := ob_inv hf
    refine g_callSi C (c_X12_made  h11) (va_cwS 2 C.2.2.2.2.1 gX12_isApart_X12_made rfl rfl rfl (by decide +kernel) ⟨Nat.le_of_ble_eq_true rfl, Nat.le_of_ble_eq_true rfl⟩) rfl rfl (Nat.le_of_ble_eq_true rfl) dX12_isApart_16 ⟨Nat.zero_le _, Nat.zero_le _⟩ ?_
    refine g_istore C dX12_isApart_19 (by decide) rfl ?_
    refine g_iload C dX12_isApart_21 rfl ?_
    refine g_iconst C dX12_isApart_23 ?_
    refine g_icmp_eq (b' := 4) (tgt := 37) C dX12_isApart_24 (by decide) rfl (by decide) (fun c12 => ?_) (fun c12 => ?_)
    · have hf := if_t c12 hf
      refine g_iconst C dX12_isApart_37 ?_
      obtain ⟨e1, e2⟩ := he1 _ _ (Option.some.inj hf).symm
      exact g_zret C hr hlk (by decide) e1 e2 dX12_isApart_38
    · have hf := if_f c12 hf
      refine g_iload_n (i := 2) C dX12_isApart_27 rfl rfl ?_
      refine g_iload C dX12_isApart_28 rfl ?_
      refine g_ishr C dX12_isApart_30 ?_
      refine g_iconst C dX12_isApart_31 ?_
      refine g_iand C dX12_isApart_32 ?_
      refine g_iconst C dX12_isApart_33 ?_
      refine g_icmp_ne (b' := 1) (tgt := 39) C dX12_isApart_34 (by decide) rfl (by decide) (fun c13 => ?_) (fun c13 => ?_)
      · have hf := if_f c13 hf
        refine g_iload_n (i := 2) C dX12_isApart_39 rfl rfl ?_
        refine g_iconst C dX12_isApart_40 ?_
        refine g_iload C dX12_isApart_41 rfl ?_
        refine g_ishl C dX12_isApart_43 ?_
        refine g_ior C dX12_isApart_44 ?_
        refine g_istore_n (i := 2) C dX12_isApart_45 rfl (by decide) rfl ?_
        refine g_iinc C dX12_isApart_46 rfl (by decide) rfl ?_
        refine g_goto (tgt := 4) C dX12_isApart_49 (by decide) ?_
        exact g_mask [true, true, true, true, false] (hc _ _ _ (Option.some.inj hf).symm)
      · have hf := if_t c13 hf
        refine g_iconst C dX12_isApart_37 ?_
        obtain ⟨e1, e2⟩ := he1 _ _ (Option.some.inj hf).symm
        exact g_zret C hr hlk (by decide) e1 e2 dX12_isApart_38
set_option maxHeartbeats 4000000 in
set_option maxRecDepth 100000 in
theorem w_X12_isApart_4 (C : Cx p s m args c cX12_isApart 5 RX12 wsX12_isApart D ca A) (hr : meth.sig.returnType = (some .boolean)) (hlk : meth.locks = false) {p1 : Int} {n : Nat} {x2 x3 : Int} {σ : Mem} {b : ((Int × Mem) ⊕ (Mem))} (h : itr (fun z : Int × Int × Mem => f_X12_isApart_4 p1 z.1 z.2.1 z.2.2) n (x2, x3, σ) = some b) (he1 : ∀ (r1 : Int) (σ1 : Mem), b = .inl (r1, σ1) → r1 = r0 ∧ σ1 = σ0) (he2 : ∀ (σ : Mem), b = .inr σ → G p l e rm_X12_isApart s m args below meth c 5 D ca ad A 0 0 (MQ below (Qi D ca ad A r0 σ0) args s 0 0 A) σ 52 [none, none, none, none, none] []) : G p l e rm_X12_isApart s m args below meth c 5 D ca ad A 0 0 (MQ below (Qi D ca ad A r0 σ0) args s 0 0 A) σ 4 [some (.ref (ad 120)), some (.int (iI p1)), some (.int (iI x2)), some (.int (iI x3)), none] [] :=
  itr_rule (P := fun z : Int × Int × Mem => G p l e rm_X12_isApart s m args below meth c 5 D ca ad A 0 0 (MQ below (Qi D ca ad A r0 σ0) args s 0 0 A) z.2.2 4 [some (.ref (ad 120)), some (.int (iI p1)), some (.int (iI z.1)), some (.int (iI z.2.1)), none] []) (E := fun b => (∀ (r1 : Int) (σ1 : Mem), b = .inl (r1, σ1) → r1 = r0 ∧ σ1 = σ0) ∧ (∀ (σ : Mem), b = .inr σ → G p l e rm_X12_isApart s m args below meth c 5 D ca ad A 0 0 (MQ below (Qi D ca ad A r0 σ0) args s 0 0 A) σ 52 [none, none, none, none, none] [])) (fun z o hb hc he => it_X12_isApart_4 C hr hlk (fun _ _ _ e => hc _ e) (fun r1 σ1 e => (he _ e).1 r1 σ1 rfl) (fun _ e => (he _ e).2 _ rfl) hb) n _ _ h ⟨he1, he2⟩
set_option maxHeartbeats 4000000 in
set_option maxRecDepth 100000 in
theorem c_X12_isApart {v1 : Int} {σ : Mem} (hf : f_X12_isApart v1 σ = some (r0, σ0)) : CTi l D ca ad A yX12_isApart wsX12_isApart rm_X12_isApart [.ref (ad 120), .int (iI v1)] σ r0 σ0 := by
  refine ct_i (cc := cX12_isApart) (own := RX12) (maxL := 5) (ret := (some .boolean)) (lv0 := [some (.ref (ad 120)), some (.int (iI v1)), none, none, none]) (by decide) rfl rfl rfl (Nat.le_of_ble_eq_true rfl) ?_
  intro p e s m below meth c C hr hlk hnm
  unfold f_X12_isApart at hf
  refine g_iconst C dX12_isApart_0 ?_
  refine g_istore_n (i := 2) C dX12_isApart_1 rfl (by decide) rfl ?_
  refine g_iconst C dX12_isApart_2 ?_
  refine g_istore_n (i := 3) C dX12_isApart_3 rfl (by decide) rfl ?_
  obtain ⟨q15, hl16, hf⟩ := lb_inv hf
  refine g_mask [true, true, true, true, false] (w_X12_isApart_4 C hr hlk hl16 ?_ ?_)
  · rintro r1 σ1 rfl
    exact some_inv hf
  · rintro σ17 rfl
    have hf := se_r hf
    refine g_iconst C dX12_isApart_52 ?_
    obtain ⟨e1, e2⟩ := some_inv hf
    exact g_zret C hr hlk (by decide) e1 e2 dX12_isApart_53
/-! X12_apart -/
abbrev rm_X12_apart : Room := { frames := 5, cells := 0, slots := 0, locals := 119 }
set_option maxHeartbeats 4000000 in
set_option maxRecDepth 100000 in
theorem it_X12_apart_15 (C : Cx p s m args c cX12_apart 3 RX12 wsX12_apart D ca A) (hr : meth.sig.returnType = (some .int)) (hlk : meth.locks = false) {o : (Int × Int × Mem) ⊕ (Int × Mem)} (hc : ∀ (x1 x2 : Int) (σ : Mem), o = .inl (x1, x2, σ) → G p l e rm_X12_apart s m args below meth c 3 D ca ad A 0 0 (MQ below (Qi D ca ad A r0 σ0) args s 0 0 A) σ 15 [some (.ref (ad 120)), some (.int (iI x1)), some (.int (iI x2))] []) (he : ∀ (y1 : Int) (σ : Mem), o = .inr (y1, σ) → G p l e rm_X12_apart s m args below meth c 3 D ca ad A 0 0 (MQ below (Qi D ca ad A r0 σ0) args s 0 0 A) σ 64 [none, some (.int (iI y1)), none] []) {x1 x2 : Int} {σ : Mem} (hf : f_X12_apart_15  x1 x2 σ = some o) : G p l e rm_X12_apart s m args below meth c 3 D ca ad A 0 0 (MQ below (Qi D ca ad A r0 σ0) args s 0 0 A) σ 15 [some (.ref (ad 120)), some (.int (iI x1)), some (.int (iI x2))] [] := by
  unfold f_X12_apart_15 at hf
  refine g_iload_n (i := 2) C dX12_apart_15 rfl rfl ?_
  refine g_aload_n (i := 0) C dX12_apart_16 rfl rfl ?_
  obtain ⟨r6, σ5, h7, hf⟩ := ob_inv hf
  refine g_callVi C (c_X12_fits  h7) (cwV 0 C.2.2.2.2.1 gX12_apart_X12_fits rfl rfl rfl (by decide +kernel) ⟨Nat.le_of_ble_eq_true rfl, Nat.le_of_ble_eq_true rfl⟩) ob_X12 rfl rfl rfl rfl (Nat.le_of_ble_eq_true rfl) dX12_apart_17 ⟨Nat.zero_le _, Nat.zero_le _⟩ ?_
  refine g_icmp_ge (tgt := 64) C dX12_apart_20 (by decide) rfl rfl (fun c8 => ?_) (fun c8 => ?_)
  · have hf := if_t c8 hf
    exact g_mask [false, true, false] (he _ _ (Option.some.inj hf).symm)
  · have hf := if_f c8 hf
    refine g_aload_n (i := 0) C dX12_apart_23 rfl rfl ?_
    refine g_iload_n (i := 2) C dX12_apart_24 rfl rfl ?_
    obtain ⟨r10, σ9, h11, hf⟩ := ob_inv hf
    refine g_callVi C (c_X12_isApart  h11) (cwV 1 C.2.2.2.2.1 gX12_apart_X12_isApart rfl rfl rfl (by decide +kernel) ⟨Nat.le_of_ble_eq_true rfl, Nat.le_of_ble_eq_true rfl⟩) ob_X12 rfl rfl rfl rfl (Nat.le_of_ble_eq_true rfl) dX12_apart_25 ⟨Nat.zero_le _, Nat.zero_le _⟩ ?_
    refine g_if_eq (tgt := 58) C dX12_apart_28 (by decide) rfl (fun c12 => ?_) (fun c12 => ?_)
    · have hf := if_t c12 hf
      refine g_iinc C dX12_apart_58 rfl (by decide) rfl ?_
      refine g_goto (tgt := 15) C dX12_apart_61 (by decide) ?_
      exact g_mask [true, true, true] (hc _ _ _ (Option.some.inj hf).symm)
    · have hf := if_f c12 hf
      refine g_aload_n (i := 0) C dX12_apart_31 rfl rfl ?_
      refine g_iload_n (i := 2) C dX12_apart_32 rfl rfl ?_
      obtain ⟨r14, σ13, h15, hf⟩ := ob_inv hf
      refine g_callVi C (c_X12_isSure  h15) (cwV 1 C.2.2.2.2.1 gX12_apart_X12_isSure rfl rfl rfl (by decide +kernel) ⟨Nat.le_of_ble_eq_true rfl, Nat.le_of_ble_eq_true rfl⟩) ob_X12 rfl rfl rfl rfl (Nat.le_of_ble_eq_true rfl) dX12_apart_33 ⟨Nat.zero_le _, Nat.zero_le _⟩ ?_
      refine g_if_eq (tgt := 58) C dX12_apart_36 (by decide) rfl (fun c16 => ?_) (fun c16 => ?_)
      · have hf := if_t c16 hf
        refine g_iinc C dX12_apart_58 rfl (by decide) rfl ?_
        refine g_goto (tgt := 15) C dX12_apart_61 (by decide) ?_
        exact g_mask [true, true, true] (hc _ _ _ (Option.some.inj hf).symm)
      · have hf := if_f c16 hf
        refine g_iload_n (i := 1) C dX12_apart_39 rfl rfl ?_
        refine g_if_lt (tgt := 56) C dX12_apart_40 (by decide) rfl (fun c17 => ?_) (fun c17 => ?_)
        · have hf := if_t c17 hf
          refine g_iload_n (i := 2) C dX12_apart_56 rfl rfl ?_
          refine g_istore_n (i := 1) C dX12_apart_57 rfl (by decide) rfl ?_
          refine g_iinc C dX12_apart_58 rfl (by decide) rfl ?_
          refine g_goto (tgt := 15) C dX12_apart_61 (by decide) ?_
          exact g_mask [true, true, true] (hc _ _ _ (Option.some.inj hf).symm)
        · have hf := if_f c17 hf
          refine g_aload_n (i := 0) C dX12_apart_43 rfl rfl ?_
          refine g_iload_n (i := 2) C dX12_apart_44 rfl rfl ?_
          obtain ⟨r19, σ18, h20, hf⟩ := ob_inv hf
          refine g_callVi C (c_X12_wasteOf  h20) (cwV 1 C.2.2.2.2.1 gX12_apart_X12_wasteOf rfl rfl rfl (by decide +kernel) ⟨Nat.le_of_ble_eq_true rfl, Nat.le_of_ble_eq_true rfl⟩) ob_X12 rfl rfl rfl rfl (Nat.le_of_ble_eq_true rfl) dX12_apart_45 ⟨Nat.zero_le _, Nat.zero_le _⟩ ?_
          refine g_aload_n (i := 0) C dX12_apart_48 rfl rfl ?_
          refine g_iload_n (i := 1) C dX12_apart_49 rfl rfl ?_
          obtain ⟨r22, σ21, h23, hf⟩ := ob_inv hf
          refine g_callVi C (c_X12_wasteOf  h23) (cwV 1 C.2.2.2.2.1 gX12_apart_X12_wasteOf rfl rfl rfl (by decide +kernel) ⟨Nat.le_of_ble_eq_true rfl, Nat.le_of_ble_eq_true rfl⟩) ob_X12 rfl rfl rfl rfl (Nat.le_of_ble_eq_true rfl) dX12_apart_50 ⟨Nat.zero_le _, Nat.zero_le _⟩ ?_
          refine g_icmp_ge (tgt := 58) C dX12_apart_53 (by decide) rfl rfl (fun c24 => ?_) (fun c24 => ?_)
          · have hf := if_t c24 hf
            refine g_iinc C dX12_apart_58 rfl (by decide) rfl ?_
            refine g_goto (tgt := 15) C dX12_apart_61 (by decide) ?_
            exact g_mask [true, true, true] (hc _ _ _ (Option.some.inj hf).symm)
          · have hf := if_f c24 hf
            refine g_iload_n (i := 2) C dX12_apart_56 rfl rfl ?_
            refine g_istore_n (i := 1) C dX12_apart_57 rfl (by decide) rfl ?_
            refine g_iinc C dX12_apart_58 rfl (by decide) rfl ?_
            refine g_goto (tgt := 15) C dX12_apart_61 (by decide) ?_
            exact g_mask [true, true, true] (hc _ _ _ (Option.some.inj hf).symm)
set_option maxHeartbeats 4000000 in
set_option maxRecDepth 100000 in
theorem w_X12_apart_15 (C : Cx p s m args c cX12_apart 3 RX12 wsX12_apart D ca A) (hr : meth.sig.returnType = (some .int)) (hlk : meth.locks = false) {n : Nat} {x1 x2 : Int} {σ : Mem} {b : (Int × Mem)} (h : itr (fun z : Int × Int × Mem => f_X12_apart_15  z.1 z.2.1 z.2.2) n (x1, x2, σ) = some b) (he : ∀ (y1 : Int) (σ : Mem), b = (y1, σ) → G p l e rm_X12_apart s m args below meth c 3 D ca ad A 0 0 (MQ below (Qi D ca ad A r0 σ0) args s 0 0 A) σ 64 [none, some (.int (iI y1)), none] []) : G p l e rm_X12_apart s m args below meth c 3 D ca ad A 0 0 (MQ below (Qi D ca ad A r0 σ0) args s 0 0 A) σ 15 [some (.ref (ad 120)), some (.int (iI x1)), some (.int (iI x2))] [] :=
  itr_rule (P := fun z : Int × Int × Mem => G p l e rm_X12_apart s m args below meth c 3 D ca ad A 0 0 (MQ below (Qi D ca ad A r0 σ0) args s 0 0 A) z.2.2 15 [some (.ref (ad 120)), some (.int (iI z.1)), some (.int (iI z.2.1))] []) (E := fun b => ∀ (y1 : Int) (σ : Mem), b = (y1, σ) → G p l e rm_X12_apart s m args below meth c 3 D ca ad A 0 0 (MQ below (Qi D ca ad A r0 σ0) args s 0 0 A) σ 64 [none, some (.int (iI y1)), none] []) (fun z o hb hc he => it_X12_apart_15 C hr hlk (fun _ _ _ e => hc _ e) (fun _ _ e => (he _ e) _ _ rfl) hb) n _ _ h he
set_option maxHeartbeats 4000000 in
set_option maxRecDepth 100000 in
theorem c_X12_apart {σ : Mem} (hf : f_X12_apart  σ = some (r0, σ0)) : CTi l D ca ad A yX12_apart wsX12_apart rm_X12_apart [.ref (ad 120)] σ r0 σ0 := by
  refine ct_i (cc := cX12_apart) (own := RX12) (maxL := 3) (ret := (some .int)) (lv0 := [some (.ref (ad 120)), none, none]) (by decide) rfl rfl rfl (Nat.le_of_ble_eq_true rfl) ?_
  intro p e s m below meth c C hr hlk hnm
  unfold f_X12_apart at hf
  refine g_aload_n (i := 0) C dX12_apart_0 rfl rfl ?_
  obtain ⟨r2, σ1, h3, hf⟩ := ob_inv hf
  refine g_callVi C (c_X12_isOpen  h3) (cwV 0 C.2.2.2.2.1 gX12_apart_X12_isOpen rfl rfl rfl (by decide +kernel) ⟨Nat.le_of_ble_eq_true rfl, Nat.le_of_ble_eq_true rfl⟩) ob_X12 rfl rfl rfl rfl (Nat.le_of_ble_eq_true rfl) dX12_apart_1 ⟨Nat.zero_le _, Nat.zero_le _⟩ ?_
  refine g_if_ne (tgt := 10) C dX12_apart_4 (by decide) rfl (fun c4 => ?_) (fun c4 => ?_)
  · have hf := if_f c4 hf
    refine g_bipush C dX12_apart_10 (by decide) ?_
    refine g_istore_n (i := 1) C dX12_apart_12 rfl (by decide) rfl ?_
    refine g_iconst C dX12_apart_13 ?_
    refine g_istore_n (i := 2) C dX12_apart_14 rfl (by decide) rfl ?_
    obtain ⟨q25, hl26, hf⟩ := lb_inv hf
    refine g_mask [true, true, true] (w_X12_apart_15 C hr hlk hl26 ?_)
    · rintro y27 σ28 rfl
      refine g_iload_n (i := 1) C dX12_apart_64 rfl rfl ?_
      obtain ⟨e1, e2⟩ := some_inv hf
      exact g_iret C hr hlk e1 e2 dX12_apart_65
  · have hf := if_t c4 hf
    refine g_bipush C dX12_apart_7 (by decide) ?_
    obtain ⟨e1, e2⟩ := some_inv hf
    exact g_iret C hr hlk e1 e2 dX12_apart_9
/-! X12_justNot -/
abbrev rm_X12_justNot : Room := { frames := 5, cells := 0, slots := 0, locals := 119 }
theorem hiX12_justNot_X12 : ∀ w ∈ u_ws RX12 TX12 24, w ∈ wsX12_justNot := fun _ h => (List.mem_cons_of_mem _ (List.mem_append_right _ h))
set_option maxHeartbeats 4000000 in
set_option maxRecDepth 100000 in
theorem it_X12_justNot_81 (C : Cx p s m args c cX12_justNot 15 RX12 wsX12_justNot D ca A) (hr : meth.sig.returnType = (some .int)) (hlk : meth.locks = false) {p1 p7 p8 p10 : Int} {o : (Int × Int × Int × Int × Mem) ⊕ (Int × Int × Int × Mem)} (hc : ∀ (x2 x3 x5 x12 : Int) (σ : Mem), o = .inl (x2, x3, x5, x12, σ) → G p l e rm_X12_justNot s m args below meth c 15 D ca ad A 0 0 (MQ below (Qi D ca ad A r0 σ0) args s 0 0 A) σ 81 [some (.ref (ad 120)), some (.int (iI p1)), some (.int (iI x2)), some (.long (lI x3)), none, some (.long (lI x5)), none, some (.int (iI p7)), some (.long (lI p8)), none, some (.long (lI p10)), none, some (.int (iI x12)), none, none] []) (he : ∀ (y2 y3 y5 : Int) (σ : Mem), o = .inr (y2, y3, y5, σ) → G p l e rm_X12_justNot s m args below meth c 15 D ca ad A 0 0 (MQ below (Qi D ca ad A r0 σ0) args s 0 0 A) σ 194 [some (.ref (ad 120)), some (.int (iI p1)), some (.int (iI y2)), some (.long (lI y3)), none, some (.long (lI y5)), none, some (.int (iI p7)), none, none, none, none, none, none, none] []) {x2 x3 x5 x12 : Int} {σ : Mem} (hf : f_X12_justNot_81 p1 p7 p8 p10 x2 x3 x5 x12 σ = some o) : G p l e rm_X12_justNot s m args below meth c 15 D ca ad A 0 0 (MQ below (Qi D ca ad A r0 σ0) args s 0 0 A) σ 81 [some (.ref (ad 120)), some (.int (iI p1)), some (.int (iI x2)), some (.long (lI x3)), none, some (.long (lI x5)), none, some (.int (iI p7)), some (.long (lI p8)), none, some (.long (lI p10)), none, some (.int (iI x12)), none, none] [] := by
  unfold f_X12_justNot_81 at hf
  refine g_iload C dX12_justNot_81 rfl ?_
  refine g_iconst C dX12_justNot_83 ?_
  refine g_icmp_gt (b' := 4) (tgt := 194) C dX12_justNot_84 (by decide) rfl (by decide) (fun c20 => ?_) (fun c20 => ?_)
  · have hf := if_t c20 hf
    exact g_mask [true, true, true, true, false, true, false, true, false, false, false, false, false, false, false] (he _ _ _ _ (Option.some.inj hf).symm)
  · have hf := if_f c20 hf
    refine g_iload C dX12_justNot_87 rfl ?_
    refine g_iload_n (i := 1) C dX12_justNot_89 rfl rfl ?_
    refine g_iload C dX12_justNot_90 rfl ?_
    obtain ⟨r22, σ21, h23, hf⟩ := ob_inv hf
    refine g_callSi C (c_X12_made  h23) (va_cwS 2 C.2.2.2.2.1 gX12_justNot_X12_made rfl rfl rfl (by decide +kernel) ⟨Nat.le_of_ble_eq_true rfl, Nat.le_of_ble_eq_true rfl⟩) rfl rfl (Nat.le_of_ble_eq_true rfl) dX12_justNot_92 ⟨Nat.zero_le _, Nat.zero_le _⟩ ?_
    refine g_icmp_eq (tgt := 188) C dX12_justNot_95 (by decide) rfl rfl (fun c24 => ?_) (fun c24 => ?_)
    · have hf := if_t c24 hf
      refine g_iinc C dX12_justNot_188 rfl (by decide) rfl ?_
      refine g_goto (tgt := 81) C dX12_justNot_191 (by decide) ?_
      exact g_mask [true, true, true, true, false, true, false, true, true, false, true, false, true, false, false] (hc _ _ _ _ _ (Option.some.inj hf).symm)
    · have hf := if_f c24 hf
      refine g_iload C dX12_justNot_98 rfl ?_
      refine g_iconst C dX12_justNot_100 ?_
      refine g_icmp_eq (b' := 4) (tgt := 116) C dX12_justNot_101 (by decide) rfl (by decide) (fun c25 => ?_) (fun c25 => ?_)
      · have hf := if_t c25 hf
        refine g_aload_n (i := 0) C dX12_justNot_116 rfl rfl ?_
        refine g_iload_n (i := 1) C dX12_justNot_117 rfl rfl ?_
        refine g_iload C dX12_justNot_118 rfl ?_
        refine g_iload C dX12_justNot_120 rfl ?_
        obtain ⟨r27, σ26, h28, hf⟩ := ob_inv hf
        refine g_callVv C (c_X12_findGets  h28) (cwV 3 C.2.2.2.2.1 gX12_justNot_X12_findGets rfl rfl rfl (by decide +kernel) ⟨Nat.le_of_ble_eq_true rfl, Nat.le_of_ble_eq_true rfl⟩) ob_X12 rfl rfl rfl rfl (Nat.le_of_ble_eq_true rfl) dX12_justNot_122 ⟨Nat.zero_le _, Nat.zero_le _⟩ ?_
        refine g_lload C dX12_justNot_125 rfl ?_
        refine g_aload_n (i := 0) C dX12_justNot_127 rfl rfl ?_
        refine gg_X12_below (i := 3) C hiX12_justNot_X12 rfl dX12_justNot_128 ?_
        refine g_lmul C dX12_justNot_131 ?_
        refine g_aload_n (i := 0) C dX12_justNot_132 rfl rfl ?_
        refine gg_X12_above (i := 2) C hiX12_justNot_X12 rfl dX12_justNot_133 ?_
        refine g_lload C dX12_justNot_136 rfl ?_
        refine g_lmul C dX12_justNot_138 ?_
        refine g_lsub C dX12_justNot_139 ?_
        refine g_lstore C dX12_justNot_140 (by decide) rfl ?_
        refine g_iload_n (i := 2) C dX12_justNot_142 rfl rfl ?_
        refine g_if_lt (tgt := 167) C dX12_justNot_143 (by decide) rfl (fun c30 => ?_) (fun c30 => ?_)
        · have hf := if_t c30 hf
          refine g_bipush C dX12_justNot_167 (by decide) ?_
          refine g_iload C dX12_justNot_169 rfl ?_
          refine g_imul C dX12_justNot_171 ?_
          refine g_iload C dX12_justNot_172 rfl ?_
          refine g_iadd C dX12_justNot_174 ?_
          refine g_istore_n (i := 2) C dX12_justNot_175 rfl (by decide) rfl ?_
          refine g_lload C dX12_justNot_176 rfl ?_
          refine g_lstore_n (i := 3) C dX12_justNot_178 rfl (by decide) rfl ?_
          refine g_lload C dX12_justNot_179 rfl ?_
          refine g_aload_n (i := 0) C dX12_justNot_181 rfl rfl ?_
          refine gg_X12_below (i := 3) C hiX12_justNot_X12 rfl dX12_justNot_182 ?_
          refine g_lmul C dX12_justNot_185 ?_
          refine g_lstore C dX12_justNot_186 (by decide) rfl ?_
          refine g_iinc C dX12_justNot_188 rfl (by decide) rfl ?_
          refine g_goto (tgt := 81) C dX12_justNot_191 (by decide) ?_
          exact g_mask [true, true, true, true, false, true, false, true, true, false, true, false, true, false, false] (hc _ _ _ _ _ (Option.some.inj hf).symm)
        · have hf := if_f c30 hf
          refine g_lload C dX12_justNot_146 rfl ?_
          refine g_lload C dX12_justNot_148 rfl ?_
          refine g_lmul C dX12_justNot_150 ?_
          refine g_lload_n (i := 3) C dX12_justNot_151 rfl rfl ?_
          refine g_lload C dX12_justNot_152 rfl ?_
          refine g_aload_n (i := 0) C dX12_justNot_154 rfl rfl ?_
          refine gg_X12_below (i := 3) C hiX12_justNot_X12 rfl dX12_justNot_155 ?_
          refine g_lmul C dX12_justNot_158 ?_
          refine g_lmul C dX12_justNot_159 ?_
          refine g_lcmp_lt (tgt := 167) C dX12_justNot_160 dX12_justNot_161 (by decide) rfl rfl (fun c33 => ?_) (fun c33 => ?_)
          · have hf := if_t c33 hf
            refine g_bipush C dX12_justNot_167 (by decide) ?_
            refine g_iload C dX12_justNot_169 rfl ?_
            refine g_imul C dX12_justNot_171 ?_
            refine g_iload C dX12_justNot_172 rfl ?_
            refine g_iadd C dX12_justNot_174 ?_
            refine g_istore_n (i := 2) C dX12_justNot_175 rfl (by decide) rfl ?_
            refine g_lload C dX12_justNot_176 rfl ?_
            refine g_lstore_n (i := 3) C dX12_justNot_178 rfl (by decide) rfl ?_
            refine g_lload C dX12_justNot_179 rfl ?_
            refine g_aload_n (i := 0) C dX12_justNot_181 rfl rfl ?_
            refine gg_X12_below (i := 3) C hiX12_justNot_X12 rfl dX12_justNot_182 ?_
            refine g_lmul C dX12_justNot_185 ?_
            refine g_lstore C dX12_justNot_186 (by decide) rfl ?_
            refine g_iinc C dX12_justNot_188 rfl (by decide) rfl ?_
            refine g_goto (tgt := 81) C dX12_justNot_191 (by decide) ?_
            exact g_mask [true, true, true, true, false, true, false, true, true, false, true, false, true, false, false] (hc _ _ _ _ _ (Option.some.inj hf).symm)
          · have hf := if_f c33 hf
            refine g_goto (tgt := 188) C dX12_justNot_164 (by decide) ?_
            refine g_iinc C dX12_justNot_188 rfl (by decide) rfl ?_
            refine g_goto (tgt := 81) C dX12_justNot_191 (by decide) ?_
            exact g_mask [true, true, true, true, false, true, false, true, true, false, true, false, true, false, false] (hc _ _ _ _ _ (Option.some.inj hf).symm)
      · have hf := if_f c25 hf
        refine g_aload_n (i := 0) C dX12_justNot_104 rfl rfl ?_
        refine g_iload C dX12_justNot_105 rfl ?_
        obtain ⟨r37, σ36, h38, hf⟩ := ob_inv hf
        refine g_callVi C (c_X12_isMark  h38) (cwV 1 C.2.2.2.2.1 gX12_justNot_X12_isMark rfl rfl rfl (by decide +kernel) ⟨Nat.le_of_ble_eq_true rfl, Nat.le_of_ble_eq_true rfl⟩) ob_X12 rfl rfl rfl rfl (Nat.le_of_ble_eq_true rfl) dX12_justNot_107 ⟨Nat.zero_le _, Nat.zero_le _⟩ ?_
        refine g_if_ne (tgt := 116) C dX12_justNot_110 (by decide) rfl (fun c39 => ?_) (fun c39 => ?_)
        · have hf := if_f c39 hf
          refine g_aload_n (i := 0) C dX12_justNot_116 rfl rfl ?_
          refine g_iload_n (i := 1) C dX12_justNot_117 rfl rfl ?_
          refine g_iload C dX12_justNot_118 rfl ?_
          refine g_iload C dX12_justNot_120 rfl ?_
          obtain ⟨r41, σ40, h42, hf⟩ := ob_inv hf
          refine g_callVv C (c_X12_findGets  h42) (cwV 3 C.2.2.2.2.1 gX12_justNot_X12_findGets rfl rfl rfl (by decide +kernel) ⟨Nat.le_of_ble_eq_true rfl, Nat.le_of_ble_eq_true rfl⟩) ob_X12 rfl rfl rfl rfl (Nat.le_of_ble_eq_true rfl) dX12_justNot_122 ⟨Nat.zero_le _, Nat.zero_le _⟩ ?_
          refine g_lload C dX12_justNot_125 rfl ?_
          refine g_aload_n (i := 0) C dX12_justNot_127 rfl rfl ?_
          refine gg_X12_below (i := 3) C hiX12_justNot_X12 rfl dX12_justNot_128 ?_
          refine g_lmul C dX12_justNot_131 ?_
          refine g_aload_n (i := 0) C dX12_justNot_132 rfl rfl ?_
          refine gg_X12_above (i := 2) C hiX12_justNot_X12 rfl dX12_justNot_133 ?_
          refine g_lload C dX12_justNot_136 rfl ?_
          refine g_lmul C dX12_justNot_138 ?_
          refine g_lsub C dX12_justNot_139 ?_
          refine g_lstore C dX12_justNot_140 (by decide) rfl ?_
          refine g_iload_n (i := 2) C dX12_justNot_142 rfl rfl ?_
          refine g_if_lt (tgt := 167) C dX12_justNot_143 (by decide) rfl (fun c44 => ?_) (fun c44 => ?_)
          · have hf := if_t c44 hf
            refine g_bipush C dX12_justNot_167 (by decide) ?_
            refine g_iload C dX12_justNot_169 rfl ?_
            refine g_imul C dX12_justNot_171 ?_
            refine g_iload C dX12_justNot_172 rfl ?_
            refine g_iadd C dX12_justNot_174 ?_
            refine g_istore_n (i := 2) C dX12_justNot_175 rfl (by decide) rfl ?_
            refine g_lload C dX12_justNot_176 rfl ?_
            refine g_lstore_n (i := 3) C dX12_justNot_178 rfl (by decide) rfl ?_
            refine g_lload C dX12_justNot_179 rfl ?_
            refine g_aload_n (i := 0) C dX12_justNot_181 rfl rfl ?_
            refine gg_X12_below (i := 3) C hiX12_justNot_X12 rfl dX12_justNot_182 ?_
            refine g_lmul C dX12_justNot_185 ?_
            refine g_lstore C dX12_justNot_186 (by decide) rfl ?_
            refine g_iinc C dX12_justNot_188 rfl (by decide) rfl ?_
            refine g_goto (tgt := 81) C dX12_justNot_191 (by decide) ?_
            exact g_mask [true, true, true, true, false, true, false, true, true, false, true, false, true, false, false] (hc _ _ _ _ _ (Option.some.inj hf).symm)
          · have hf := if_f c44 hf
            refine g_lload C dX12_justNot_146 rfl ?_
            refine g_lload C dX12_justNot_148 rfl ?_
            refine g_lmul C dX12_justNot_150 ?_
            refine g_lload_n (i := 3) C dX12_justNot_151 rfl rfl ?_
            refine g_lload C dX12_justNot_152 rfl ?_
            refine g_aload_n (i := 0) C dX12_justNot_154 rfl rfl ?_
            refine gg_X12_below (i := 3) C hiX12_justNot_X12 rfl dX12_justNot_155 ?_
            refine g_lmul C dX12_justNot_158 ?_
            refine g_lmul C dX12_justNot_159 ?_
            refine g_lcmp_lt (tgt := 167) C dX12_justNot_160 dX12_justNot_161 (by decide) rfl rfl (fun c47 => ?_) (fun c47 => ?_)
            · have hf := if_t c47 hf
              refine g_bipush C dX12_justNot_167 (by decide) ?_
              refine g_iload C dX12_justNot_169 rfl ?_
              refine g_imul C dX12_justNot_171 ?_
              refine g_iload C dX12_justNot_172 rfl ?_
              refine g_iadd C dX12_justNot_174 ?_
              refine g_istore_n (i := 2) C dX12_justNot_175 rfl (by decide) rfl ?_
              refine g_lload C dX12_justNot_176 rfl ?_
              refine g_lstore_n (i := 3) C dX12_justNot_178 rfl (by decide) rfl ?_
              refine g_lload C dX12_justNot_179 rfl ?_
              refine g_aload_n (i := 0) C dX12_justNot_181 rfl rfl ?_
              refine gg_X12_below (i := 3) C hiX12_justNot_X12 rfl dX12_justNot_182 ?_
              refine g_lmul C dX12_justNot_185 ?_
              refine g_lstore C dX12_justNot_186 (by decide) rfl ?_
              refine g_iinc C dX12_justNot_188 rfl (by decide) rfl ?_
              refine g_goto (tgt := 81) C dX12_justNot_191 (by decide) ?_
              exact g_mask [true, true, true, true, false, true, false, true, true, false, true, false, true, false, false] (hc _ _ _ _ _ (Option.some.inj hf).symm)
            · have hf := if_f c47 hf
              refine g_goto (tgt := 188) C dX12_justNot_164 (by decide) ?_
              refine g_iinc C dX12_justNot_188 rfl (by decide) rfl ?_
              refine g_goto (tgt := 81) C dX12_justNot_191 (by decide) ?_
              exact g_mask [true, true, true, true, false, true, false, true, true, false, true, false, true, false, false] (hc _ _ _ _ _ (Option.some.inj hf).symm)
        · have hf := if_t c39 hf
          refine g_goto (tgt := 188) C dX12_justNot_113 (by decide) ?_
          refine g_iinc C dX12_justNot_188 rfl (by decide) rfl ?_
          refine g_goto (tgt := 81) C dX12_justNot_191 (by decide) ?_
          exact g_mask [true, true, true, true, false, true, false, true, true, false, true, false, true, false, false] (hc _ _ _ _ _ (Option.some.inj hf).symm)
set_option maxHeartbeats 4000000 in
set_option maxRecDepth 100000 in
theorem w_X12_justNot_81 (C : Cx p s m args c cX12_justNot 15 RX12 wsX12_justNot D ca A) (hr : meth.sig.returnType = (some .int)) (hlk : meth.locks = false) {p1 p7 p8 p10 : Int} {n : Nat} {x2 x3 x5 x12 : Int} {σ : Mem} {b : (Int × Int × Int × Mem)} (h : itr (fun z : Int × Int × Int × Int × Mem => f_X12_justNot_81 p1 p7 p8 p10 z.1 z.2.1 z.2.2.1 z.2.2.2.1 z.2.2.2.2) n (x2, x3, x5, x12, σ) = some b) (he : ∀ (y2 y3 y5 : Int) (σ : Mem), b = (y2, y3, y5, σ) → G p l e rm_X12_justNot s m args below meth c 15 D ca ad A 0 0 (MQ below (Qi D ca ad A r0 σ0) args s 0 0 A) σ 194 [some (.ref (ad 120)), some (.int (iI p1)), some (.int (iI y2)), some (.long (lI y3)), none, some (.long (lI y5)), none, some (.int (iI p7)), none, none, none, none, none, none, none] []) : G p l e rm_X12_justNot s m args below meth c 15 D ca ad A 0 0 (MQ below (Qi D ca ad A r0 σ0) args s 0 0 A) σ 81 [some (.ref (ad 120)), some (.int (iI p1)), some (.int (iI x2)), some (.long (lI x3)), none, some (.long (lI x5)), none, some (.int (iI p7)), some (.long (lI p8)), none, some (.long (lI p10)), none, some (.int (iI x12)), none, none] [] :=
  itr_rule (P := fun z : Int × Int × Int × Int × Mem => G p l e rm_X12_justNot s m args below meth c 15 D ca ad A 0 0 (MQ below (Qi D ca ad A r0 σ0) args s 0 0 A) z.2.2.2.2 81 [some (.ref (ad 120)), some (.int (iI p1)), some (.int (iI z.1)), some (.long (lI z.2.1)), none, some (.long (lI z.2.2.1)), none, some (.int (iI p7)), some (.long (lI p8)), none, some (.long (lI p10)), none, some (.int (iI z.2.2.2.1)), none, none] []) (E := fun b => ∀ (y2 y3 y5 : Int) (σ : Mem), b = (y2, y3, y5, σ) → G p l e rm_X12_justNot s m args below meth c 15 D ca ad A 0 0 (MQ below (Qi D ca ad A r0 σ0) args s 0 0 A) σ 194 [some (.ref (ad 120)), some (.int (iI p1)), some (.int (iI y2)), some (.long (lI y3)), none, some (.long (lI y5)), none, some (.int (iI p7)), none, none, none, none, none, none, none] []) (fun z o hb hc he => it_X12_justNot_81 C hr hlk (fun _ _ _ _ _ e => hc _ e) (fun _ _ _ _ e => (he _ e) _ _ _ _ rfl) hb) n _ _ h he
set_option maxHeartbeats 4000000 in
set_option maxRecDepth 100000 in
theorem it_X12_justNot_42 (C : Cx p s m args c cX12_justNot 15 RX12 wsX12_justNot D ca A) (hr : meth.sig.returnType = (some .int)) (hlk : meth.locks = false) {p1 : Int} {o : (Int × Int × Int × Int × Mem) ⊕ (Int × Mem)} (hc : ∀ (x2 x3 x5 x7 : Int) (σ : Mem), o = .inl (x2, x3, x5, x7, σ) → G p l e rm_X12_justNot s m args below meth c 15 D ca ad A 0 0 (MQ below (Qi D ca ad A r0 σ0) args s 0 0 A) σ 42 [some (.ref (ad 120)), some (.int (iI p1)), some (.int (iI x2)), some (.long (lI x3)), none, some (.long (lI x5)), none, some (.int (iI x7)), none, none, none, none, none, none, none] []) (he : ∀ (y2 : Int) (σ : Mem), o = .inr (y2, σ) → G p l e rm_X12_justNot s m args below meth c 15 D ca ad A 0 0 (MQ below (Qi D ca ad A r0 σ0) args s 0 0 A) σ 200 [none, none, some (.int (iI y2)), none, none, none, none, none, none, none, none, none, none, none, none] []) {x2 x3 x5 x7 : Int} {σ : Mem} (hf : f_X12_justNot_42 p1 x2 x3 x5 x7 σ = some o) : G p l e rm_X12_justNot s m args below meth c 15 D ca ad A 0 0 (MQ below (Qi D ca ad A r0 σ0) args s 0 0 A) σ 42 [some (.ref (ad 120)), some (.int (iI p1)), some (.int (iI x2)), some (.long (lI x3)), none, some (.long (lI x5)), none, some (.int (iI x7)), none, none, none, none, none, none, none] [] := by
  unfold f_X12_justNot_42 at hf
  refine g_iload C dX12_justNot_42 rfl ?_
  refine g_aload_n (i := 0) C dX12_justNot_44 rfl rfl ?_
  refine gg_X12_s (i := 1) C hiX12_justNot_X12 rfl dX12_justNot_45 ?_
  refine g_iconst C dX12_justNot_48 ?_
  refine g_iaload (N := 39) (j := 0) C (by decide) dX12_justNot_49 (by decide) (by decide) ?_
  refine g_icmp_ge (tgt := 200) C dX12_justNot_50 (by decide) rfl rfl (fun c13 => ?_) (fun c13 => ?_)
  · have hf := if_t c13 hf
    exact g_mask [false, false, true, false, false, false, false, false, false, false, false, false, false, false, false] (he _ _ (Option.some.inj hf).symm)
  · have hf := if_f c13 hf
    refine g_aload_n (i := 0) C dX12_justNot_53 rfl rfl ?_
    refine g_iload_n (i := 1) C dX12_justNot_54 rfl rfl ?_
    refine g_iload C dX12_justNot_55 rfl ?_
    refine g_iload_n (i := 1) C dX12_justNot_57 rfl rfl ?_
    refine g_iload C dX12_justNot_58 rfl ?_
    obtain ⟨r15, σ14, h16, hf⟩ := ob_inv hf
    refine g_callSi C (c_X12_made  h16) (va_cwS 2 C.2.2.2.2.1 gX12_justNot_X12_made rfl rfl rfl (by decide +kernel) ⟨Nat.le_of_ble_eq_true rfl, Nat.le_of_ble_eq_true rfl⟩) rfl rfl (Nat.le_of_ble_eq_true rfl) dX12_justNot_60 ⟨Nat.zero_le _, Nat.zero_le _⟩ ?_
    obtain ⟨r18, σ17, h19, hf⟩ := ob_inv hf
    refine g_callVv C (c_X12_findGets  h19) (cwV 3 C.2.2.2.2.1 gX12_justNot_X12_findGets rfl rfl rfl (by decide +kernel) ⟨Nat.le_of_ble_eq_true rfl, Nat.le_of_ble_eq_true rfl⟩) ob_X12 rfl rfl rfl rfl (Nat.le_of_ble_eq_true rfl) dX12_justNot_63 ⟨Nat.zero_le _, Nat.zero_le _⟩ ?_
    refine g_aload_n (i := 0) C dX12_justNot_66 rfl rfl ?_
    refine gg_X12_above (i := 2) C hiX12_justNot_X12 rfl dX12_justNot_67 ?_
    refine g_lstore C dX12_justNot_70 (by decide) rfl ?_
    refine g_aload_n (i := 0) C dX12_justNot_72 rfl rfl ?_
    refine gg_X12_below (i := 3) C hiX12_justNot_X12 rfl dX12_justNot_73 ?_
    refine g_lstore C dX12_justNot_76 (by decide) rfl ?_
    refine g_iconst C dX12_justNot_78 ?_
    refine g_istore C dX12_justNot_79 (by decide) rfl ?_
    obtain ⟨q50, hl51, hf⟩ := lb_inv hf
    refine g_mask [true, true, true, true, false, true, false, true, true, false, true, false, true, false, false] (w_X12_justNot_81 C hr hlk hl51 ?_)
    · rintro y52 y53 y54 σ55 rfl
      refine g_iinc C dX12_justNot_194 rfl (by decide) rfl ?_
      refine g_goto (tgt := 42) C dX12_justNot_197 (by decide) ?_
      exact g_mask [true, true, true, true, false, true, false, true, false, false, false, false, false, false, false] (hc _ _ _ _ _ (Option.some.inj hf).symm)
set_option maxHeartbeats 4000000 in
set_option maxRecDepth 100000 in
theorem w_X12_justNot_42 (C : Cx p s m args c cX12_justNot 15 RX12 wsX12_justNot D ca A) (hr : meth.sig.returnType = (some .int)) (hlk : meth.locks = false) {p1 : Int} {n : Nat} {x2 x3 x5 x7 : Int} {σ : Mem} {b : (Int × Mem)} (h : itr (fun z : Int × Int × Int × Int × Mem => f_X12_justNot_42 p1 z.1 z.2.1 z.2.2.1 z.2.2.2.1 z.2.2.2.2) n (x2, x3, x5, x7, σ) = some b) (he : ∀ (y2 : Int) (σ : Mem), b = (y2, σ) → G p l e rm_X12_justNot s m args below meth c 15 D ca ad A 0 0 (MQ below (Qi D ca ad A r0 σ0) args s 0 0 A) σ 200 [none, none, some (.int (iI y2)), none, none, none, none, none, none, none, none, none, none, none, none] []) : G p l e rm_X12_justNot s m args below meth c 15 D ca ad A 0 0 (MQ below (Qi D ca ad A r0 σ0) args s 0 0 A) σ 42 [some (.ref (ad 120)), some (.int (iI p1)), some (.int (iI x2)), some (.long (lI x3)), none, some (.long (lI x5)), none, some (.int (iI x7)), none, none, none, none, none, none, none] [] :=
  itr_rule (P := fun z : Int × Int × Int × Int × Mem => G p l e rm_X12_justNot s m args below meth c 15 D ca ad A 0 0 (MQ below (Qi D ca ad A r0 σ0) args s 0 0 A) z.2.2.2.2 42 [some (.ref (ad 120)), some (.int (iI p1)), some (.int (iI z.1)), some (.long (lI z.2.1)), none, some (.long (lI z.2.2.1)), none, some (.int (iI z.2.2.2.1)), none, none, none, none, none, none, none] []) (E := fun b => ∀ (y2 : Int) (σ : Mem), b = (y2, σ) → G p l e rm_X12_justNot s m args below meth c 15 D ca ad A 0 0 (MQ below (Qi D ca ad A r0 σ0) args s 0 0 A) σ 200 [none, none, some (.int (iI y2)), none, none, none, none, none, none, none, none, none, none, none, none] []) (fun z o hb hc he => it_X12_justNot_42 C hr hlk (fun _ _ _ _ _ e => hc _ e) (fun _ _ e => (he _ e) _ _ rfl) hb) n _ _ h he
set_option maxHeartbeats 4000000 in
set_option maxRecDepth 100000 in
theorem c_X12_justNot {v1 : Int} {σ : Mem} (hf : f_X12_justNot v1 σ = some (r0, σ0)) : CTi l D ca ad A yX12_justNot wsX12_justNot rm_X12_justNot [.ref (ad 120), .int (iI v1)] σ r0 σ0 := by
  refine ct_i (cc := cX12_justNot) (own := RX12) (maxL := 15) (ret := (some .int)) (lv0 := [some (.ref (ad 120)), some (.int (iI v1)), none, none, none, none, none, none, none, none, none, none, none, none, none]) (by decide) rfl rfl rfl (Nat.le_of_ble_eq_true rfl) ?_
  intro p e s m below meth c C hr hlk hnm
  unfold f_X12_justNot at hf
  refine g_aload_n (i := 0) C dX12_justNot_0 rfl rfl ?_
  obtain ⟨r2, σ1, h3, hf⟩ := ob_inv hf
  refine g_callVi C (c_X12_isOpen  h3) (cwV 0 C.2.2.2.2.1 gX12_justNot_X12_isOpen rfl rfl rfl (by decide +kernel) ⟨Nat.le_of_ble_eq_true rfl, Nat.le_of_ble_eq_true rfl⟩) ob_X12 rfl rfl rfl rfl (Nat.le_of_ble_eq_true rfl) dX12_justNot_1 ⟨Nat.zero_le _, Nat.zero_le _⟩ ?_
  refine g_if_ne (tgt := 10) C dX12_justNot_4 (by decide) rfl (fun c4 => ?_) (fun c4 => ?_)
  · have hf := if_f c4 hf
    refine g_aload_n (i := 0) C dX12_justNot_10 rfl rfl ?_
    refine g_iload_n (i := 1) C dX12_justNot_11 rfl rfl ?_
    obtain ⟨r6, σ5, h7, hf⟩ := ob_inv hf
    refine g_callVi C (c_X12_isFit  h7) (cwV 1 C.2.2.2.2.1 gX12_justNot_X12_isFit rfl rfl rfl (by decide +kernel) ⟨Nat.le_of_ble_eq_true rfl, Nat.le_of_ble_eq_true rfl⟩) ob_X12 rfl rfl rfl rfl (Nat.le_of_ble_eq_true rfl) dX12_justNot_12 ⟨Nat.zero_le _, Nat.zero_le _⟩ ?_
    refine g_if_ne (tgt := 20) C dX12_justNot_15 (by decide) rfl (fun c8 => ?_) (fun c8 => ?_)
    · have hf := if_f c8 hf
      refine g_aload_n (i := 0) C dX12_justNot_20 rfl rfl ?_
      refine g_iload_n (i := 1) C dX12_justNot_21 rfl rfl ?_
      obtain ⟨r10, σ9, h11, hf⟩ := ob_inv hf
      refine g_callVi C (c_X12_isSure  h11) (cwV 1 C.2.2.2.2.1 gX12_justNot_X12_isSure rfl rfl rfl (by decide +kernel) ⟨Nat.le_of_ble_eq_true rfl, Nat.le_of_ble_eq_true rfl⟩) ob_X12 rfl rfl rfl rfl (Nat.le_of_ble_eq_true rfl) dX12_justNot_22 ⟨Nat.zero_le _, Nat.zero_le _⟩ ?_
      refine g_if_ne (tgt := 31) C dX12_justNot_25 (by decide) rfl (fun c12 => ?_) (fun c12 => ?_)
      · have hf := if_f c12 hf
        refine g_bipush C dX12_justNot_31 (by decide) ?_
        refine g_istore_n (i := 2) C dX12_justNot_33 rfl (by decide) rfl ?_
        refine g_lconst (z := 0) C dX12_justNot_34 (by decide) ?_
        refine g_lstore_n (i := 3) C dX12_justNot_35 rfl (by decide) rfl ?_
        refine g_lconst (z := 1) C dX12_justNot_36 (by decide) ?_
        refine g_lstore C dX12_justNot_37 (by decide) rfl ?_
        refine g_iconst C dX12_justNot_39 ?_
        refine g_istore C dX12_justNot_40 (by decide) rfl ?_
        obtain ⟨q56, hl57, hf⟩ := lb_inv hf
        refine g_mask [true, true, true, true, false, true, false, true, false, false, false, false, false, false, false] (w_X12_justNot_42 C hr hlk hl57 ?_)
        · rintro y58 σ59 rfl
          refine g_iload_n (i := 2) C dX12_justNot_200 rfl rfl ?_
          obtain ⟨e1, e2⟩ := some_inv hf
          exact g_iret C hr hlk e1 e2 dX12_justNot_201
      · have hf := if_t c12 hf
        refine g_bipush C dX12_justNot_28 (by decide) ?_
        obtain ⟨e1, e2⟩ := some_inv hf
        exact g_iret C hr hlk e1 e2 dX12_justNot_30
    · have hf := if_t c8 hf
      refine g_iconst C dX12_justNot_18 ?_
      obtain ⟨e1, e2⟩ := some_inv hf
      exact g_iret C hr hlk e1 e2 dX12_justNot_19
  · have hf := if_t c4 hf
    refine g_bipush C dX12_justNot_7 (by decide) ?_
    obtain ⟨e1, e2⟩ := some_inv hf
    exact g_iret C hr hlk e1 e2 dX12_justNot_9
/-! X12_findGain -/
abbrev rm_X12_findGain : Room := { frames := 3, cells := 0, slots := 0, locals := 71 }
theorem hiX12_findGain_X12 : ∀ w ∈ u_ws RX12 TX12 24, w ∈ wsX12_findGain := fun _ h => (List.mem_cons_of_mem _ (List.mem_append_right _ h))
set_option maxHeartbeats 4000000 in
set_option maxRecDepth 100000 in
theorem it_X12_findGain_41 (C : Cx p s m args c cX12_findGain 9 RX12 wsX12_findGain D ca A) (hr : meth.sig.returnType = none) (hlk : meth.locks = false) {p2 p6 : Int} {o : (Int × Int × Mem) ⊕ (Int × Mem)} (hc : ∀ (x4 x8 : Int) (σ : Mem), o = .inl (x4, x8, σ) → G p l e rm_X12_findGain s m args below meth c 9 D ca ad A 0 0 (MQ below (Qv D ca ad A σ0) args s 0 0 A) σ 41 [some (.ref (ad 120)), none, some (.int (iI p2)), none, some (.long (lI x4)), none, some (.long (lI p6)), none, some (.int (iI x8))] []) (he : ∀ (y4 : Int) (σ : Mem), o = .inr (y4, σ) → G p l e rm_X12_findGain s m args below meth c 9 D ca ad A 0 0 (MQ below (Qv D ca ad A σ0) args s 0 0 A) σ 85 [some (.ref (ad 120)), none, some (.int (iI p2)), none, some (.long (lI y4)), none, some (.long (lI p6)), none, none] []) {x4 x8 : Int} {σ : Mem} (hf : f_X12_findGain_41 p2 p6 x4 x8 σ = some o) : G p l e rm_X12_findGain s m args below meth c 9 D ca ad A 0 0 (MQ below (Qv D ca ad A σ0) args s 0 0 A) σ 41 [some (.ref (ad 120)), none, some (.int (iI p2)), none, some (.long (lI x4)), none, some (.long (lI p6)), none, some (.int (iI x8))] [] := by
  unfold f_X12_findGain_41 at hf
  refine g_iload C dX12_findGain_41 rfl ?_
  refine g_aload_n (i := 0) C dX12_findGain_43 rfl rfl ?_
  refine gg_X12_s (i := 1) C hiX12_findGain_X12 rfl dX12_findGain_44 ?_
  refine g_iconst C dX12_findGain_47 ?_
  refine g_iaload (N := 39) (j := 0) C (by decide) dX12_findGain_48 (by decide) (by decide) ?_
  refine g_icmp_ge (tgt := 85) C dX12_findGain_49 (by decide) rfl rfl (fun c17 => ?_) (fun c17 => ?_)
  · have hf := if_t c17 hf
    exact g_mask [true, false, true, false, true, false, true, false, false] (he _ _ (Option.some.inj hf).symm)
  · have hf := if_f c17 hf
    refine g_lload C dX12_findGain_52 rfl ?_
    refine g_aload_n (i := 0) C dX12_findGain_54 rfl rfl ?_
    refine gg_X12_s (i := 1) C hiX12_findGain_X12 rfl dX12_findGain_55 ?_
    refine g_iconst C dX12_findGain_58 ?_
    refine g_iload C dX12_findGain_59 rfl ?_
    refine g_iadd C dX12_findGain_61 ?_
    obtain ⟨hb18, hf⟩ := if_inv hf
    refine g_iaload (N := 39) C (by decide) dX12_findGain_62 rfl hb18 ?_
    refine g_i2l C dX12_findGain_63 rfl ?_
    refine g_aload_n (i := 0) C dX12_findGain_64 rfl rfl ?_
    refine gg_X12_s (i := 1) C hiX12_findGain_X12 rfl dX12_findGain_65 ?_
    refine g_bipush C dX12_findGain_68 (by decide) ?_
    refine g_iload C dX12_findGain_70 rfl ?_
    refine g_iadd C dX12_findGain_72 ?_
    obtain ⟨hb19, hf⟩ := if_inv hf
    refine g_iaload (N := 39) C (by decide) dX12_findGain_73 rfl hb19 ?_
    refine g_i2l C dX12_findGain_74 rfl ?_
    refine g_lmul C dX12_findGain_75 ?_
    refine g_ladd C dX12_findGain_76 ?_
    refine g_lstore C dX12_findGain_77 (by decide) rfl ?_
    refine g_iinc C dX12_findGain_79 rfl (by decide) rfl ?_
    refine g_goto (tgt := 41) C dX12_findGain_82 (by decide) ?_
    exact g_mask [true, false, true, false, true, false, true, false, true] (hc _ _ _ (Option.some.inj hf).symm)
set_option maxHeartbeats 4000000 in
set_option maxRecDepth 100000 in
theorem w_X12_findGain_41 (C : Cx p s m args c cX12_findGain 9 RX12 wsX12_findGain D ca A) (hr : meth.sig.returnType = none) (hlk : meth.locks = false) {p2 p6 : Int} {n : Nat} {x4 x8 : Int} {σ : Mem} {b : (Int × Mem)} (h : itr (fun z : Int × Int × Mem => f_X12_findGain_41 p2 p6 z.1 z.2.1 z.2.2) n (x4, x8, σ) = some b) (he : ∀ (y4 : Int) (σ : Mem), b = (y4, σ) → G p l e rm_X12_findGain s m args below meth c 9 D ca ad A 0 0 (MQ below (Qv D ca ad A σ0) args s 0 0 A) σ 85 [some (.ref (ad 120)), none, some (.int (iI p2)), none, some (.long (lI y4)), none, some (.long (lI p6)), none, none] []) : G p l e rm_X12_findGain s m args below meth c 9 D ca ad A 0 0 (MQ below (Qv D ca ad A σ0) args s 0 0 A) σ 41 [some (.ref (ad 120)), none, some (.int (iI p2)), none, some (.long (lI x4)), none, some (.long (lI p6)), none, some (.int (iI x8))] [] :=
  itr_rule (P := fun z : Int × Int × Mem => G p l e rm_X12_findGain s m args below meth c 9 D ca ad A 0 0 (MQ below (Qv D ca ad A σ0) args s 0 0 A) z.2.2 41 [some (.ref (ad 120)), none, some (.int (iI p2)), none, some (.long (lI z.1)), none, some (.long (lI p6)), none, some (.int (iI z.2.1))] []) (E := fun b => ∀ (y4 : Int) (σ : Mem), b = (y4, σ) → G p l e rm_X12_findGain s m args below meth c 9 D ca ad A 0 0 (MQ below (Qv D ca ad A σ0) args s 0 0 A) σ 85 [some (.ref (ad 120)), none, some (.int (iI p2)), none, some (.long (lI y4)), none, some (.long (lI p6)), none, none] []) (fun z o hb hc he => it_X12_findGain_41 C hr hlk (fun _ _ _ e => hc _ e) (fun _ _ e => (he _ e) _ _ rfl) hb) n _ _ h he
set_option maxHeartbeats 4000000 in
set_option maxRecDepth 100000 in
theorem c_X12_findGain {v1 v2 v3 : Int} {σ : Mem} (hf : f_X12_findGain v1 v2 v3 σ = some (r0, σ0)) : CTv l D ca ad A yX12_findGain wsX12_findGain rm_X12_findGain [.ref (ad 120), .int (iI v1), .int (iI v2), .int (iI v3)] σ σ0 := by
  refine ct_v (cc := cX12_findGain) (own := RX12) (maxL := 9) (ret := none) (lv0 := [some (.ref (ad 120)), some (.int (iI v1)), some (.int (iI v2)), some (.int (iI v3)), none, none, none, none, none]) (by decide) rfl rfl rfl (Nat.le_of_ble_eq_true rfl) ?_
  intro p e s m below meth c C hr hlk hnm
  unfold f_X12_findGain at hf
  refine g_aload_n (i := 0) C dX12_findGain_0 rfl rfl ?_
  refine g_iload_n (i := 1) C dX12_findGain_1 rfl rfl ?_
  refine g_iload_n (i := 2) C dX12_findGain_2 rfl rfl ?_
  refine g_iload_n (i := 1) C dX12_findGain_3 rfl rfl ?_
  refine g_iload_n (i := 2) C dX12_findGain_4 rfl rfl ?_
  obtain ⟨r2, σ1, h3, hf⟩ := ob_inv hf
  refine g_callSi C (c_X12_made  h3) (va_cwS 2 C.2.2.2.2.1 gX12_findGain_X12_made rfl rfl rfl (by decide +kernel) ⟨Nat.le_of_ble_eq_true rfl, Nat.le_of_ble_eq_true rfl⟩) rfl rfl (Nat.le_of_ble_eq_true rfl) dX12_findGain_5 ⟨Nat.zero_le _, Nat.zero_le _⟩ ?_
  obtain ⟨r5, σ4, h6, hf⟩ := ob_inv hf
  refine g_callVv C (c_X12_findGets  h6) (cwV 3 C.2.2.2.2.1 gX12_findGain_X12_findGets rfl rfl rfl (by decide +kernel) ⟨Nat.le_of_ble_eq_true rfl, Nat.le_of_ble_eq_true rfl⟩) ob_X12 rfl rfl rfl rfl (Nat.le_of_ble_eq_true rfl) dX12_findGain_8 ⟨Nat.zero_le _, Nat.zero_le _⟩ ?_
  refine g_aload_n (i := 0) C dX12_findGain_11 rfl rfl ?_
  refine gg_X12_s (i := 1) C hiX12_findGain_X12 rfl dX12_findGain_12 ?_
  refine g_bipush C dX12_findGain_15 (by decide) ?_
  refine g_iload_n (i := 2) C dX12_findGain_17 rfl rfl ?_
  refine g_iadd C dX12_findGain_18 ?_
  obtain ⟨hb7, hf⟩ := if_inv hf
  refine g_iaload (N := 39) C (by decide) dX12_findGain_19 rfl hb7 ?_
  refine g_i2l C dX12_findGain_20 rfl ?_
  refine g_lstore C dX12_findGain_21 (by decide) rfl ?_
  refine g_lconst (z := 1) C dX12_findGain_23 (by decide) ?_
  refine g_lstore C dX12_findGain_24 (by decide) rfl ?_
  refine g_iload_n (i := 3) C dX12_findGain_26 rfl rfl ?_
  refine g_if_ne (tgt := 85) C dX12_findGain_27 (by decide) rfl (fun c9 => ?_) (fun c9 => ?_)
  · have hf := if_f c9 hf
    refine g_aload_n (i := 0) C dX12_findGain_85 rfl rfl ?_
    refine gg_X12_s (i := 1) C hiX12_findGain_X12 rfl dX12_findGain_86 ?_
    refine g_bipush C dX12_findGain_89 (by decide) ?_
    refine g_iload_n (i := 2) C dX12_findGain_91 rfl rfl ?_
    refine g_iadd C dX12_findGain_92 ?_
    obtain ⟨hb10, hf⟩ := if_inv hf
    refine g_iaload (N := 39) C (by decide) dX12_findGain_93 rfl hb10 ?_
    refine g_i2l C dX12_findGain_94 rfl ?_
    refine g_lload C dX12_findGain_95 rfl ?_
    refine g_lmul C dX12_findGain_97 ?_
    refine g_lload C dX12_findGain_98 rfl ?_
    refine g_lcmp_le (tgt := 119) C dX12_findGain_100 dX12_findGain_101 (by decide) rfl rfl (fun c11 => ?_) (fun c11 => ?_)
    · have hf := if_t c11 hf
      refine g_aload_n (i := 0) C dX12_findGain_119 rfl rfl ?_
      refine g_aload_n (i := 0) C dX12_findGain_120 rfl rfl ?_
      refine gg_X12_above (i := 3) C hiX12_findGain_X12 rfl dX12_findGain_121 ?_
      refine g_lload C dX12_findGain_124 rfl ?_
      refine g_lmul C dX12_findGain_126 ?_
      refine g_lload C dX12_findGain_127 rfl ?_
      refine g_aload_n (i := 0) C dX12_findGain_129 rfl rfl ?_
      refine gg_X12_below (i := 4) C hiX12_findGain_X12 rfl dX12_findGain_130 ?_
      refine g_lmul C dX12_findGain_133 ?_
      refine g_lsub C dX12_findGain_134 ?_
      refine gp_X12_above (i := 3) C hiX12_findGain_X12 rfl dX12_findGain_135 ?_
      refine g_aload_n (i := 0) C dX12_findGain_138 rfl rfl ?_
      refine g_dup C dX12_findGain_139 rfl ?_
      refine gg_X12_below (i := 4) C hiX12_findGain_X12 rfl dX12_findGain_140 ?_
      refine g_lload C dX12_findGain_143 rfl ?_
      refine g_lmul C dX12_findGain_145 ?_
      refine gp_X12_below (i := 4) C hiX12_findGain_X12 rfl dX12_findGain_146 ?_
      obtain ⟨e1, e2⟩ := some_inv hf
      exact g_vret C hr hlk e2 dX12_findGain_149
    · have hf := if_f c11 hf
      refine g_aload_n (i := 0) C dX12_findGain_104 rfl rfl ?_
      refine gg_X12_s (i := 1) C hiX12_findGain_X12 rfl dX12_findGain_105 ?_
      refine g_bipush C dX12_findGain_108 (by decide) ?_
      refine g_iload_n (i := 2) C dX12_findGain_110 rfl rfl ?_
      refine g_iadd C dX12_findGain_111 ?_
      refine g_iaload (N := 39) C (by decide) dX12_findGain_112 rfl hb10 ?_
      refine g_i2l C dX12_findGain_113 rfl ?_
      refine g_lload C dX12_findGain_114 rfl ?_
      refine g_lmul C dX12_findGain_116 ?_
      refine g_lstore C dX12_findGain_117 (by decide) rfl ?_
      refine g_aload_n (i := 0) C dX12_findGain_119 rfl rfl ?_
      refine g_aload_n (i := 0) C dX12_findGain_120 rfl rfl ?_
      refine gg_X12_above (i := 3) C hiX12_findGain_X12 rfl dX12_findGain_121 ?_
      refine g_lload C dX12_findGain_124 rfl ?_
      refine g_lmul C dX12_findGain_126 ?_
      refine g_lload C dX12_findGain_127 rfl ?_
      refine g_aload_n (i := 0) C dX12_findGain_129 rfl rfl ?_
      refine gg_X12_below (i := 4) C hiX12_findGain_X12 rfl dX12_findGain_130 ?_
      refine g_lmul C dX12_findGain_133 ?_
      refine g_lsub C dX12_findGain_134 ?_
      refine gp_X12_above (i := 3) C hiX12_findGain_X12 rfl dX12_findGain_135 ?_
      refine g_aload_n (i := 0) C dX12_findGain_138 rfl rfl ?_
      refine g_dup C dX12_findGain_139 rfl ?_
      refine gg_X12_below (i := 4) C hiX12_findGain_X12 rfl dX12_findGain_140 ?_
      refine g_lload C dX12_findGain_143 rfl ?_
      refine g_lmul C dX12_findGain_145 ?_
      refine gp_X12_below (i := 4) C hiX12_findGain_X12 rfl dX12_findGain_146 ?_
      obtain ⟨e1, e2⟩ := some_inv hf
      exact g_vret C hr hlk e2 dX12_findGain_149
  · have hf := if_t c9 hf
    refine g_lconst (z := 0) C dX12_findGain_30 (by decide) ?_
    refine g_lstore C dX12_findGain_31 (by decide) rfl ?_
    refine g_ldc2 (i := 2) (z := 100) C dX12_findGain_33 rfl (by decide) ?_
    refine g_lstore C dX12_findGain_36 (by decide) rfl ?_
    refine g_iconst C dX12_findGain_38 ?_
    refine g_istore C dX12_findGain_39 (by decide) rfl ?_
    obtain ⟨q21, hl22, hf⟩ := lb_inv hf
    refine g_mask [true, false, true, false, true, false, true, false, true] (w_X12_findGain_41 C hr hlk hl22 ?_)
    · rintro y23 σ24 rfl
      refine g_aload_n (i := 0) C dX12_findGain_85 rfl rfl ?_
      refine gg_X12_s (i := 1) C hiX12_findGain_X12 rfl dX12_findGain_86 ?_
      refine g_bipush C dX12_findGain_89 (by decide) ?_
      refine g_iload_n (i := 2) C dX12_findGain_91 rfl rfl ?_
      refine g_iadd C dX12_findGain_92 ?_
      obtain ⟨hb25, hf⟩ := if_inv hf
      refine g_iaload (N := 39) C (by decide) dX12_findGain_93 rfl hb25 ?_
      refine g_i2l C dX12_findGain_94 rfl ?_
      refine g_lload C dX12_findGain_95 rfl ?_
      refine g_lmul C dX12_findGain_97 ?_
      refine g_lload C dX12_findGain_98 rfl ?_
      refine g_lcmp_le (tgt := 119) C dX12_findGain_100 dX12_findGain_101 (by decide) rfl rfl (fun c26 => ?_) (fun c26 => ?_)
      · have hf := if_t c26 hf
        refine g_aload_n (i := 0) C dX12_findGain_119 rfl rfl ?_
        refine g_aload_n (i := 0) C dX12_findGain_120 rfl rfl ?_
        refine gg_X12_above (i := 3) C hiX12_findGain_X12 rfl dX12_findGain_121 ?_
        refine g_lload C dX12_findGain_124 rfl ?_
        refine g_lmul C dX12_findGain_126 ?_
        refine g_lload C dX12_findGain_127 rfl ?_
        refine g_aload_n (i := 0) C dX12_findGain_129 rfl rfl ?_
        refine gg_X12_below (i := 4) C hiX12_findGain_X12 rfl dX12_findGain_130 ?_
        refine g_lmul C dX12_findGain_133 ?_
        refine g_lsub C dX12_findGain_134 ?_
        refine gp_X12_above (i := 3) C hiX12_findGain_X12 rfl dX12_findGain_135 ?_
        refine g_aload_n (i := 0) C dX12_findGain_138 rfl rfl ?_
        refine g_dup C dX12_findGain_139 rfl ?_
        refine gg_X12_below (i := 4) C hiX12_findGain_X12 rfl dX12_findGain_140 ?_
        refine g_lload C dX12_findGain_143 rfl ?_
        refine g_lmul C dX12_findGain_145 ?_
        refine gp_X12_below (i := 4) C hiX12_findGain_X12 rfl dX12_findGain_146 ?_
        obtain ⟨e1, e2⟩ := some_inv hf
        exact g_vret C hr hlk e2 dX12_findGain_149
      · have hf := if_f c26 hf
        refine g_aload_n (i := 0) C dX12_findGain_104 rfl rfl ?_
        refine gg_X12_s (i := 1) C hiX12_findGain_X12 rfl dX12_findGain_105 ?_
        refine g_bipush C dX12_findGain_108 (by decide) ?_
        refine g_iload_n (i := 2) C dX12_findGain_110 rfl rfl ?_
        refine g_iadd C dX12_findGain_111 ?_
        refine g_iaload (N := 39) C (by decide) dX12_findGain_112 rfl hb25 ?_
        refine g_i2l C dX12_findGain_113 rfl ?_
        refine g_lload C dX12_findGain_114 rfl ?_
        refine g_lmul C dX12_findGain_116 ?_
        refine g_lstore C dX12_findGain_117 (by decide) rfl ?_
        refine g_aload_n (i := 0) C dX12_findGain_119 rfl rfl ?_
        refine g_aload_n (i := 0) C dX12_findGain_120 rfl rfl ?_
        refine gg_X12_above (i := 3) C hiX12_findGain_X12 rfl dX12_findGain_121 ?_
        refine g_lload C dX12_findGain_124 rfl ?_
        refine g_lmul C dX12_findGain_126 ?_
        refine g_lload C dX12_findGain_127 rfl ?_
        refine g_aload_n (i := 0) C dX12_findGain_129 rfl rfl ?_
        refine gg_X12_below (i := 4) C hiX12_findGain_X12 rfl dX12_findGain_130 ?_
        refine g_lmul C dX12_findGain_133 ?_
        refine g_lsub C dX12_findGain_134 ?_
        refine gp_X12_above (i := 3) C hiX12_findGain_X12 rfl dX12_findGain_135 ?_
        refine g_aload_n (i := 0) C dX12_findGain_138 rfl rfl ?_
        refine g_dup C dX12_findGain_139 rfl ?_
        refine gg_X12_below (i := 4) C hiX12_findGain_X12 rfl dX12_findGain_140 ?_
        refine g_lload C dX12_findGain_143 rfl ?_
        refine g_lmul C dX12_findGain_145 ?_
        refine gp_X12_below (i := 4) C hiX12_findGain_X12 rfl dX12_findGain_146 ?_
        obtain ⟨e1, e2⟩ := some_inv hf
        exact g_vret C hr hlk e2 dX12_findGain_149
/-! X12_gain -/
abbrev rm_X12_gain : Room := { frames := 4, cells := 0, slots := 0, locals := 99 }
theorem hiX12_gain_X12 : ∀ w ∈ u_ws RX12 TX12 24, w ∈ wsX12_gain := fun _ h => (List.mem_cons_of_mem _ (List.mem_append_right _ h))
set_option maxHeartbeats 4000000 in
set_option maxRecDepth 100000 in
theorem c_X12_gain {v1 v2 v3 v4 : Int} {σ : Mem} (hf : f_X12_gain v1 v2 v3 v4 σ = some (r0, σ0)) : CTl l D ca ad A yX12_gain wsX12_gain rm_X12_gain [.ref (ad 120), .int (iI v1), .int (iI v2), .int (iI v3), .int (iI v4)] σ r0 σ0 := by
  refine ct_l (cc := cX12_gain) (own := RX12) (maxL := 5) (ret := (some .long)) (lv0 := [some (.ref (ad 120)), some (.int (iI v1)), some (.int (iI v2)), some (.int (iI v3)), some (.int (iI v4))]) (by decide) rfl rfl rfl (Nat.le_of_ble_eq_true rfl) ?_
  intro p e s m below meth c C hr hlk hnm
  unfold f_X12_gain at hf
  refine g_aload_n (i := 0) C dX12_gain_0 rfl rfl ?_
  obtain ⟨r2, σ1, h3, hf⟩ := ob_inv hf
  refine g_callVi C (c_X12_isOpen  h3) (cwV 0 C.2.2.2.2.1 gX12_gain_X12_isOpen rfl rfl rfl (by decide +kernel) ⟨Nat.le_of_ble_eq_true rfl, Nat.le_of_ble_eq_true rfl⟩) ob_X12 rfl rfl rfl rfl (Nat.le_of_ble_eq_true rfl) dX12_gain_1 ⟨Nat.zero_le _, Nat.zero_le _⟩ ?_
  refine g_if_eq (tgt := 44) C dX12_gain_4 (by decide) rfl (fun c4 => ?_) (fun c4 => ?_)
  · have hf := if_t c4 hf
    refine g_ldc2 (i := 1) (z := -4611686018427387904) C dX12_gain_44 rfl (by decide) ?_
    obtain ⟨e1, e2⟩ := some_inv hf
    exact g_lret C hr hlk e1 e2 dX12_gain_47
  · have hf := if_f c4 hf
    refine g_aload_n (i := 0) C dX12_gain_7 rfl rfl ?_
    refine g_iload_n (i := 1) C dX12_gain_8 rfl rfl ?_
    obtain ⟨r6, σ5, h7, hf⟩ := ob_inv hf
    refine g_callVi C (c_X12_isFit  h7) (cwV 1 C.2.2.2.2.1 gX12_gain_X12_isFit rfl rfl rfl (by decide +kernel) ⟨Nat.le_of_ble_eq_true rfl, Nat.le_of_ble_eq_true rfl⟩) ob_X12 rfl rfl rfl rfl (Nat.le_of_ble_eq_true rfl) dX12_gain_9 ⟨Nat.zero_le _, Nat.zero_le _⟩ ?_
    refine g_if_eq (tgt := 44) C dX12_gain_12 (by decide) rfl (fun c8 => ?_) (fun c8 => ?_)
    · have hf := if_t c8 hf
      refine g_ldc2 (i := 1) (z := -4611686018427387904) C dX12_gain_44 rfl (by decide) ?_
      obtain ⟨e1, e2⟩ := some_inv hf
      exact g_lret C hr hlk e1 e2 dX12_gain_47
    · have hf := if_f c8 hf
      refine g_aload_n (i := 0) C dX12_gain_15 rfl rfl ?_
      refine g_iload_n (i := 2) C dX12_gain_16 rfl rfl ?_
      obtain ⟨r10, σ9, h11, hf⟩ := ob_inv hf
      refine g_callVi C (c_X12_isSort  h11) (cwV 1 C.2.2.2.2.1 gX12_gain_X12_isSort rfl rfl rfl (by decide +kernel) ⟨Nat.le_of_ble_eq_true rfl, Nat.le_of_ble_eq_true rfl⟩) ob_X12 rfl rfl rfl rfl (Nat.le_of_ble_eq_true rfl) dX12_gain_17 ⟨Nat.zero_le _, Nat.zero_le _⟩ ?_
      refine g_if_eq (tgt := 44) C dX12_gain_20 (by decide) rfl (fun c12 => ?_) (fun c12 => ?_)
      · have hf := if_t c12 hf
        refine g_ldc2 (i := 1) (z := -4611686018427387904) C dX12_gain_44 rfl (by decide) ?_
        obtain ⟨e1, e2⟩ := some_inv hf
        exact g_lret C hr hlk e1 e2 dX12_gain_47
      · have hf := if_f c12 hf
        refine g_iload_n (i := 3) C dX12_gain_23 rfl rfl ?_
        refine g_i2l C dX12_gain_24 rfl ?_
        refine g_lconst (z := 0) C dX12_gain_25 (by decide) ?_
        refine g_lconst (z := 1) C dX12_gain_26 (by decide) ?_
        obtain ⟨r14, σ13, h15, hf⟩ := ob_inv hf
        refine g_callSi C (c_X12_isIn  h15) (va_cwS 3 C.2.2.2.2.1 gX12_gain_X12_isIn rfl rfl rfl (by decide +kernel) ⟨Nat.le_of_ble_eq_true rfl, Nat.le_of_ble_eq_true rfl⟩) rfl rfl (Nat.le_of_ble_eq_true rfl) dX12_gain_27 ⟨Nat.zero_le _, Nat.zero_le _⟩ ?_
        refine g_if_eq (tgt := 44) C dX12_gain_30 (by decide) rfl (fun c16 => ?_) (fun c16 => ?_)
        · have hf := if_t c16 hf
          refine g_ldc2 (i := 1) (z := -4611686018427387904) C dX12_gain_44 rfl (by decide) ?_
          obtain ⟨e1, e2⟩ := some_inv hf
          exact g_lret C hr hlk e1 e2 dX12_gain_47
        · have hf := if_f c16 hf
          refine g_iload C dX12_gain_33 rfl ?_
          refine g_i2l C dX12_gain_35 rfl ?_
          refine g_lconst (z := 0) C dX12_gain_36 (by decide) ?_
          refine g_lconst (z := 1) C dX12_gain_37 (by decide) ?_
          obtain ⟨r18, σ17, h19, hf⟩ := ob_inv hf
          refine g_callSi C (c_X12_isIn  h19) (va_cwS 3 C.2.2.2.2.1 gX12_gain_X12_isIn rfl rfl rfl (by decide +kernel) ⟨Nat.le_of_ble_eq_true rfl, Nat.le_of_ble_eq_true rfl⟩) rfl rfl (Nat.le_of_ble_eq_true rfl) dX12_gain_38 ⟨Nat.zero_le _, Nat.zero_le _⟩ ?_
          refine g_if_ne (tgt := 48) C dX12_gain_41 (by decide) rfl (fun c20 => ?_) (fun c20 => ?_)
          · have hf := if_f c20 hf
            refine g_aload_n (i := 0) C dX12_gain_48 rfl rfl ?_
            refine g_iload_n (i := 1) C dX12_gain_49 rfl rfl ?_
            refine g_iload_n (i := 2) C dX12_gain_50 rfl rfl ?_
            refine g_iload_n (i := 3) C dX12_gain_51 rfl rfl ?_
            obtain ⟨r22, σ21, h23, hf⟩ := ob_inv hf
            refine g_callVv C (c_X12_findGain  h23) (cwV 3 C.2.2.2.2.1 gX12_gain_X12_findGain rfl rfl rfl (by decide +kernel) ⟨Nat.le_of_ble_eq_true rfl, Nat.le_of_ble_eq_true rfl⟩) ob_X12 rfl rfl rfl rfl (Nat.le_of_ble_eq_true rfl) dX12_gain_52 ⟨Nat.zero_le _, Nat.zero_le _⟩ ?_
            refine g_aload_n (i := 0) C dX12_gain_55 rfl rfl ?_
            refine gg_X12_above (i := 2) C hiX12_gain_X12 rfl dX12_gain_56 ?_
            refine g_aload_n (i := 0) C dX12_gain_59 rfl rfl ?_
            refine gg_X12_below (i := 3) C hiX12_gain_X12 rfl dX12_gain_60 ?_
            refine g_iload C dX12_gain_63 rfl ?_
            obtain ⟨r25, σ24, h26, hf⟩ := ob_inv hf
            refine g_callSl C (c_X12_told  h26) (va_cwS 3 C.2.2.2.2.1 gX12_gain_X12_told rfl rfl rfl (by decide +kernel) ⟨Nat.le_of_ble_eq_true rfl, Nat.le_of_ble_eq_true rfl⟩) rfl rfl (Nat.le_of_ble_eq_true rfl) dX12_gain_65 ⟨Nat.zero_le _, Nat.zero_le _⟩ ?_
            obtain ⟨e1, e2⟩ := some_inv hf
            exact g_lret C hr hlk e1 e2 dX12_gain_68
          · have hf := if_t c20 hf
            refine g_ldc2 (i := 1) (z := -4611686018427387904) C dX12_gain_44 rfl (by decide) ?_
            obtain ⟨e1, e2⟩ := some_inv hf
            exact g_lret C hr hlk e1 e2 dX12_gain_47
/-! X12_losers -/
abbrev rm_X12_losers : Room := { frames := 4, cells := 0, slots := 0, locals := 99 }
theorem hiX12_losers_X12 : ∀ w ∈ u_ws RX12 TX12 24, w ∈ wsX12_losers := fun _ h => (List.mem_cons_of_mem _ (List.mem_append_right _ h))
set_option maxHeartbeats 4000000 in
set_option maxRecDepth 100000 in
theorem it_X12_losers_35 (C : Cx p s m args c cX12_losers 5 RX12 wsX12_losers D ca A) (hr : meth.sig.returnType = (some .int)) (hlk : meth.locks = false) {p1 p2 : Int} {o : (Int × Int × Mem) ⊕ (Int × Mem)} (hc : ∀ (x3 x4 : Int) (σ : Mem), o = .inl (x3, x4, σ) → G p l e rm_X12_losers s m args below meth c 5 D ca ad A 0 0 (MQ below (Qi D ca ad A r0 σ0) args s 0 0 A) σ 35 [some (.ref (ad 120)), some (.int (iI p1)), some (.int (iI p2)), some (.int (iI x3)), some (.int (iI x4))] []) (he : ∀ (y3 : Int) (σ : Mem), o = .inr (y3, σ) → G p l e rm_X12_losers s m args below meth c 5 D ca ad A 0 0 (MQ below (Qi D ca ad A r0 σ0) args s 0 0 A) σ 80 [none, none, none, some (.int (iI y3)), none] []) {x3 x4 : Int} {σ : Mem} (hf : f_X12_losers_35 p1 p2 x3 x4 σ = some o) : G p l e rm_X12_losers s m args below meth c 5 D ca ad A 0 0 (MQ below (Qi D ca ad A r0 σ0) args s 0 0 A) σ 35 [some (.ref (ad 120)), some (.int (iI p1)), some (.int (iI p2)), some (.int (iI x3)), some (.int (iI x4))] [] := by
  unfold f_X12_losers_35 at hf
  refine g_iload C dX12_losers_35 rfl ?_
  refine g_aload_n (i := 0) C dX12_losers_37 rfl rfl ?_
  refine gg_X12_s (i := 1) C hiX12_losers_X12 rfl dX12_losers_38 ?_
  refine g_iconst C dX12_losers_41 ?_
  refine g_iaload (N := 39) (j := 0) C (by decide) dX12_losers_42 (by decide) (by decide) ?_
  refine g_icmp_ge (tgt := 80) C dX12_losers_43 (by decide) rfl rfl (fun c13 => ?_) (fun c13 => ?_)
  · have hf := if_t c13 hf
    exact g_mask [false, false, false, true, false] (he _ _ (Option.some.inj hf).symm)
  · have hf := if_f c13 hf
    refine g_aload_n (i := 0) C dX12_losers_46 rfl rfl ?_
    refine g_iload_n (i := 1) C dX12_losers_47 rfl rfl ?_
    refine g_iload C dX12_losers_48 rfl ?_
    refine g_iload_n (i := 2) C dX12_losers_50 rfl rfl ?_
    obtain ⟨r15, σ14, h16, hf⟩ := ob_inv hf
    refine g_callVv C (c_X12_findGain  h16) (cwV 3 C.2.2.2.2.1 gX12_losers_X12_findGain rfl rfl rfl (by decide +kernel) ⟨Nat.le_of_ble_eq_true rfl, Nat.le_of_ble_eq_true rfl⟩) ob_X12 rfl rfl rfl rfl (Nat.le_of_ble_eq_true rfl) dX12_losers_51 ⟨Nat.zero_le _, Nat.zero_le _⟩ ?_
    refine g_iload_n (i := 3) C dX12_losers_54 rfl rfl ?_
    refine g_aload_n (i := 0) C dX12_losers_55 rfl rfl ?_
    refine gg_X12_above (i := 2) C hiX12_losers_X12 rfl dX12_losers_56 ?_
    refine g_lconst (z := 0) C dX12_losers_59 (by decide) ?_
    refine g_lcmp_ge (b' := 0) (tgt := 71) C dX12_losers_60 dX12_losers_61 (by decide) rfl (by decide) (fun c17 => ?_) (fun c17 => ?_)
    · have hf := if_t c17 hf
      refine g_iconst C dX12_losers_71 ?_
      refine g_ior C dX12_losers_72 ?_
      refine g_istore_n (i := 3) C dX12_losers_73 rfl (by decide) rfl ?_
      refine g_iinc C dX12_losers_74 rfl (by decide) rfl ?_
      refine g_goto (tgt := 35) C dX12_losers_77 (by decide) ?_
      exact g_mask [true, true, true, true, true] (hc _ _ _ (Option.some.inj hf).symm)
    · have hf := if_f c17 hf
      refine g_iconst C dX12_losers_64 ?_
      refine g_iload C dX12_losers_65 rfl ?_
      refine g_ishl C dX12_losers_67 ?_
      refine g_goto (tgt := 72) C dX12_losers_68 (by decide) ?_
      refine g_ior C dX12_losers_72 ?_
      refine g_istore_n (i := 3) C dX12_losers_73 rfl (by decide) rfl ?_
      refine g_iinc C dX12_losers_74 rfl (by decide) rfl ?_
      refine g_goto (tgt := 35) C dX12_losers_77 (by decide) ?_
      exact g_mask [true, true, true, true, true] (hc _ _ _ (Option.some.inj hf).symm)
set_option maxHeartbeats 4000000 in
set_option maxRecDepth 100000 in
theorem w_X12_losers_35 (C : Cx p s m args c cX12_losers 5 RX12 wsX12_losers D ca A) (hr : meth.sig.returnType = (some .int)) (hlk : meth.locks = false) {p1 p2 : Int} {n : Nat} {x3 x4 : Int} {σ : Mem} {b : (Int × Mem)} (h : itr (fun z : Int × Int × Mem => f_X12_losers_35 p1 p2 z.1 z.2.1 z.2.2) n (x3, x4, σ) = some b) (he : ∀ (y3 : Int) (σ : Mem), b = (y3, σ) → G p l e rm_X12_losers s m args below meth c 5 D ca ad A 0 0 (MQ below (Qi D ca ad A r0 σ0) args s 0 0 A) σ 80 [none, none, none, some (.int (iI y3)), none] []) : G p l e rm_X12_losers s m args below meth c 5 D ca ad A 0 0 (MQ below (Qi D ca ad A r0 σ0) args s 0 0 A) σ 35 [some (.ref (ad 120)), some (.int (iI p1)), some (.int (iI p2)), some (.int (iI x3)), some (.int (iI x4))] [] :=
  itr_rule (P := fun z : Int × Int × Mem => G p l e rm_X12_losers s m args below meth c 5 D ca ad A 0 0 (MQ below (Qi D ca ad A r0 σ0) args s 0 0 A) z.2.2 35 [some (.ref (ad 120)), some (.int (iI p1)), some (.int (iI p2)), some (.int (iI z.1)), some (.int (iI z.2.1))] []) (E := fun b => ∀ (y3 : Int) (σ : Mem), b = (y3, σ) → G p l e rm_X12_losers s m args below meth c 5 D ca ad A 0 0 (MQ below (Qi D ca ad A r0 σ0) args s 0 0 A) σ 80 [none, none, none, some (.int (iI y3)), none] []) (fun z o hb hc he => it_X12_losers_35 C hr hlk (fun _ _ _ e => hc _ e) (fun _ _ e => (he _ e) _ _ rfl) hb) n _ _ h he
set_option maxHeartbeats 4000000 in
set_option maxRecDepth 100000 in
theorem c_X12_losers {v1 v2 : Int} {σ : Mem} (hf : f_X12_losers v1 v2 σ = some (r0, σ0)) : CTi l D ca ad A yX12_losers wsX12_losers rm_X12_losers [.ref (ad 120), .int (iI v1), .int (iI v2)] σ r0 σ0 := by
  refine ct_i (cc := cX12_losers) (own := RX12) (maxL := 5) (ret := (some .int)) (lv0 := [some (.ref (ad 120)), some (.int (iI v1)), some (.int (iI v2)), none, none]) (by decide) rfl rfl rfl (Nat.le_of_ble_eq_true rfl) ?_
  intro p e s m below meth c C hr hlk hnm
  unfold f_X12_losers at hf
  refine g_aload_n (i := 0) C dX12_losers_0 rfl rfl ?_
  obtain ⟨r2, σ1, h3, hf⟩ := ob_inv hf
  refine g_callVi C (c_X12_isOpen  h3) (cwV 0 C.2.2.2.2.1 gX12_losers_X12_isOpen rfl rfl rfl (by decide +kernel) ⟨Nat.le_of_ble_eq_true rfl, Nat.le_of_ble_eq_true rfl⟩) ob_X12 rfl rfl rfl rfl (Nat.le_of_ble_eq_true rfl) dX12_losers_1 ⟨Nat.zero_le _, Nat.zero_le _⟩ ?_
  refine g_if_ne (tgt := 10) C dX12_losers_4 (by decide) rfl (fun c4 => ?_) (fun c4 => ?_)
  · have hf := if_f c4 hf
    refine g_aload_n (i := 0) C dX12_losers_10 rfl rfl ?_
    refine g_iload_n (i := 1) C dX12_losers_11 rfl rfl ?_
    obtain ⟨r6, σ5, h7, hf⟩ := ob_inv hf
    refine g_callVi C (c_X12_isFit  h7) (cwV 1 C.2.2.2.2.1 gX12_losers_X12_isFit rfl rfl rfl (by decide +kernel) ⟨Nat.le_of_ble_eq_true rfl, Nat.le_of_ble_eq_true rfl⟩) ob_X12 rfl rfl rfl rfl (Nat.le_of_ble_eq_true rfl) dX12_losers_12 ⟨Nat.zero_le _, Nat.zero_le _⟩ ?_
    refine g_if_eq (tgt := 28) C dX12_losers_15 (by decide) rfl (fun c8 => ?_) (fun c8 => ?_)
    · have hf := if_t c8 hf
      refine g_iconst C dX12_losers_28 ?_
      obtain ⟨e1, e2⟩ := some_inv hf
      exact g_iret C hr hlk e1 e2 dX12_losers_29
    · have hf := if_f c8 hf
      refine g_iload_n (i := 2) C dX12_losers_18 rfl rfl ?_
      refine g_i2l C dX12_losers_19 rfl ?_
      refine g_lconst (z := 0) C dX12_losers_20 (by decide) ?_
      refine g_lconst (z := 1) C dX12_losers_21 (by decide) ?_
      obtain ⟨r10, σ9, h11, hf⟩ := ob_inv hf
      refine g_callSi C (c_X12_isIn  h11) (va_cwS 3 C.2.2.2.2.1 gX12_losers_X12_isIn rfl rfl rfl (by decide +kernel) ⟨Nat.le_of_ble_eq_true rfl, Nat.le_of_ble_eq_true rfl⟩) rfl rfl (Nat.le_of_ble_eq_true rfl) dX12_losers_22 ⟨Nat.zero_le _, Nat.zero_le _⟩ ?_
      refine g_if_ne (tgt := 30) C dX12_losers_25 (by decide) rfl (fun c12 => ?_) (fun c12 => ?_)
      · have hf := if_f c12 hf
        refine g_iconst C dX12_losers_30 ?_
        refine g_istore_n (i := 3) C dX12_losers_31 rfl (by decide) rfl ?_
        refine g_iconst C dX12_losers_32 ?_
        refine g_istore C dX12_losers_33 (by decide) rfl ?_
        obtain ⟨q19, hl20, hf⟩ := lb_inv hf
        refine g_mask [true, true, true, true, true] (w_X12_losers_35 C hr hlk hl20 ?_)
        · rintro y21 σ22 rfl
          refine g_iload_n (i := 3) C dX12_losers_80 rfl rfl ?_
          obtain ⟨e1, e2⟩ := some_inv hf
          exact g_iret C hr hlk e1 e2 dX12_losers_81
      · have hf := if_t c12 hf
        refine g_iconst C dX12_losers_28 ?_
        obtain ⟨e1, e2⟩ := some_inv hf
        exact g_iret C hr hlk e1 e2 dX12_losers_29
  · have hf := if_t c4 hf
    refine g_bipush C dX12_losers_7 (by decide) ?_
    obtain ⟨e1, e2⟩ := some_inv hf
    exact g_iret C hr hlk e1 e2 dX12_losers_9
/-! X12_lesser -/
abbrev rm_X12_lesser : Room := { frames := 0, cells := 0, slots := 0, locals := 0 }
set_option maxHeartbeats 4000000 in
set_option maxRecDepth 100000 in
theorem c_X12_lesser {v0 v1 : Int} {σ : Mem} (hf : f_X12_lesser v0 v1 σ = some (r0, σ0)) : CTi l D ca ad A yX12_lesser wsX12_lesser rm_X12_lesser [.int (iI v0), .int (iI v1)] σ r0 σ0 := by
  refine ct_i (cc := cX12_lesser) (own := RX12) (maxL := 2) (ret := (some .int)) (lv0 := [some (.int (iI v0)), some (.int (iI v1))]) (by decide) rfl rfl rfl (Nat.le_of_ble_eq_true rfl) ?_
  intro p e s m below meth c C hr hlk hnm
  unfold f_X12_lesser at hf
  refine g_iload_n (i := 0) C dX12_lesser_0 rfl rfl ?_
  refine g_iload_n (i := 1) C dX12_lesser_1 rfl rfl ?_
  refine g_icmp_ge (tgt := 9) C dX12_lesser_2 (by decide) rfl rfl (fun c1 => ?_) (fun c1 => ?_)
  · have hf := if_t c1 hf
    refine g_iload_n (i := 1) C dX12_lesser_9 rfl rfl ?_
    obtain ⟨e1, e2⟩ := some_inv hf
    exact g_iret C hr hlk e1 e2 dX12_lesser_10
  · have hf := if_f c1 hf
    refine g_iload_n (i := 0) C dX12_lesser_5 rfl rfl ?_
    refine g_goto (tgt := 10) C dX12_lesser_6 (by decide) ?_
    obtain ⟨e1, e2⟩ := some_inv hf
    exact g_iret C hr hlk e1 e2 dX12_lesser_10
/-! X12_inOne -/
abbrev rm_X12_inOne : Room := { frames := 2, cells := 0, slots := 0, locals := 46 }
theorem hiX12_inOne_X12 : ∀ w ∈ u_ws RX12 TX12 24, w ∈ wsX12_inOne := fun _ h => (List.mem_cons_of_mem _ (List.mem_append_right _ h))
set_option maxHeartbeats 4000000 in
set_option maxRecDepth 100000 in
theorem it_X12_inOne_84 (C : Cx p s m args c cX12_inOne 5 RX12 wsX12_inOne D ca A) (hr : meth.sig.returnType = (some .int)) (hlk : meth.locks = false) {p1 p2 p3 : Int} {o : (Int × Mem) ⊕ (Mem)} (hc : ∀ (x4 : Int) (σ : Mem), o = .inl (x4, σ) → G p l e rm_X12_inOne s m args below meth c 5 D ca ad A 0 0 (MQ below (Qi D ca ad A r0 σ0) args s 0 0 A) σ 84 [some (.ref (ad 120)), some (.int (iI p1)), some (.int (iI p2)), some (.int (iI p3)), some (.int (iI x4))] []) (he : ∀ (σ : Mem), o = .inr σ → G p l e rm_X12_inOne s m args below meth c 5 D ca ad A 0 0 (MQ below (Qi D ca ad A r0 σ0) args s 0 0 A) σ 150 [some (.ref (ad 120)), none, none, some (.int (iI p3)), none] []) {x4 : Int} {σ : Mem} (hf : f_X12_inOne_84 p1 p2 p3 x4 σ = some o) : G p l e rm_X12_inOne s m args below meth c 5 D ca ad A 0 0 (MQ below (Qi D ca ad A r0 σ0) args s 0 0 A) σ 84 [some (.ref (ad 120)), some (.int (iI p1)), some (.int (iI p2)), some (.int (iI p3)), some (.int (iI x4))] [] := by
  unfold f_X12_inOne_84 at hf
  refine g_iload C dX12_inOne_84 rfl ?_
  refine g_aload_n (i := 0) C dX12_inOne_86 rfl rfl ?_
  refine gg_X12_s (i := 1) C hiX12_inOne_X12 rfl dX12_inOne_87 ?_
  refine g_iconst C dX12_inOne_90 ?_
  refine g_iaload (N := 39) (j := 0) C (by decide) dX12_inOne_91 (by decide) (by decide) ?_
  refine g_icmp_ge (tgt := 150) C dX12_inOne_92 (by decide) rfl rfl (fun c22 => ?_) (fun c22 => ?_)
  · have hf := if_t c22 hf
    exact g_mask [true, false, false, true, false] (he _ (Option.some.inj hf).symm)
  · have hf := if_f c22 hf
    refine g_aload_n (i := 0) C dX12_inOne_95 rfl rfl ?_
    refine gg_X12_s (i := 1) C hiX12_inOne_X12 rfl dX12_inOne_96 ?_
    refine g_bipush C dX12_inOne_99 (by decide) ?_
    refine g_iconst C dX12_inOne_101 ?_
    refine g_iload_n (i := 3) C dX12_inOne_102 rfl rfl ?_
    refine g_imul C dX12_inOne_103 ?_
    refine g_iadd C dX12_inOne_104 ?_
    refine g_iload C dX12_inOne_105 rfl ?_
    refine g_iadd C dX12_inOne_107 ?_
    refine g_sipush C dX12_inOne_108 (by decide) ?_
    refine g_aload_n (i := 0) C dX12_inOne_111 rfl rfl ?_
    refine gg_X12_s (i := 1) C hiX12_inOne_X12 rfl dX12_inOne_112 ?_
    refine g_bipush C dX12_inOne_115 (by decide) ?_
    refine g_iconst C dX12_inOne_117 ?_
    refine g_iload_n (i := 1) C dX12_inOne_118 rfl rfl ?_
    refine g_imul C dX12_inOne_119 ?_
    refine g_iadd C dX12_inOne_120 ?_
    refine g_iload C dX12_inOne_121 rfl ?_
    refine g_iadd C dX12_inOne_123 ?_
    obtain ⟨hb23, hf⟩ := if_inv hf
    refine g_iaload (N := 39) C (by decide) dX12_inOne_124 rfl hb23 ?_
    refine g_aload_n (i := 0) C dX12_inOne_125 rfl rfl ?_
    refine gg_X12_s (i := 1) C hiX12_inOne_X12 rfl dX12_inOne_126 ?_
    refine g_bipush C dX12_inOne_129 (by decide) ?_
    refine g_iconst C dX12_inOne_131 ?_
    refine g_iload_n (i := 2) C dX12_inOne_132 rfl rfl ?_
    refine g_imul C dX12_inOne_133 ?_
    refine g_iadd C dX12_inOne_134 ?_
    refine g_iload C dX12_inOne_135 rfl ?_
    refine g_iadd C dX12_inOne_137 ?_
    obtain ⟨hb24, hf⟩ := if_inv hf
    refine g_iaload (N := 39) C (by decide) dX12_inOne_138 rfl hb24 ?_
    refine g_iadd C dX12_inOne_139 ?_
    obtain ⟨r26, σ25, h27, hf⟩ := ob_inv hf
    refine g_callSi C (c_X12_lesser  h27) (va_cwS 2 C.2.2.2.2.1 gX12_inOne_X12_lesser rfl rfl rfl (by decide +kernel) ⟨Nat.le_of_ble_eq_true rfl, Nat.le_of_ble_eq_true rfl⟩) rfl rfl (Nat.le_of_ble_eq_true rfl) dX12_inOne_140 ⟨Nat.zero_le _, Nat.zero_le _⟩ ?_
    obtain ⟨hb28, hf⟩ := if_inv hf
    refine g_iastore (N := 39) C (by decide) dX12_inOne_143 rfl hb28 ?_
    refine g_iinc C dX12_inOne_144 rfl (by decide) rfl ?_
    refine g_goto (tgt := 84) C dX12_inOne_147 (by decide) ?_
    exact g_mask [true, true, true, true, true] (hc _ _ (Option.some.inj hf).symm)
set_option maxHeartbeats 4000000 in
set_option maxRecDepth 100000 in
theorem w_X12_inOne_84 (C : Cx p s m args c cX12_inOne 5 RX12 wsX12_inOne D ca A) (hr : meth.sig.returnType = (some .int)) (hlk : meth.locks = false) {p1 p2 p3 : Int} {n : Nat} {x4 : Int} {σ : Mem} {b : (Mem)} (h : itr (fun z : Int × Mem => f_X12_inOne_84 p1 p2 p3 z.1 z.2) n (x4, σ) = some b) (he : ∀ (σ : Mem), b = σ → G p l e rm_X12_inOne s m args below meth c 5 D ca ad A 0 0 (MQ below (Qi D ca ad A r0 σ0) args s 0 0 A) σ 150 [some (.ref (ad 120)), none, none, some (.int (iI p3)), none] []) : G p l e rm_X12_inOne s m args below meth c 5 D ca ad A 0 0 (MQ below (Qi D ca ad A r0 σ0) args s 0 0 A) σ 84 [some (.ref (ad 120)), some (.int (iI p1)), some (.int (iI p2)), some (.int (iI p3)), some (.int (iI x4))] [] :=
  itr_rule (P := fun z : Int × Mem => G p l e rm_X12_inOne s m args below meth c 5 D ca ad A 0 0 (MQ below (Qi D ca ad A r0 σ0) args s 0 0 A) z.2 84 [some (.ref (ad 120)), some (.int (iI p1)), some (.int (iI p2)), some (.int (iI p3)), some (.int (iI z.1))] []) (E := fun b => ∀ (σ : Mem), b = σ → G p l e rm_X12_inOne s m args below meth c 5 D ca ad A 0 0 (MQ below (Qi D ca ad A r0 σ0) args s 0 0 A) σ 150 [some (.ref (ad 120)), none, none, some (.int (iI p3)), none] []) (fun z o hb hc he => it_X12_inOne_84 C hr hlk (fun _ _ e => hc _ e) (fun _ e => (he _ e) _ rfl) hb) n _ _ h he
set_option maxHeartbeats 4000000 in
set_option maxRecDepth 100000 in
theorem c_X12_inOne {v1 v2 : Int} {σ : Mem} (hf : f_X12_inOne v1 v2 σ = some (r0, σ0)) : CTi l D ca ad A yX12_inOne wsX12_inOne rm_X12_inOne [.ref (ad 120), .int (iI v1), .int (iI v2)] σ r0 σ0 := by
  refine ct_i (cc := cX12_inOne) (own := RX12) (maxL := 5) (ret := (some .int)) (lv0 := [some (.ref (ad 120)), some (.int (iI v1)), some (.int (iI v2)), none, none]) (by decide) rfl rfl rfl (Nat.le_of_ble_eq_true rfl) ?_
  intro p e s m below meth c C hr hlk hnm
  unfold f_X12_inOne at hf
  refine g_aload_n (i := 0) C dX12_inOne_0 rfl rfl ?_
  obtain ⟨r2, σ1, h3, hf⟩ := ob_inv hf
  refine g_callVi C (c_X12_isOpen  h3) (cwV 0 C.2.2.2.2.1 gX12_inOne_X12_isOpen rfl rfl rfl (by decide +kernel) ⟨Nat.le_of_ble_eq_true rfl, Nat.le_of_ble_eq_true rfl⟩) ob_X12 rfl rfl rfl rfl (Nat.le_of_ble_eq_true rfl) dX12_inOne_1 ⟨Nat.zero_le _, Nat.zero_le _⟩ ?_
  refine g_if_ne (tgt := 10) C dX12_inOne_4 (by decide) rfl (fun c4 => ?_) (fun c4 => ?_)
  · have hf := if_f c4 hf
    refine g_aload_n (i := 0) C dX12_inOne_10 rfl rfl ?_
    refine g_iload_n (i := 1) C dX12_inOne_11 rfl rfl ?_
    obtain ⟨r6, σ5, h7, hf⟩ := ob_inv hf
    refine g_callVi C (c_X12_isMark  h7) (cwV 1 C.2.2.2.2.1 gX12_inOne_X12_isMark rfl rfl rfl (by decide +kernel) ⟨Nat.le_of_ble_eq_true rfl, Nat.le_of_ble_eq_true rfl⟩) ob_X12 rfl rfl rfl rfl (Nat.le_of_ble_eq_true rfl) dX12_inOne_12 ⟨Nat.zero_le _, Nat.zero_le _⟩ ?_
    refine g_if_eq (tgt := 31) C dX12_inOne_15 (by decide) rfl (fun c8 => ?_) (fun c8 => ?_)
    · have hf := if_t c8 hf
      refine g_iconst C dX12_inOne_31 ?_
      obtain ⟨e1, e2⟩ := some_inv hf
      exact g_iret C hr hlk e1 e2 dX12_inOne_32
    · have hf := if_f c8 hf
      refine g_aload_n (i := 0) C dX12_inOne_18 rfl rfl ?_
      refine g_iload_n (i := 2) C dX12_inOne_19 rfl rfl ?_
      obtain ⟨r10, σ9, h11, hf⟩ := ob_inv hf
      refine g_callVi C (c_X12_isMark  h11) (cwV 1 C.2.2.2.2.1 gX12_inOne_X12_isMark rfl rfl rfl (by decide +kernel) ⟨Nat.le_of_ble_eq_true rfl, Nat.le_of_ble_eq_true rfl⟩) ob_X12 rfl rfl rfl rfl (Nat.le_of_ble_eq_true rfl) dX12_inOne_20 ⟨Nat.zero_le _, Nat.zero_le _⟩ ?_
      refine g_if_eq (tgt := 31) C dX12_inOne_23 (by decide) rfl (fun c12 => ?_) (fun c12 => ?_)
      · have hf := if_t c12 hf
        refine g_iconst C dX12_inOne_31 ?_
        obtain ⟨e1, e2⟩ := some_inv hf
        exact g_iret C hr hlk e1 e2 dX12_inOne_32
      · have hf := if_f c12 hf
        refine g_iload_n (i := 1) C dX12_inOne_26 rfl rfl ?_
        refine g_iload_n (i := 2) C dX12_inOne_27 rfl rfl ?_
        refine g_icmp_ne (tgt := 33) C dX12_inOne_28 (by decide) rfl rfl (fun c13 => ?_) (fun c13 => ?_)
        · have hf := if_f c13 hf
          refine g_aload_n (i := 0) C dX12_inOne_33 rfl rfl ?_
          refine gg_X12_s (i := 1) C hiX12_inOne_X12 rfl dX12_inOne_34 ?_
          refine g_iconst C dX12_inOne_37 ?_
          refine g_iaload (N := 39) (j := 1) C (by decide) dX12_inOne_38 (by decide) (by decide) ?_
          refine g_istore_n (i := 3) C dX12_inOne_39 rfl (by decide) rfl ?_
          refine g_iload_n (i := 3) C dX12_inOne_40 rfl rfl ?_
          refine g_iconst C dX12_inOne_41 ?_
          refine g_icmp_ne (b' := 4) (tgt := 48) C dX12_inOne_42 (by decide) rfl (by decide) (fun c14 => ?_) (fun c14 => ?_)
          · have hf := if_f c14 hf
            refine g_aload_n (i := 0) C dX12_inOne_48 rfl rfl ?_
            refine gg_X12_s (i := 1) C hiX12_inOne_X12 rfl dX12_inOne_49 ?_
            refine g_bipush C dX12_inOne_52 (by decide) ?_
            refine g_iload_n (i := 3) C dX12_inOne_54 rfl rfl ?_
            refine g_iadd C dX12_inOne_55 ?_
            refine g_bipush C dX12_inOne_56 (by decide) ?_
            refine g_aload_n (i := 0) C dX12_inOne_58 rfl rfl ?_
            refine gg_X12_s (i := 1) C hiX12_inOne_X12 rfl dX12_inOne_59 ?_
            refine g_bipush C dX12_inOne_62 (by decide) ?_
            refine g_iload_n (i := 1) C dX12_inOne_64 rfl rfl ?_
            refine g_iadd C dX12_inOne_65 ?_
            obtain ⟨hb15, hf⟩ := if_inv hf
            refine g_iaload (N := 39) C (by decide) dX12_inOne_66 rfl hb15 ?_
            refine g_aload_n (i := 0) C dX12_inOne_67 rfl rfl ?_
            refine gg_X12_s (i := 1) C hiX12_inOne_X12 rfl dX12_inOne_68 ?_
            refine g_bipush C dX12_inOne_71 (by decide) ?_
            refine g_iload_n (i := 2) C dX12_inOne_73 rfl rfl ?_
            refine g_iadd C dX12_inOne_74 ?_
            obtain ⟨hb16, hf⟩ := if_inv hf
            refine g_iaload (N := 39) C (by decide) dX12_inOne_75 rfl hb16 ?_
            refine g_iadd C dX12_inOne_76 ?_
            obtain ⟨r18, σ17, h19, hf⟩ := ob_inv hf
            refine g_callSi C (c_X12_lesser  h19) (va_cwS 2 C.2.2.2.2.1 gX12_inOne_X12_lesser rfl rfl rfl (by decide +kernel) ⟨Nat.le_of_ble_eq_true rfl, Nat.le_of_ble_eq_true rfl⟩) rfl rfl (Nat.le_of_ble_eq_true rfl) dX12_inOne_77 ⟨Nat.zero_le _, Nat.zero_le _⟩ ?_
            obtain ⟨hb20, hf⟩ := if_inv hf
            refine g_iastore (N := 39) C (by decide) dX12_inOne_80 rfl hb20 ?_
            refine g_iconst C dX12_inOne_81 ?_
            refine g_istore C dX12_inOne_82 (by decide) rfl ?_
            obtain ⟨q30, hl31, hf⟩ := lb_inv hf
            refine g_mask [true, true, true, true, true] (w_X12_inOne_84 C hr hlk hl31 ?_)
            · rintro σ32 rfl
              refine g_aload_n (i := 0) C dX12_inOne_150 rfl rfl ?_
              refine gg_X12_s (i := 1) C hiX12_inOne_X12 rfl dX12_inOne_151 ?_
              refine g_bipush C dX12_inOne_154 (by decide) ?_
              refine g_iload_n (i := 3) C dX12_inOne_156 rfl rfl ?_
              refine g_iadd C dX12_inOne_157 ?_
              refine g_iconst C dX12_inOne_158 ?_
              obtain ⟨hb33, hf⟩ := if_inv hf
              refine g_iastore (N := 39) C (by decide) dX12_inOne_159 rfl hb33 ?_
              refine g_aload_n (i := 0) C dX12_inOne_160 rfl rfl ?_
              refine gg_X12_s (i := 1) C hiX12_inOne_X12 rfl dX12_inOne_161 ?_
              refine g_iconst C dX12_inOne_164 ?_
              refine g_dup2 C dX12_inOne_165 rfl rfl ?_
              refine g_iaload (N := 39) (j := 1) C (by decide) dX12_inOne_166 (by decide) (by decide) ?_
              refine g_iconst C dX12_inOne_167 ?_
              refine g_iadd C dX12_inOne_168 ?_
              refine g_iastore (N := 39) (j := 1) C (by decide) dX12_inOne_169 (by decide) (by decide) ?_
              refine g_iload_n (i := 3) C dX12_inOne_170 rfl rfl ?_
              obtain ⟨e1, e2⟩ := some_inv hf
              exact g_iret C hr hlk e1 e2 dX12_inOne_171
          · have hf := if_t c14 hf
            refine g_bipush C dX12_inOne_45 (by decide) ?_
            obtain ⟨e1, e2⟩ := some_inv hf
            exact g_iret C hr hlk e1 e2 dX12_inOne_47
        · have hf := if_t c13 hf
          refine g_iconst C dX12_inOne_31 ?_
          obtain ⟨e1, e2⟩ := some_inv hf
          exact g_iret C hr hlk e1 e2 dX12_inOne_32
  · have hf := if_t c4 hf
    refine g_bipush C dX12_inOne_7 (by decide) ?_
    obtain ⟨e1, e2⟩ := some_inv hf
    exact g_iret C hr hlk e1 e2 dX12_inOne_9
/-! X12_bars -/
abbrev rm_X12_bars : Room := { frames := 6, cells := 0, slots := 0, locals := 141 }
theorem hiX12_bars_X12 : ∀ w ∈ u_ws RX12 TX12 24, w ∈ wsX12_bars := fun _ h => (List.mem_cons_of_mem _ (List.mem_append_right _ h))
set_option maxHeartbeats 4000000 in
set_option maxRecDepth 100000 in
theorem c_X12_bars {v1 : Int} {σ : Mem} (hf : f_X12_bars v1 σ = some (r0, σ0)) : CTi l D ca ad A yX12_bars wsX12_bars rm_X12_bars [.ref (ad 120), .int (iI v1)] σ r0 σ0 := by
  refine ct_i (cc := cX12_bars) (own := RX12) (maxL := 3) (ret := (some .int)) (lv0 := [some (.ref (ad 120)), some (.int (iI v1)), none]) (by decide) rfl rfl rfl (Nat.le_of_ble_eq_true rfl) ?_
  intro p e s m below meth c C hr hlk hnm
  unfold f_X12_bars at hf
  refine g_aload_n (i := 0) C dX12_bars_0 rfl rfl ?_
  obtain ⟨r2, σ1, h3, hf⟩ := ob_inv hf
  refine g_callVi C (c_X12_isOpen  h3) (cwV 0 C.2.2.2.2.1 gX12_bars_X12_isOpen rfl rfl rfl (by decide +kernel) ⟨Nat.le_of_ble_eq_true rfl, Nat.le_of_ble_eq_true rfl⟩) ob_X12 rfl rfl rfl rfl (Nat.le_of_ble_eq_true rfl) dX12_bars_1 ⟨Nat.zero_le _, Nat.zero_le _⟩ ?_
  refine g_if_ne (tgt := 10) C dX12_bars_4 (by decide) rfl (fun c4 => ?_) (fun c4 => ?_)
  · have hf := if_f c4 hf
    refine g_iload_n (i := 1) C dX12_bars_10 rfl rfl ?_
    refine g_i2l C dX12_bars_11 rfl ?_
    refine g_lconst (z := 0) C dX12_bars_12 (by decide) ?_
    refine g_iconst C dX12_bars_13 ?_
    refine g_aload_n (i := 0) C dX12_bars_14 rfl rfl ?_
    refine gg_X12_s (i := 1) C hiX12_bars_X12 rfl dX12_bars_15 ?_
    refine g_iconst C dX12_bars_18 ?_
    refine g_iaload (N := 39) (j := 1) C (by decide) dX12_bars_19 (by decide) (by decide) ?_
    refine g_ishl C dX12_bars_20 ?_
    refine g_iconst C dX12_bars_21 ?_
    refine g_isub C dX12_bars_22 ?_
    refine g_i2l C dX12_bars_23 rfl ?_
    obtain ⟨r6, σ5, h7, hf⟩ := ob_inv hf
    refine g_callSi C (c_X12_isIn  h7) (va_cwS 3 C.2.2.2.2.1 gX12_bars_X12_isIn rfl rfl rfl (by decide +kernel) ⟨Nat.le_of_ble_eq_true rfl, Nat.le_of_ble_eq_true rfl⟩) rfl rfl (Nat.le_of_ble_eq_true rfl) dX12_bars_24 ⟨Nat.zero_le _, Nat.zero_le _⟩ ?_
    refine g_if_ne (tgt := 32) C dX12_bars_27 (by decide) rfl (fun c8 => ?_) (fun c8 => ?_)
    · have hf := if_f c8 hf
      refine g_aload_n (i := 0) C dX12_bars_32 rfl rfl ?_
      refine g_iload_n (i := 1) C dX12_bars_33 rfl rfl ?_
      refine gp_X12_barred (i := 2) C hiX12_bars_X12 rfl dX12_bars_34 ?_
      refine g_aload_n (i := 0) C dX12_bars_37 rfl rfl ?_
      obtain ⟨r11, σ10, h12, hf⟩ := ob_inv hf
      refine g_callVi C (c_X12_sure  h12) (cwV 0 C.2.2.2.2.1 gX12_bars_X12_sure rfl rfl rfl (by decide +kernel) ⟨Nat.le_of_ble_eq_true rfl, Nat.le_of_ble_eq_true rfl⟩) ob_X12 rfl rfl rfl rfl (Nat.le_of_ble_eq_true rfl) dX12_bars_38 ⟨Nat.zero_le _, Nat.zero_le _⟩ ?_
      refine g_istore_n (i := 2) C dX12_bars_41 rfl (by decide) rfl ?_
      refine g_aload_n (i := 0) C dX12_bars_42 rfl rfl ?_
      refine g_iconst C dX12_bars_43 ?_
      refine gp_X12_barred (i := 2) C hiX12_bars_X12 rfl dX12_bars_44 ?_
      refine g_iload_n (i := 2) C dX12_bars_47 rfl rfl ?_
      obtain ⟨e1, e2⟩ := some_inv hf
      exact g_iret C hr hlk e1 e2 dX12_bars_48
    · have hf := if_t c8 hf
      refine g_iconst C dX12_bars_30 ?_
      obtain ⟨e1, e2⟩ := some_inv hf
      exact g_iret C hr hlk e1 e2 dX12_bars_31
  · have hf := if_t c4 hf
    refine g_bipush C dX12_bars_7 (by decide) ?_
    obtain ⟨e1, e2⟩ := some_inv hf
    exact g_iret C hr hlk e1 e2 dX12_bars_9
/-! X12_leastWaste -/
abbrev rm_X12_leastWaste : Room := { frames := 5, cells := 0, slots := 0, locals := 119 }
set_option maxHeartbeats 4000000 in
set_option maxRecDepth 100000 in
theorem it_X12_leastWaste_5 (C : Cx p s m args c cX12_leastWaste 3 RX12 wsX12_leastWaste D ca A) (hr : meth.sig.returnType = (some .int)) (hlk : meth.locks = false) {o : (Int × Int × Mem) ⊕ (Int × Mem)} (hc : ∀ (x1 x2 : Int) (σ : Mem), o = .inl (x1, x2, σ) → G p l e rm_X12_leastWaste s m args below meth c 3 D ca ad A 0 0 (MQ below (Qi D ca ad A r0 σ0) args s 0 0 A) σ 5 [some (.ref (ad 120)), some (.int (iI x1)), some (.int (iI x2))] []) (he : ∀ (y1 : Int) (σ : Mem), o = .inr (y1, σ) → G p l e rm_X12_leastWaste s m args below meth c 3 D ca ad A 0 0 (MQ below (Qi D ca ad A r0 σ0) args s 0 0 A) σ 46 [none, some (.int (iI y1)), none] []) {x1 x2 : Int} {σ : Mem} (hf : f_X12_leastWaste_5  x1 x2 σ = some o) : G p l e rm_X12_leastWaste s m args below meth c 3 D ca ad A 0 0 (MQ below (Qi D ca ad A r0 σ0) args s 0 0 A) σ 5 [some (.ref (ad 120)), some (.int (iI x1)), some (.int (iI x2))] [] := by
  unfold f_X12_leastWaste_5 at hf
  refine g_iload_n (i := 2) C dX12_leastWaste_5 rfl rfl ?_
  refine g_aload_n (i := 0) C dX12_leastWaste_6 rfl rfl ?_
  obtain ⟨r2, σ1, h3, hf⟩ := ob_inv hf
  refine g_callVi C (c_X12_fits  h3) (cwV 0 C.2.2.2.2.1 gX12_leastWaste_X12_fits rfl rfl rfl (by decide +kernel) ⟨Nat.le_of_ble_eq_true rfl, Nat.le_of_ble_eq_true rfl⟩) ob_X12 rfl rfl rfl rfl (Nat.le_of_ble_eq_true rfl) dX12_leastWaste_7 ⟨Nat.zero_le _, Nat.zero_le _⟩ ?_
  refine g_icmp_ge (tgt := 46) C dX12_leastWaste_10 (by decide) rfl rfl (fun c4 => ?_) (fun c4 => ?_)
  · have hf := if_t c4 hf
    exact g_mask [false, true, false] (he _ _ (Option.some.inj hf).symm)
  · have hf := if_f c4 hf
    refine g_aload_n (i := 0) C dX12_leastWaste_13 rfl rfl ?_
    refine g_iload_n (i := 2) C dX12_leastWaste_14 rfl rfl ?_
    obtain ⟨r6, σ5, h7, hf⟩ := ob_inv hf
    refine g_callVi C (c_X12_isSure  h7) (cwV 1 C.2.2.2.2.1 gX12_leastWaste_X12_isSure rfl rfl rfl (by decide +kernel) ⟨Nat.le_of_ble_eq_true rfl, Nat.le_of_ble_eq_true rfl⟩) ob_X12 rfl rfl rfl rfl (Nat.le_of_ble_eq_true rfl) dX12_leastWaste_15 ⟨Nat.zero_le _, Nat.zero_le _⟩ ?_
    refine g_if_eq (tgt := 40) C dX12_leastWaste_18 (by decide) rfl (fun c8 => ?_) (fun c8 => ?_)
    · have hf := if_t c8 hf
      refine g_iinc C dX12_leastWaste_40 rfl (by decide) rfl ?_
      refine g_goto (tgt := 5) C dX12_leastWaste_43 (by decide) ?_
      exact g_mask [true, true, true] (hc _ _ _ (Option.some.inj hf).symm)
    · have hf := if_f c8 hf
      refine g_iload_n (i := 1) C dX12_leastWaste_21 rfl rfl ?_
      refine g_if_lt (tgt := 34) C dX12_leastWaste_22 (by decide) rfl (fun c9 => ?_) (fun c9 => ?_)
      · have hf := if_t c9 hf
        refine g_aload_n (i := 0) C dX12_leastWaste_34 rfl rfl ?_
        refine g_iload_n (i := 2) C dX12_leastWaste_35 rfl rfl ?_
        obtain ⟨r11, σ10, h12, hf⟩ := ob_inv hf
        refine g_callVi C (c_X12_wasteOf  h12) (cwV 1 C.2.2.2.2.1 gX12_leastWaste_X12_wasteOf rfl rfl rfl (by decide +kernel) ⟨Nat.le_of_ble_eq_true rfl, Nat.le_of_ble_eq_true rfl⟩) ob_X12 rfl rfl rfl rfl (Nat.le_of_ble_eq_true rfl) dX12_leastWaste_36 ⟨Nat.zero_le _, Nat.zero_le _⟩ ?_
        refine g_istore_n (i := 1) C dX12_leastWaste_39 rfl (by decide) rfl ?_
        refine g_iinc C dX12_leastWaste_40 rfl (by decide) rfl ?_
        refine g_goto (tgt := 5) C dX12_leastWaste_43 (by decide) ?_
        exact g_mask [true, true, true] (hc _ _ _ (Option.some.inj hf).symm)
      · have hf := if_f c9 hf
        refine g_aload_n (i := 0) C dX12_leastWaste_25 rfl rfl ?_
        refine g_iload_n (i := 2) C dX12_leastWaste_26 rfl rfl ?_
        obtain ⟨r14, σ13, h15, hf⟩ := ob_inv hf
        refine g_callVi C (c_X12_wasteOf  h15) (cwV 1 C.2.2.2.2.1 gX12_leastWaste_X12_wasteOf rfl rfl rfl (by decide +kernel) ⟨Nat.le_of_ble_eq_true rfl, Nat.le_of_ble_eq_true rfl⟩) ob_X12 rfl rfl rfl rfl (Nat.le_of_ble_eq_true rfl) dX12_leastWaste_27 ⟨Nat.zero_le _, Nat.zero_le _⟩ ?_
        refine g_iload_n (i := 1) C dX12_leastWaste_30 rfl rfl ?_
        refine g_icmp_ge (tgt := 40) C dX12_leastWaste_31 (by decide) rfl rfl (fun c16 => ?_) (fun c16 => ?_)
        · have hf := if_t c16 hf
          refine g_iinc C dX12_leastWaste_40 rfl (by decide) rfl ?_
          refine g_goto (tgt := 5) C dX12_leastWaste_43 (by decide) ?_
          exact g_mask [true, true, true] (hc _ _ _ (Option.some.inj hf).symm)
        · have hf := if_f c16 hf
          refine g_aload_n (i := 0) C dX12_leastWaste_34 rfl rfl ?_
          refine g_iload_n (i := 2) C dX12_leastWaste_35 rfl rfl ?_
          obtain ⟨r18, σ17, h19, hf⟩ := ob_inv hf
          refine g_callVi C (c_X12_wasteOf  h19) (cwV 1 C.2.2.2.2.1 gX12_leastWaste_X12_wasteOf rfl rfl rfl (by decide +kernel) ⟨Nat.le_of_ble_eq_true rfl, Nat.le_of_ble_eq_true rfl⟩) ob_X12 rfl rfl rfl rfl (Nat.le_of_ble_eq_true rfl) dX12_leastWaste_36 ⟨Nat.zero_le _, Nat.zero_le _⟩ ?_
          refine g_istore_n (i := 1) C dX12_leastWaste_39 rfl (by decide) rfl ?_
          refine g_iinc C dX12_leastWaste_40 rfl (by decide) rfl ?_
          refine g_goto (tgt := 5) C dX12_leastWaste_43 (by decide) ?_
          exact g_mask [true, true, true] (hc _ _ _ (Option.some.inj hf).symm)
set_option maxHeartbeats 4000000 in
set_option maxRecDepth 100000 in
theorem w_X12_leastWaste_5 (C : Cx p s m args c cX12_leastWaste 3 RX12 wsX12_leastWaste D ca A) (hr : meth.sig.returnType = (some .int)) (hlk : meth.locks = false) {n : Nat} {x1 x2 : Int} {σ : Mem} {b : (Int × Mem)} (h : itr (fun z : Int × Int × Mem => f_X12_leastWaste_5  z.1 z.2.1 z.2.2) n (x1, x2, σ) = some b) (he : ∀ (y1 : Int) (σ : Mem), b = (y1, σ) → G p l e rm_X12_leastWaste s m args below meth c 3 D ca ad A 0 0 (MQ below (Qi D ca ad A r0 σ0) args s 0 0 A) σ 46 [none, some (.int (iI y1)), none] []) : G p l e rm_X12_leastWaste s m args below meth c 3 D ca ad A 0 0 (MQ below (Qi D ca ad A r0 σ0) args s 0 0 A) σ 5 [some (.ref (ad 120)), some (.int (iI x1)), some (.int (iI x2))] [] :=
  itr_rule (P := fun z : Int × Int × Mem => G p l e rm_X12_leastWaste s m args below meth c 3 D ca ad A 0 0 (MQ below (Qi D ca ad A r0 σ0) args s 0 0 A) z.2.2 5 [some (.ref (ad 120)), some (.int (iI z.1)), some (.int (iI z.2.1))] []) (E := fun b => ∀ (y1 : Int) (σ : Mem), b = (y1, σ) → G p l e rm_X12_leastWaste s m args below meth c 3 D ca ad A 0 0 (MQ below (Qi D ca ad A r0 σ0) args s 0 0 A) σ 46 [none, some (.int (iI y1)), none] []) (fun z o hb hc he => it_X12_leastWaste_5 C hr hlk (fun _ _ _ e => hc _ e) (fun _ _ e => (he _ e) _ _ rfl) hb) n _ _ h he
set_option maxHeartbeats 4000000 in
set_option maxRecDepth 100000 in
theorem c_X12_leastWaste {σ : Mem} (hf : f_X12_leastWaste  σ = some (r0, σ0)) : CTi l D ca ad A yX12_leastWaste wsX12_leastWaste rm_X12_leastWaste [.ref (ad 120)] σ r0 σ0 := by
  refine ct_i (cc := cX12_leastWaste) (own := RX12) (maxL := 3) (ret := (some .int)) (lv0 := [some (.ref (ad 120)), none, none]) (by decide) rfl rfl rfl (Nat.le_of_ble_eq_true rfl) ?_
  intro p e s m below meth c C hr hlk hnm
  unfold f_X12_leastWaste at hf
  refine g_bipush C dX12_leastWaste_0 (by decide) ?_
  refine g_istore_n (i := 1) C dX12_leastWaste_2 rfl (by decide) rfl ?_
  refine g_iconst C dX12_leastWaste_3 ?_
  refine g_istore_n (i := 2) C dX12_leastWaste_4 rfl (by decide) rfl ?_
  obtain ⟨q20, hl21, hf⟩ := lb_inv hf
  refine g_mask [true, true, true] (w_X12_leastWaste_5 C hr hlk hl21 ?_)
  · rintro y22 σ23 rfl
    refine g_iload_n (i := 1) C dX12_leastWaste_46 rfl rfl ?_
    obtain ⟨e1, e2⟩ := some_inv hf
    exact g_iret C hr hlk e1 e2 dX12_leastWaste_47
/-! X12_bits -/
abbrev rm_X12_bits : Room := { frames := 0, cells := 0, slots := 0, locals := 0 }
set_option maxHeartbeats 4000000 in
set_option maxRecDepth 100000 in
theorem it_X12_bits_4 (C : Cx p s m args c cX12_bits 3 RX12 wsX12_bits D ca A) (hr : meth.sig.returnType = (some .int)) (hlk : meth.locks = false) {o : (Int × Int × Mem) ⊕ (Int × Mem)} (hc : ∀ (x1 x2 : Int) (σ : Mem), o = .inl (x1, x2, σ) → G p l e rm_X12_bits s m args below meth c 3 D ca ad A 0 0 (MQ below (Qi D ca ad A r0 σ0) args s 0 0 A) σ 4 [none, some (.int (iI x1)), some (.int (iI x2))] []) (he : ∀ (y1 : Int) (σ : Mem), o = .inr (y1, σ) → G p l e rm_X12_bits s m args below meth c 3 D ca ad A 0 0 (MQ below (Qi D ca ad A r0 σ0) args s 0 0 A) σ 21 [none, some (.int (iI y1)), none] []) {x1 x2 : Int} {σ : Mem} (hf : f_X12_bits_4  x1 x2 σ = some o) : G p l e rm_X12_bits s m args below meth c 3 D ca ad A 0 0 (MQ below (Qi D ca ad A r0 σ0) args s 0 0 A) σ 4 [none, some (.int (iI x1)), some (.int (iI x2))] [] := by
  unfold f_X12_bits_4 at hf
  refine g_iload_n (i := 2) C dX12_bits_4 rfl rfl ?_
  refine g_if_le (tgt := 21) C dX12_bits_5 (by decide) rfl (fun c1 => ?_) (fun c1 => ?_)
  · have hf := if_t c1 hf
    exact g_mask [false, true, false] (he _ _ (Option.some.inj hf).symm)
  · have hf := if_f c1 hf
    refine g_iload_n (i := 1) C dX12_bits_8 rfl rfl ?_
    refine g_iload_n (i := 2) C dX12_bits_9 rfl rfl ?_
    refine g_iconst C dX12_bits_10 ?_
    refine g_iand C dX12_bits_11 ?_
    refine g_iadd C dX12_bits_12 ?_
    refine g_istore_n (i := 1) C dX12_bits_13 rfl (by decide) rfl ?_
    refine g_iload_n (i := 2) C dX12_bits_14 rfl rfl ?_
    refine g_iconst C dX12_bits_15 ?_
    refine g_ishr C dX12_bits_16 ?_
    refine g_istore_n (i := 2) C dX12_bits_17 rfl (by decide) rfl ?_
    refine g_goto (tgt := 4) C dX12_bits_18 (by decide) ?_
    exact g_mask [false, true, true] (hc _ _ _ (Option.some.inj hf).symm)
set_option maxHeartbeats 4000000 in
set_option maxRecDepth 100000 in
theorem w_X12_bits_4 (C : Cx p s m args c cX12_bits 3 RX12 wsX12_bits D ca A) (hr : meth.sig.returnType = (some .int)) (hlk : meth.locks = false) {n : Nat} {x1 x2 : Int} {σ : Mem} {b : (Int × Mem)} (h : itr (fun z : Int × Int × Mem => f_X12_bits_4  z.1 z.2.1 z.2.2) n (x1, x2, σ) = some b) (he : ∀ (y1 : Int) (σ : Mem), b = (y1, σ) → G p l e rm_X12_bits s m args below meth c 3 D ca ad A 0 0 (MQ below (Qi D ca ad A r0 σ0) args s 0 0 A) σ 21 [none, some (.int (iI y1)), none] []) : G p l e rm_X12_bits s m args below meth c 3 D ca ad A 0 0 (MQ below (Qi D ca ad A r0 σ0) args s 0 0 A) σ 4 [none, some (.int (iI x1)), some (.int (iI x2))] [] :=
  itr_rule (P := fun z : Int × Int × Mem => G p l e rm_X12_bits s m args below meth c 3 D ca ad A 0 0 (MQ below (Qi D ca ad A r0 σ0) args s 0 0 A) z.2.2 4 [none, some (.int (iI z.1)), some (.int (iI z.2.1))] []) (E := fun b => ∀ (y1 : Int) (σ : Mem), b = (y1, σ) → G p l e rm_X12_bits s m args below meth c 3 D ca ad A 0 0 (MQ below (Qi D ca ad A r0 σ0) args s 0 0 A) σ 21 [none, some (.int (iI y1)), none] []) (fun z o hb hc he => it_X12_bits_4 C hr hlk (fun _ _ _ e => hc _ e) (fun _ _ e => (he _ e) _ _ rfl) hb) n _ _ h he
set_option maxHeartbeats 4000000 in
set_option maxRecDepth 100000 in
theorem c_X12_bits {v0 : Int} {σ : Mem} (hf : f_X12_bits v0 σ = some (r0, σ0)) : CTi l D ca ad A yX12_bits wsX12_bits rm_X12_bits [.int (iI v0)] σ r0 σ0 := by
  refine ct_i (cc := cX12_bits) (own := RX12) (maxL := 3) (ret := (some .int)) (lv0 := [some (.int (iI v0)), none, none]) (by decide) rfl rfl rfl (Nat.le_of_ble_eq_true rfl) ?_
  intro p e s m below meth c C hr hlk hnm
  unfold f_X12_bits at hf
  refine g_iconst C dX12_bits_0 ?_
  refine g_istore_n (i := 1) C dX12_bits_1 rfl (by decide) rfl ?_
  refine g_iload_n (i := 0) C dX12_bits_2 rfl rfl ?_
  refine g_istore_n (i := 2) C dX12_bits_3 rfl (by decide) rfl ?_
  obtain ⟨q3, hl4, hf⟩ := lb_inv hf
  refine g_mask [false, true, true] (w_X12_bits_4 C hr hlk hl4 ?_)
  · rintro y5 σ6 rfl
    refine g_iload_n (i := 1) C dX12_bits_21 rfl rfl ?_
    obtain ⟨e1, e2⟩ := some_inv hf
    exact g_iret C hr hlk e1 e2 dX12_bits_22
/-! X12_leastBar -/
abbrev rm_X12_leastBar : Room := { frames := 6, cells := 0, slots := 0, locals := 141 }
theorem hiX12_leastBar_X12 : ∀ w ∈ u_ws RX12 TX12 24, w ∈ wsX12_leastBar := fun _ h => (List.mem_cons_of_mem _ (List.mem_append_right _ h))
set_option maxHeartbeats 4000000 in
set_option maxRecDepth 100000 in
theorem it_X12_leastBar_31 (C : Cx p s m args c cX12_leastBar 6 RX12 wsX12_leastBar D ca A) (hr : meth.sig.returnType = (some .int)) (hlk : meth.locks = false) {p1 : Int} {o : (Int × Int × Int × Mem) ⊕ (Int × Int × Mem)} (hc : ∀ (x2 x3 x4 : Int) (σ : Mem), o = .inl (x2, x3, x4, σ) → G p l e rm_X12_leastBar s m args below meth c 6 D ca ad A 0 0 (MQ below (Qi D ca ad A r0 σ0) args s 0 0 A) σ 31 [some (.ref (ad 120)), some (.int (iI p1)), some (.int (iI x2)), some (.int (iI x3)), some (.int (iI x4)), none] []) (he : ∀ (y2 y3 : Int) (σ : Mem), o = .inr (y2, y3, σ) → G p l e rm_X12_leastBar s m args below meth c 6 D ca ad A 0 0 (MQ below (Qi D ca ad A r0 σ0) args s 0 0 A) σ 106 [some (.ref (ad 120)), some (.int (iI p1)), some (.int (iI y2)), some (.int (iI y3)), none, none] []) {x2 x3 x4 : Int} {σ : Mem} (hf : f_X12_leastBar_31 p1 x2 x3 x4 σ = some o) : G p l e rm_X12_leastBar s m args below meth c 6 D ca ad A 0 0 (MQ below (Qi D ca ad A r0 σ0) args s 0 0 A) σ 31 [some (.ref (ad 120)), some (.int (iI p1)), some (.int (iI x2)), some (.int (iI x3)), some (.int (iI x4)), none] [] := by
  unfold f_X12_leastBar_31 at hf
  refine g_iload C dX12_leastBar_31 rfl ?_
  refine g_iconst C dX12_leastBar_33 ?_
  refine g_aload_n (i := 0) C dX12_leastBar_34 rfl rfl ?_
  refine gg_X12_s (i := 1) C hiX12_leastBar_X12 rfl dX12_leastBar_35 ?_
  refine g_iconst C dX12_leastBar_38 ?_
  refine g_iaload (N := 39) (j := 1) C (by decide) dX12_leastBar_39 (by decide) (by decide) ?_
  refine g_ishl C dX12_leastBar_40 ?_
  refine g_iconst C dX12_leastBar_41 ?_
  refine g_isub C dX12_leastBar_42 ?_
  refine g_icmp_ge (tgt := 106) C dX12_leastBar_43 (by decide) rfl rfl (fun c9 => ?_) (fun c9 => ?_)
  · have hf := if_t c9 hf
    exact g_mask [true, true, true, true, false, false] (he _ _ _ (Option.some.inj hf).symm)
  · have hf := if_f c9 hf
    refine g_aload_n (i := 0) C dX12_leastBar_46 rfl rfl ?_
    refine g_iload C dX12_leastBar_47 rfl ?_
    refine gp_X12_barred (i := 2) C hiX12_leastBar_X12 rfl dX12_leastBar_49 ?_
    refine g_aload_n (i := 0) C dX12_leastBar_52 rfl rfl ?_
    obtain ⟨r12, σ11, h13, hf⟩ := ob_inv hf
    refine g_callVi C (c_X12_leastWaste  h13) (cwV 0 C.2.2.2.2.1 gX12_leastBar_X12_leastWaste rfl rfl rfl (by decide +kernel) ⟨Nat.le_of_ble_eq_true rfl, Nat.le_of_ble_eq_true rfl⟩) ob_X12 rfl rfl rfl rfl (Nat.le_of_ble_eq_true rfl) dX12_leastBar_53 ⟨Nat.zero_le _, Nat.zero_le _⟩ ?_
    refine g_istore C dX12_leastBar_56 (by decide) rfl ?_
    refine g_iload C dX12_leastBar_58 rfl ?_
    refine g_if_lt (tgt := 100) C dX12_leastBar_60 (by decide) rfl (fun c14 => ?_) (fun c14 => ?_)
    · have hf := if_t c14 hf
      refine g_iinc C dX12_leastBar_100 rfl (by decide) rfl ?_
      refine g_goto (tgt := 31) C dX12_leastBar_103 (by decide) ?_
      exact g_mask [true, true, true, true, true, false] (hc _ _ _ _ (Option.some.inj hf).symm)
    · have hf := if_f c14 hf
      refine g_iload_n (i := 2) C dX12_leastBar_63 rfl rfl ?_
      refine g_if_lt (tgt := 94) C dX12_leastBar_64 (by decide) rfl (fun c15 => ?_) (fun c15 => ?_)
      · have hf := if_t c15 hf
        refine g_iload C dX12_leastBar_94 rfl ?_
        refine g_istore_n (i := 2) C dX12_leastBar_96 rfl (by decide) rfl ?_
        refine g_iload C dX12_leastBar_97 rfl ?_
        refine g_istore_n (i := 3) C dX12_leastBar_99 rfl (by decide) rfl ?_
        refine g_iinc C dX12_leastBar_100 rfl (by decide) rfl ?_
        refine g_goto (tgt := 31) C dX12_leastBar_103 (by decide) ?_
        exact g_mask [true, true, true, true, true, false] (hc _ _ _ _ (Option.some.inj hf).symm)
      · have hf := if_f c15 hf
        refine g_iload C dX12_leastBar_67 rfl ?_
        refine g_iload_n (i := 3) C dX12_leastBar_69 rfl rfl ?_
        refine g_icmp_gt (tgt := 100) C dX12_leastBar_70 (by decide) rfl rfl (fun c16 => ?_) (fun c16 => ?_)
        · have hf := if_t c16 hf
          refine g_iinc C dX12_leastBar_100 rfl (by decide) rfl ?_
          refine g_goto (tgt := 31) C dX12_leastBar_103 (by decide) ?_
          exact g_mask [true, true, true, true, true, false] (hc _ _ _ _ (Option.some.inj hf).symm)
        · have hf := if_f c16 hf
          refine g_iload C dX12_leastBar_73 rfl ?_
          refine g_iload_n (i := 3) C dX12_leastBar_75 rfl rfl ?_
          refine g_icmp_ne (tgt := 94) C dX12_leastBar_76 (by decide) rfl rfl (fun c17 => ?_) (fun c17 => ?_)
          · have hf := if_f c17 hf
            refine g_iload C dX12_leastBar_94 rfl ?_
            refine g_istore_n (i := 2) C dX12_leastBar_96 rfl (by decide) rfl ?_
            refine g_iload C dX12_leastBar_97 rfl ?_
            refine g_istore_n (i := 3) C dX12_leastBar_99 rfl (by decide) rfl ?_
            refine g_iinc C dX12_leastBar_100 rfl (by decide) rfl ?_
            refine g_goto (tgt := 31) C dX12_leastBar_103 (by decide) ?_
            exact g_mask [true, true, true, true, true, false] (hc _ _ _ _ (Option.some.inj hf).symm)
          · have hf := if_t c17 hf
            refine g_iload C dX12_leastBar_79 rfl ?_
            obtain ⟨r19, σ18, h20, hf⟩ := ob_inv hf
            refine g_callSi C (c_X12_bits  h20) (va_cwS 1 C.2.2.2.2.1 gX12_leastBar_X12_bits rfl rfl rfl (by decide +kernel) ⟨Nat.le_of_ble_eq_true rfl, Nat.le_of_ble_eq_true rfl⟩) rfl rfl (Nat.le_of_ble_eq_true rfl) dX12_leastBar_81 ⟨Nat.zero_le _, Nat.zero_le _⟩ ?_
            refine g_iload_n (i := 2) C dX12_leastBar_84 rfl rfl ?_
            obtain ⟨r22, σ21, h23, hf⟩ := ob_inv hf
            refine g_callSi C (c_X12_bits  h23) (va_cwS 1 C.2.2.2.2.1 gX12_leastBar_X12_bits rfl rfl rfl (by decide +kernel) ⟨Nat.le_of_ble_eq_true rfl, Nat.le_of_ble_eq_true rfl⟩) rfl rfl (Nat.le_of_ble_eq_true rfl) dX12_leastBar_85 ⟨Nat.zero_le _, Nat.zero_le _⟩ ?_
            refine g_icmp_lt (tgt := 94) C dX12_leastBar_88 (by decide) rfl rfl (fun c24 => ?_) (fun c24 => ?_)
            · have hf := if_t c24 hf
              refine g_iload C dX12_leastBar_94 rfl ?_
              refine g_istore_n (i := 2) C dX12_leastBar_96 rfl (by decide) rfl ?_
              refine g_iload C dX12_leastBar_97 rfl ?_
              refine g_istore_n (i := 3) C dX12_leastBar_99 rfl (by decide) rfl ?_
              refine g_iinc C dX12_leastBar_100 rfl (by decide) rfl ?_
              refine g_goto (tgt := 31) C dX12_leastBar_103 (by decide) ?_
              exact g_mask [true, true, true, true, true, false] (hc _ _ _ _ (Option.some.inj hf).symm)
            · have hf := if_f c24 hf
              refine g_goto (tgt := 100) C dX12_leastBar_91 (by decide) ?_
              refine g_iinc C dX12_leastBar_100 rfl (by decide) rfl ?_
              refine g_goto (tgt := 31) C dX12_leastBar_103 (by decide) ?_
              exact g_mask [true, true, true, true, true, false] (hc _ _ _ _ (Option.some.inj hf).symm)
set_option maxHeartbeats 4000000 in
set_option maxRecDepth 100000 in
theorem w_X12_leastBar_31 (C : Cx p s m args c cX12_leastBar 6 RX12 wsX12_leastBar D ca A) (hr : meth.sig.returnType = (some .int)) (hlk : meth.locks = false) {p1 : Int} {n : Nat} {x2 x3 x4 : Int} {σ : Mem} {b : (Int × Int × Mem)} (h : itr (fun z : Int × Int × Int × Mem => f_X12_leastBar_31 p1 z.1 z.2.1 z.2.2.1 z.2.2.2) n (x2, x3, x4, σ) = some b) (he : ∀ (y2 y3 : Int) (σ : Mem), b = (y2, y3, σ) → G p l e rm_X12_leastBar s m args below meth c 6 D ca ad A 0 0 (MQ below (Qi D ca ad A r0 σ0) args s 0 0 A) σ 106 [some (.ref (ad 120)), some (.int (iI p1)), some (.int (iI y2)), some (.int (iI y3)), none, none] []) : G p l e rm_X12_leastBar s m args below meth c 6 D ca ad A 0 0 (MQ below (Qi D ca ad A r0 σ0) args s 0 0 A) σ 31 [some (.ref (ad 120)), some (.int (iI p1)), some (.int (iI x2)), some (.int (iI x3)), some (.int (iI x4)), none] [] :=
  itr_rule (P := fun z : Int × Int × Int × Mem => G p l e rm_X12_leastBar s m args below meth c 6 D ca ad A 0 0 (MQ below (Qi D ca ad A r0 σ0) args s 0 0 A) z.2.2.2 31 [some (.ref (ad 120)), some (.int (iI p1)), some (.int (iI z.1)), some (.int (iI z.2.1)), some (.int (iI z.2.2.1)), none] []) (E := fun b => ∀ (y2 y3 : Int) (σ : Mem), b = (y2, y3, σ) → G p l e rm_X12_leastBar s m args below meth c 6 D ca ad A 0 0 (MQ below (Qi D ca ad A r0 σ0) args s 0 0 A) σ 106 [some (.ref (ad 120)), some (.int (iI p1)), some (.int (iI y2)), some (.int (iI y3)), none, none] []) (fun z o hb hc he => it_X12_leastBar_31 C hr hlk (fun _ _ _ _ e => hc _ e) (fun _ _ _ e => (he _ e) _ _ _ rfl) hb) n _ _ h he
set_option maxHeartbeats 4000000 in
set_option maxRecDepth 100000 in
theorem c_X12_leastBar {v1 : Int} {σ : Mem} (hf : f_X12_leastBar v1 σ = some (r0, σ0)) : CTi l D ca ad A yX12_leastBar wsX12_leastBar rm_X12_leastBar [.ref (ad 120), .int (iI v1)] σ r0 σ0 := by
  refine ct_i (cc := cX12_leastBar) (own := RX12) (maxL := 6) (ret := (some .int)) (lv0 := [some (.ref (ad 120)), some (.int (iI v1)), none, none, none, none]) (by decide) rfl rfl rfl (Nat.le_of_ble_eq_true rfl) ?_
  intro p e s m below meth c C hr hlk hnm
  unfold f_X12_leastBar at hf
  refine g_aload_n (i := 0) C dX12_leastBar_0 rfl rfl ?_
  obtain ⟨r2, σ1, h3, hf⟩ := ob_inv hf
  refine g_callVi C (c_X12_isOpen  h3) (cwV 0 C.2.2.2.2.1 gX12_leastBar_X12_isOpen rfl rfl rfl (by decide +kernel) ⟨Nat.le_of_ble_eq_true rfl, Nat.le_of_ble_eq_true rfl⟩) ob_X12 rfl rfl rfl rfl (Nat.le_of_ble_eq_true rfl) dX12_leastBar_1 ⟨Nat.zero_le _, Nat.zero_le _⟩ ?_
  refine g_if_ne (tgt := 10) C dX12_leastBar_4 (by decide) rfl (fun c4 => ?_) (fun c4 => ?_)
  · have hf := if_f c4 hf
    refine g_iload_n (i := 1) C dX12_leastBar_10 rfl rfl ?_
    refine g_i2l C dX12_leastBar_11 rfl ?_
    refine g_lconst (z := 0) C dX12_leastBar_12 (by decide) ?_
    refine g_lconst (z := 1) C dX12_leastBar_13 (by decide) ?_
    obtain ⟨r6, σ5, h7, hf⟩ := ob_inv hf
    refine g_callSi C (c_X12_isIn  h7) (va_cwS 3 C.2.2.2.2.1 gX12_leastBar_X12_isIn rfl rfl rfl (by decide +kernel) ⟨Nat.le_of_ble_eq_true rfl, Nat.le_of_ble_eq_true rfl⟩) rfl rfl (Nat.le_of_ble_eq_true rfl) dX12_leastBar_14 ⟨Nat.zero_le _, Nat.zero_le _⟩ ?_
    refine g_if_ne (tgt := 22) C dX12_leastBar_17 (by decide) rfl (fun c8 => ?_) (fun c8 => ?_)
    · have hf := if_f c8 hf
      refine g_bipush C dX12_leastBar_22 (by decide) ?_
      refine g_istore_n (i := 2) C dX12_leastBar_24 rfl (by decide) rfl ?_
      refine g_bipush C dX12_leastBar_25 (by decide) ?_
      refine g_istore_n (i := 3) C dX12_leastBar_27 rfl (by decide) rfl ?_
      refine g_iconst C dX12_leastBar_28 ?_
      refine g_istore C dX12_leastBar_29 (by decide) rfl ?_
      obtain ⟨q25, hl26, hf⟩ := lb_inv hf
      refine g_mask [true, true, true, true, true, false] (w_X12_leastBar_31 C hr hlk hl26 ?_)
      · rintro y27 y28 σ29 rfl
        refine g_aload_n (i := 0) C dX12_leastBar_106 rfl rfl ?_
        refine g_iconst C dX12_leastBar_107 ?_
        refine gp_X12_barred (i := 2) C hiX12_leastBar_X12 rfl dX12_leastBar_108 ?_
        refine g_iload_n (i := 1) C dX12_leastBar_111 rfl rfl ?_
        refine g_if_ne (tgt := 119) C dX12_leastBar_112 (by decide) rfl (fun c31 => ?_) (fun c31 => ?_)
        · have hf := if_f c31 hf
          refine g_iload_n (i := 3) C dX12_leastBar_119 rfl rfl ?_
          obtain ⟨e1, e2⟩ := some_inv hf
          exact g_iret C hr hlk e1 e2 dX12_leastBar_120
        · have hf := if_t c31 hf
          refine g_iload_n (i := 2) C dX12_leastBar_115 rfl rfl ?_
          refine g_goto (tgt := 120) C dX12_leastBar_116 (by decide) ?_
          obtain ⟨e1, e2⟩ := some_inv hf
          exact g_iret C hr hlk e1 e2 dX12_leastBar_120
    · have hf := if_t c8 hf
      refine g_iconst C dX12_leastBar_20 ?_
      obtain ⟨e1, e2⟩ := some_inv hf
      exact g_iret C hr hlk e1 e2 dX12_leastBar_21
  · have hf := if_t c4 hf
    refine g_bipush C dX12_leastBar_7 (by decide) ?_
    obtain ⟨e1, e2⟩ := some_inv hf
    exact g_iret C hr hlk e1 e2 dX12_leastBar_9
/-! X12_wrongLine -/
abbrev rm_X12_wrongLine : Room := { frames := 3, cells := 0, slots := 0, locals := 67 }
theorem hiX12_wrongLine_X12 : ∀ w ∈ u_ws RX12 TX12 24, w ∈ wsX12_wrongLine := fun _ h => (List.mem_cons_of_mem _ (List.mem_append_right _ h))
set_option maxHeartbeats 4000000 in
set_option maxRecDepth 100000 in
theorem it_X12_wrongLine_33 (C : Cx p s m args c cX12_wrongLine 4 RX12 wsX12_wrongLine D ca A) (hr : meth.sig.returnType = (some .int)) (hlk : meth.locks = false) {p1 : Int} {o : (Int × Mem) ⊕ ((Int × Mem) ⊕ (Mem))} (hc : ∀ (x3 : Int) (σ : Mem), o = .inl (x3, σ) → G p l e rm_X12_wrongLine s m args below meth c 4 D ca ad A 0 0 (MQ below (Qi D ca ad A r0 σ0) args s 0 0 A) σ 33 [some (.ref (ad 120)), some (.int (iI p1)), none, some (.int (iI x3))] []) (he1 : ∀ (r1 : Int) (σ1 : Mem), o = .inr (.inl (r1, σ1)) → r1 = r0 ∧ σ1 = σ0) (he2 : ∀ (σ : Mem), o = .inr (.inr σ) → G p l e rm_X12_wrongLine s m args below meth c 4 D ca ad A 0 0 (MQ below (Qi D ca ad A r0 σ0) args s 0 0 A) σ 74 [none, none, none, none] []) {x3 : Int} {σ : Mem} (hf : f_X12_wrongLine_33 p1 x3 σ = some o) : G p l e rm_X12_wrongLine s m args below meth c 4 D ca ad A 0 0 (MQ below (Qi D ca ad A r0 σ0) args s 0 0 A) σ 33 [some (.ref (ad 120)), some (.int (iI p1)), none, some (.int (iI x3))] [] := by
  unfold f_X12_wrongLine_33 at hf
  refine g_iload_n (i := 3) C dX12_wrongLine_33 rfl rfl ?_
  refine g_aload_n (i := 0) C dX12_wrongLine_34 rfl rfl ?_
  refine gg_X12_size (i := 1) C hiX12_wrongLine_X12 rfl dX12_wrongLine_35 ?_
  refine g_iload_n (i := 1) C dX12_wrongLine_38 rfl rfl ?_
  obtain ⟨hb14, hf⟩ := if_inv hf
  refine g_iaload (N := 8) C (by decide) dX12_wrongLine_39 rfl hb14 ?_
  refine g_icmp_ge (tgt := 74) C dX12_wrongLine_40 (by decide) rfl rfl (fun c15 => ?_) (fun c15 => ?_)
  · have hf := if_t c15 hf
    exact g_mask [false, false, false, false] (he2 _ (Option.some.inj hf).symm)
  · have hf := if_f c15 hf
    refine g_aload_n (i := 0) C dX12_wrongLine_43 rfl rfl ?_
    refine gg_X12_element (i := 3) C hiX12_wrongLine_X12 rfl dX12_wrongLine_44 ?_
    refine g_bipush C dX12_wrongLine_47 (by decide) ?_
    refine g_iload_n (i := 1) C dX12_wrongLine_49 rfl rfl ?_
    refine g_imul C dX12_wrongLine_50 ?_
    refine g_iload_n (i := 3) C dX12_wrongLine_51 rfl rfl ?_
    refine g_iadd C dX12_wrongLine_52 ?_
    obtain ⟨hb16, hf⟩ := if_inv hf
    refine g_iaload (N := 960) C (by decide) dX12_wrongLine_53 rfl hb16 ?_
    refine g_i2l C dX12_wrongLine_54 rfl ?_
    refine g_lconst (z := 0) C dX12_wrongLine_55 (by decide) ?_
    refine g_ldc2 (i := 4) (z := 1999) C dX12_wrongLine_56 rfl (by decide) ?_
    obtain ⟨r18, σ17, h19, hf⟩ := ob_inv hf
    refine g_callSi C (c_X12_isIn  h19) (va_cwS 3 C.2.2.2.2.1 gX12_wrongLine_X12_isIn rfl rfl rfl (by decide +kernel) ⟨Nat.le_of_ble_eq_true rfl, Nat.le_of_ble_eq_true rfl⟩) rfl rfl (Nat.le_of_ble_eq_true rfl) dX12_wrongLine_59 ⟨Nat.zero_le _, Nat.zero_le _⟩ ?_
    refine g_if_ne (tgt := 68) C dX12_wrongLine_62 (by decide) rfl (fun c20 => ?_) (fun c20 => ?_)
    · have hf := if_f c20 hf
      refine g_iinc C dX12_wrongLine_68 rfl (by decide) rfl ?_
      refine g_goto (tgt := 33) C dX12_wrongLine_71 (by decide) ?_
      exact g_mask [true, true, false, true] (hc _ _ (Option.some.inj hf).symm)
    · have hf := if_t c20 hf
      refine g_bipush C dX12_wrongLine_65 (by decide) ?_
      obtain ⟨e1, e2⟩ := he1 _ _ (Option.some.inj hf).symm
      exact g_iret C hr hlk e1 e2 dX12_wrongLine_67
set_option maxHeartbeats 4000000 in
set_option maxRecDepth 100000 in
theorem w_X12_wrongLine_33 (C : Cx p s m args c cX12_wrongLine 4 RX12 wsX12_wrongLine D ca A) (hr : meth.sig.returnType = (some .int)) (hlk : meth.locks = false) {p1 : Int} {n : Nat} {x3 : Int} {σ : Mem} {b : ((Int × Mem) ⊕ (Mem))} (h : itr (fun z : Int × Mem => f_X12_wrongLine_33 p1 z.1 z.2) n (x3, σ) = some b) (he1 : ∀ (r1 : Int) (σ1 : Mem), b = .inl (r1, σ1) → r1 = r0 ∧ σ1 = σ0) (he2 : ∀ (σ : Mem), b = .inr σ → G p l e rm_X12_wrongLine s m args below meth c 4 D ca ad A 0 0 (MQ below (Qi D ca ad A r0 σ0) args s 0 0 A) σ 74 [none, none, none, none] []) : G p l e rm_X12_wrongLine s m args below meth c 4 D ca ad A 0 0 (MQ below (Qi D ca ad A r0 σ0) args s 0 0 A) σ 33 [some (.ref (ad 120)), some (.int (iI p1)), none, some (.int (iI x3))] [] :=
  itr_rule (P := fun z : Int × Mem => G p l e rm_X12_wrongLine s m args below meth c 4 D ca ad A 0 0 (MQ below (Qi D ca ad A r0 σ0) args s 0 0 A) z.2 33 [some (.ref (ad 120)), some (.int (iI p1)), none, some (.int (iI z.1))] []) (E := fun b => (∀ (r1 : Int) (σ1 : Mem), b = .inl (r1, σ1) → r1 = r0 ∧ σ1 = σ0) ∧ (∀ (σ : Mem), b = .inr σ → G p l e rm_X12_wrongLine s m args below meth c 4 D ca ad A 0 0 (MQ below (Qi D ca ad A r0 σ0) args s 0 0 A) σ 74 [none, none, none, none] [])) (fun z o hb hc he => it_X12_wrongLine_33 C hr hlk (fun _ _ e => hc _ e) (fun r1 σ1 e => (he _ e).1 r1 σ1 rfl) (fun _ e => (he _ e).2 _ rfl) hb) n _ _ h ⟨he1, he2⟩
set_option maxHeartbeats 4000000 in
set_option maxRecDepth 100000 in
theorem c_X12_wrongLine {v1 : Int} {σ : Mem} (hf : f_X12_wrongLine v1 σ = some (r0, σ0)) : CTi l D ca ad A yX12_wrongLine wsX12_wrongLine rm_X12_wrongLine [.ref (ad 120), .int (iI v1)] σ r0 σ0 := by
  refine ct_i (cc := cX12_wrongLine) (own := RX12) (maxL := 4) (ret := (some .int)) (lv0 := [some (.ref (ad 120)), some (.int (iI v1)), none, none]) (by decide) rfl rfl rfl (Nat.le_of_ble_eq_true rfl) ?_
  intro p e s m below meth c C hr hlk hnm
  unfold f_X12_wrongLine at hf
  refine g_aload_n (i := 0) C dX12_wrongLine_0 rfl rfl ?_
  refine g_iload_n (i := 1) C dX12_wrongLine_1 rfl rfl ?_
  refine g_iconst C dX12_wrongLine_2 ?_
  obtain ⟨r2, σ1, h3, hf⟩ := ob_inv hf
  refine g_callVi C (c_X12_wrongRow  h3) (cwV 2 C.2.2.2.2.1 gX12_wrongLine_X12_wrongRow rfl rfl rfl (by decide +kernel) ⟨Nat.le_of_ble_eq_true rfl, Nat.le_of_ble_eq_true rfl⟩) ob_X12 rfl rfl rfl rfl (Nat.le_of_ble_eq_true rfl) dX12_wrongLine_3 ⟨Nat.zero_le _, Nat.zero_le _⟩ ?_
  refine g_istore_n (i := 2) C dX12_wrongLine_6 rfl (by decide) rfl ?_
  refine g_iload_n (i := 2) C dX12_wrongLine_7 rfl rfl ?_
  refine g_if_eq (tgt := 13) C dX12_wrongLine_8 (by decide) rfl (fun c4 => ?_) (fun c4 => ?_)
  · have hf := if_t c4 hf
    refine g_aload_n (i := 0) C dX12_wrongLine_13 rfl rfl ?_
    refine gg_X12_size (i := 1) C hiX12_wrongLine_X12 rfl dX12_wrongLine_14 ?_
    refine g_iload_n (i := 1) C dX12_wrongLine_17 rfl rfl ?_
    obtain ⟨hb5, hf⟩ := if_inv hf
    refine g_iaload (N := 8) C (by decide) dX12_wrongLine_18 rfl hb5 ?_
    refine g_aload_n (i := 0) C dX12_wrongLine_19 rfl rfl ?_
    refine gg_X12_s (i := 2) C hiX12_wrongLine_X12 rfl dX12_wrongLine_20 ?_
    refine g_iconst C dX12_wrongLine_23 ?_
    refine g_iaload (N := 39) (j := 1) C (by decide) dX12_wrongLine_24 (by decide) (by decide) ?_
    refine g_icmp_eq (tgt := 31) C dX12_wrongLine_25 (by decide) rfl rfl (fun c6 => ?_) (fun c6 => ?_)
    · have hf := if_t c6 hf
      refine g_iconst C dX12_wrongLine_31 ?_
      refine g_istore_n (i := 3) C dX12_wrongLine_32 rfl (by decide) rfl ?_
      obtain ⟨q21, hl22, hf⟩ := lb_inv hf
      refine g_mask [true, true, false, true] (w_X12_wrongLine_33 C hr hlk hl22 ?_ ?_)
      · rintro r1 σ1 rfl
        exact some_inv hf
      · rintro σ23 rfl
        have hf := se_r hf
        refine g_iconst C dX12_wrongLine_74 ?_
        obtain ⟨e1, e2⟩ := some_inv hf
        exact g_iret C hr hlk e1 e2 dX12_wrongLine_75
    · have hf := if_f c6 hf
      refine g_bipush C dX12_wrongLine_28 (by decide) ?_
      obtain ⟨e1, e2⟩ := some_inv hf
      exact g_iret C hr hlk e1 e2 dX12_wrongLine_30
  · have hf := if_f c4 hf
    refine g_iload_n (i := 2) C dX12_wrongLine_11 rfl rfl ?_
    obtain ⟨e1, e2⟩ := some_inv hf
    exact g_iret C hr hlk e1 e2 dX12_wrongLine_12
/-! X12_byLine -/
abbrev rm_X12_byLine : Room := { frames := 0, cells := 0, slots := 0, locals := 0 }
theorem hiX12_byLine_X12 : ∀ w ∈ u_ws RX12 TX12 24, w ∈ wsX12_byLine := fun _ h => (List.mem_cons_of_mem _ (List.mem_append_right _ h))
set_option maxHeartbeats 4000000 in
set_option maxRecDepth 100000 in
theorem c_X12_byLine {v1 v2 v3 : Int} {σ : Mem} (hf : f_X12_byLine v1 v2 v3 σ = some (r0, σ0)) : CTi l D ca ad A yX12_byLine wsX12_byLine rm_X12_byLine [.ref (ad 120), .int (iI v1), .int (iI v2), .int (iI v3)] σ r0 σ0 := by
  refine ct_i (cc := cX12_byLine) (own := RX12) (maxL := 4) (ret := (some .int)) (lv0 := [some (.ref (ad 120)), some (.int (iI v1)), some (.int (iI v2)), some (.int (iI v3))]) (by decide) rfl rfl rfl (Nat.le_of_ble_eq_true rfl) ?_
  intro p e s m below meth c C hr hlk hnm
  unfold f_X12_byLine at hf
  refine g_iload_n (i := 3) C dX12_byLine_0 rfl rfl ?_
  refine g_iconst C dX12_byLine_1 ?_
  refine g_icmp_ne (b' := 4) (tgt := 17) C dX12_byLine_2 (by decide) rfl (by decide) (fun c1 => ?_) (fun c1 => ?_)
  · have hf := if_f c1 hf
    refine g_aload_n (i := 0) C dX12_byLine_17 rfl rfl ?_
    refine gg_X12_element (i := 2) C hiX12_byLine_X12 rfl dX12_byLine_18 ?_
    refine g_bipush C dX12_byLine_21 (by decide) ?_
    refine g_iload_n (i := 1) C dX12_byLine_23 rfl rfl ?_
    refine g_imul C dX12_byLine_24 ?_
    refine g_iload_n (i := 3) C dX12_byLine_25 rfl rfl ?_
    refine g_iadd C dX12_byLine_26 ?_
    obtain ⟨hb2, hf⟩ := if_inv hf
    refine g_iaload (N := 960) C (by decide) dX12_byLine_27 rfl hb2 ?_
    refine g_aload_n (i := 0) C dX12_byLine_28 rfl rfl ?_
    refine gg_X12_s (i := 1) C hiX12_byLine_X12 rfl dX12_byLine_29 ?_
    refine g_bipush C dX12_byLine_32 (by decide) ?_
    refine g_iconst C dX12_byLine_34 ?_
    refine g_iload_n (i := 3) C dX12_byLine_35 rfl rfl ?_
    refine g_imul C dX12_byLine_36 ?_
    refine g_iadd C dX12_byLine_37 ?_
    refine g_iload_n (i := 2) C dX12_byLine_38 rfl rfl ?_
    refine g_iadd C dX12_byLine_39 ?_
    obtain ⟨hb3, hf⟩ := if_inv hf
    refine g_iaload (N := 39) C (by decide) dX12_byLine_40 rfl hb3 ?_
    refine g_isub C dX12_byLine_41 ?_
    obtain ⟨e1, e2⟩ := some_inv hf
    exact g_iret C hr hlk e1 e2 dX12_byLine_42
  · have hf := if_t c1 hf
    refine g_aload_n (i := 0) C dX12_byLine_5 rfl rfl ?_
    refine gg_X12_s (i := 1) C hiX12_byLine_X12 rfl dX12_byLine_6 ?_
    refine g_bipush C dX12_byLine_9 (by decide) ?_
    refine g_iload_n (i := 2) C dX12_byLine_11 rfl rfl ?_
    refine g_iadd C dX12_byLine_12 ?_
    obtain ⟨hb4, hf⟩ := if_inv hf
    refine g_iaload (N := 39) C (by decide) dX12_byLine_13 rfl hb4 ?_
    refine g_goto (tgt := 42) C dX12_byLine_14 (by decide) ?_
    obtain ⟨e1, e2⟩ := some_inv hf
    exact g_iret C hr hlk e1 e2 dX12_byLine_42
/-! X12_makesBy -/
abbrev rm_X12_makesBy : Room := { frames := 1, cells := 0, slots := 0, locals := 23 }
theorem hiX12_makesBy_X12 : ∀ w ∈ u_ws RX12 TX12 24, w ∈ wsX12_makesBy := fun _ h => (List.mem_cons_of_mem _ (List.mem_append_right _ h))
set_option maxHeartbeats 4000000 in
set_option maxRecDepth 100000 in
theorem it_X12_makesBy_5 (C : Cx p s m args c cX12_makesBy 5 RX12 wsX12_makesBy D ca A) (hr : meth.sig.returnType = (some .int)) (hlk : meth.locks = false) {p1 p2 : Int} {o : (Int × Int × Mem) ⊕ (Int × Mem)} (hc : ∀ (x3 x4 : Int) (σ : Mem), o = .inl (x3, x4, σ) → G p l e rm_X12_makesBy s m args below meth c 5 D ca ad A 0 0 (MQ below (Qi D ca ad A r0 σ0) args s 0 0 A) σ 5 [some (.ref (ad 120)), some (.int (iI p1)), some (.int (iI p2)), some (.int (iI x3)), some (.int (iI x4))] []) (he : ∀ (y3 : Int) (σ : Mem), o = .inr (y3, σ) → G p l e rm_X12_makesBy s m args below meth c 5 D ca ad A 0 0 (MQ below (Qi D ca ad A r0 σ0) args s 0 0 A) σ 47 [some (.ref (ad 120)), some (.int (iI p1)), some (.int (iI p2)), some (.int (iI y3)), none] []) {x3 x4 : Int} {σ : Mem} (hf : f_X12_makesBy_5 p1 p2 x3 x4 σ = some o) : G p l e rm_X12_makesBy s m args below meth c 5 D ca ad A 0 0 (MQ below (Qi D ca ad A r0 σ0) args s 0 0 A) σ 5 [some (.ref (ad 120)), some (.int (iI p1)), some (.int (iI p2)), some (.int (iI x3)), some (.int (iI x4))] [] := by
  unfold f_X12_makesBy_5 at hf
  refine g_iload C dX12_makesBy_5 rfl ?_
  refine g_aload_n (i := 0) C dX12_makesBy_7 rfl rfl ?_
  refine gg_X12_s (i := 1) C hiX12_makesBy_X12 rfl dX12_makesBy_8 ?_
  refine g_iconst C dX12_makesBy_11 ?_
  refine g_iaload (N := 39) (j := 1) C (by decide) dX12_makesBy_12 (by decide) (by decide) ?_
  refine g_icmp_ge (tgt := 47) C dX12_makesBy_13 (by decide) rfl rfl (fun c1 => ?_) (fun c1 => ?_)
  · have hf := if_t c1 hf
    exact g_mask [true, true, true, true, false] (he _ _ (Option.some.inj hf).symm)
  · have hf := if_f c1 hf
    refine g_aload_n (i := 0) C dX12_makesBy_16 rfl rfl ?_
    refine g_iload_n (i := 1) C dX12_makesBy_17 rfl rfl ?_
    refine g_iload_n (i := 2) C dX12_makesBy_18 rfl rfl ?_
    refine g_iload C dX12_makesBy_19 rfl ?_
    obtain ⟨r3, σ2, h4, hf⟩ := ob_inv hf
    refine g_callVi C (c_X12_byLine  h4) (cwV 3 C.2.2.2.2.1 gX12_makesBy_X12_byLine rfl rfl rfl (by decide +kernel) ⟨Nat.le_of_ble_eq_true rfl, Nat.le_of_ble_eq_true rfl⟩) ob_X12 rfl rfl rfl rfl (Nat.le_of_ble_eq_true rfl) dX12_makesBy_21 ⟨Nat.zero_le _, Nat.zero_le _⟩ ?_
    refine g_aload_n (i := 0) C dX12_makesBy_24 rfl rfl ?_
    refine g_iload_n (i := 1) C dX12_makesBy_25 rfl rfl ?_
    refine g_iload_n (i := 2) C dX12_makesBy_26 rfl rfl ?_
    refine g_iload_n (i := 3) C dX12_makesBy_27 rfl rfl ?_
    obtain ⟨r6, σ5, h7, hf⟩ := ob_inv hf
    refine g_callVi C (c_X12_byLine  h7) (cwV 3 C.2.2.2.2.1 gX12_makesBy_X12_byLine rfl rfl rfl (by decide +kernel) ⟨Nat.le_of_ble_eq_true rfl, Nat.le_of_ble_eq_true rfl⟩) ob_X12 rfl rfl rfl rfl (Nat.le_of_ble_eq_true rfl) dX12_makesBy_28 ⟨Nat.zero_le _, Nat.zero_le _⟩ ?_
    refine g_icmp_le (tgt := 39) C dX12_makesBy_31 (by decide) rfl rfl (fun c8 => ?_) (fun c8 => ?_)
    · have hf := if_t c8 hf
      refine g_iload_n (i := 3) C dX12_makesBy_39 rfl rfl ?_
      refine g_istore_n (i := 3) C dX12_makesBy_40 rfl (by decide) rfl ?_
      refine g_iinc C dX12_makesBy_41 rfl (by decide) rfl ?_
      refine g_goto (tgt := 5) C dX12_makesBy_44 (by decide) ?_
      exact g_mask [true, true, true, true, true] (hc _ _ _ (Option.some.inj hf).symm)
    · have hf := if_f c8 hf
      refine g_iload C dX12_makesBy_34 rfl ?_
      refine g_goto (tgt := 40) C dX12_makesBy_36 (by decide) ?_
      refine g_istore_n (i := 3) C dX12_makesBy_40 rfl (by decide) rfl ?_
      refine g_iinc C dX12_makesBy_41 rfl (by decide) rfl ?_
      refine g_goto (tgt := 5) C dX12_makesBy_44 (by decide) ?_
      exact g_mask [true, true, true, true, true] (hc _ _ _ (Option.some.inj hf).symm)
set_option maxHeartbeats 4000000 in
set_option maxRecDepth 100000 in
theorem w_X12_makesBy_5 (C : Cx p s m args c cX12_makesBy 5 RX12 wsX12_makesBy D ca A) (hr : meth.sig.returnType = (some .int)) (hlk : meth.locks = false) {p1 p2 : Int} {n : Nat} {x3 x4 : Int} {σ : Mem} {b : (Int × Mem)} (h : itr (fun z : Int × Int × Mem => f_X12_makesBy_5 p1 p2 z.1 z.2.1 z.2.2) n (x3, x4, σ) = some b) (he : ∀ (y3 : Int) (σ : Mem), b = (y3, σ) → G p l e rm_X12_makesBy s m args below meth c 5 D ca ad A 0 0 (MQ below (Qi D ca ad A r0 σ0) args s 0 0 A) σ 47 [some (.ref (ad 120)), some (.int (iI p1)), some (.int (iI p2)), some (.int (iI y3)), none] []) : G p l e rm_X12_makesBy s m args below meth c 5 D ca ad A 0 0 (MQ below (Qi D ca ad A r0 σ0) args s 0 0 A) σ 5 [some (.ref (ad 120)), some (.int (iI p1)), some (.int (iI p2)), some (.int (iI x3)), some (.int (iI x4))] [] :=
  itr_rule (P := fun z : Int × Int × Mem => G p l e rm_X12_makesBy s m args below meth c 5 D ca ad A 0 0 (MQ below (Qi D ca ad A r0 σ0) args s 0 0 A) z.2.2 5 [some (.ref (ad 120)), some (.int (iI p1)), some (.int (iI p2)), some (.int (iI z.1)), some (.int (iI z.2.1))] []) (E := fun b => ∀ (y3 : Int) (σ : Mem), b = (y3, σ) → G p l e rm_X12_makesBy s m args below meth c 5 D ca ad A 0 0 (MQ below (Qi D ca ad A r0 σ0) args s 0 0 A) σ 47 [some (.ref (ad 120)), some (.int (iI p1)), some (.int (iI p2)), some (.int (iI y3)), none] []) (fun z o hb hc he => it_X12_makesBy_5 C hr hlk (fun _ _ _ e => hc _ e) (fun _ _ e => (he _ e) _ _ rfl) hb) n _ _ h he
set_option maxHeartbeats 4000000 in
set_option maxRecDepth 100000 in
theorem c_X12_makesBy {v1 v2 : Int} {σ : Mem} (hf : f_X12_makesBy v1 v2 σ = some (r0, σ0)) : CTi l D ca ad A yX12_makesBy wsX12_makesBy rm_X12_makesBy [.ref (ad 120), .int (iI v1), .int (iI v2)] σ r0 σ0 := by
  refine ct_i (cc := cX12_makesBy) (own := RX12) (maxL := 5) (ret := (some .int)) (lv0 := [some (.ref (ad 120)), some (.int (iI v1)), some (.int (iI v2)), none, none]) (by decide) rfl rfl rfl (Nat.le_of_ble_eq_true rfl) ?_
  intro p e s m below meth c C hr hlk hnm
  unfold f_X12_makesBy at hf
  refine g_iconst C dX12_makesBy_0 ?_
  refine g_istore_n (i := 3) C dX12_makesBy_1 rfl (by decide) rfl ?_
  refine g_iconst C dX12_makesBy_2 ?_
  refine g_istore C dX12_makesBy_3 (by decide) rfl ?_
  obtain ⟨q9, hl10, hf⟩ := lb_inv hf
  refine g_mask [true, true, true, true, true] (w_X12_makesBy_5 C hr hlk hl10 ?_)
  · rintro y11 σ12 rfl
    refine g_aload_n (i := 0) C dX12_makesBy_47 rfl rfl ?_
    refine gg_X12_s (i := 1) C hiX12_makesBy_X12 rfl dX12_makesBy_48 ?_
    refine g_bipush C dX12_makesBy_51 (by decide) ?_
    refine g_iload_n (i := 2) C dX12_makesBy_53 rfl rfl ?_
    refine g_iadd C dX12_makesBy_54 ?_
    obtain ⟨hb13, hf⟩ := if_inv hf
    refine g_iaload (N := 39) C (by decide) dX12_makesBy_55 rfl hb13 ?_
    refine g_aload_n (i := 0) C dX12_makesBy_56 rfl rfl ?_
    refine g_iload_n (i := 1) C dX12_makesBy_57 rfl rfl ?_
    refine g_iload_n (i := 2) C dX12_makesBy_58 rfl rfl ?_
    refine g_iload_n (i := 3) C dX12_makesBy_59 rfl rfl ?_
    obtain ⟨r15, σ14, h16, hf⟩ := ob_inv hf
    refine g_callVi C (c_X12_byLine  h16) (cwV 3 C.2.2.2.2.1 gX12_makesBy_X12_byLine rfl rfl rfl (by decide +kernel) ⟨Nat.le_of_ble_eq_true rfl, Nat.le_of_ble_eq_true rfl⟩) ob_X12 rfl rfl rfl rfl (Nat.le_of_ble_eq_true rfl) dX12_makesBy_60 ⟨Nat.zero_le _, Nat.zero_le _⟩ ?_
    refine g_icmp_le (tgt := 70) C dX12_makesBy_63 (by decide) rfl rfl (fun c17 => ?_) (fun c17 => ?_)
    · have hf := if_t c17 hf
      refine g_iload_n (i := 3) C dX12_makesBy_70 rfl rfl ?_
      obtain ⟨e1, e2⟩ := some_inv hf
      exact g_iret C hr hlk e1 e2 dX12_makesBy_71
    · have hf := if_f c17 hf
      refine g_iconst C dX12_makesBy_66 ?_
      refine g_goto (tgt := 71) C dX12_makesBy_67 (by decide) ?_
      obtain ⟨e1, e2⟩ := some_inv hf
      exact g_iret C hr hlk e1 e2 dX12_makesBy_71
/-! X12_makes -/
abbrev rm_X12_makes : Room := { frames := 4, cells := 0, slots := 0, locals := 90 }
set_option maxHeartbeats 4000000 in
set_option maxRecDepth 100000 in
theorem c_X12_makes {v1 v2 : Int} {σ : Mem} (hf : f_X12_makes v1 v2 σ = some (r0, σ0)) : CTi l D ca ad A yX12_makes wsX12_makes rm_X12_makes [.ref (ad 120), .int (iI v1), .int (iI v2)] σ r0 σ0 := by
  refine ct_i (cc := cX12_makes) (own := RX12) (maxL := 4) (ret := (some .int)) (lv0 := [some (.ref (ad 120)), some (.int (iI v1)), some (.int (iI v2)), none]) (by decide) rfl rfl rfl (Nat.le_of_ble_eq_true rfl) ?_
  intro p e s m below meth c C hr hlk hnm
  unfold f_X12_makes at hf
  refine g_aload_n (i := 0) C dX12_makes_0 rfl rfl ?_
  obtain ⟨r2, σ1, h3, hf⟩ := ob_inv hf
  refine g_callVi C (c_X12_isOpen  h3) (cwV 0 C.2.2.2.2.1 gX12_makes_X12_isOpen rfl rfl rfl (by decide +kernel) ⟨Nat.le_of_ble_eq_true rfl, Nat.le_of_ble_eq_true rfl⟩) ob_X12 rfl rfl rfl rfl (Nat.le_of_ble_eq_true rfl) dX12_makes_1 ⟨Nat.zero_le _, Nat.zero_le _⟩ ?_
  refine g_if_ne (tgt := 10) C dX12_makes_4 (by decide) rfl (fun c4 => ?_) (fun c4 => ?_)
  · have hf := if_f c4 hf
    refine g_iload_n (i := 1) C dX12_makes_10 rfl rfl ?_
    obtain ⟨r6, σ5, h7, hf⟩ := ob_inv hf
    refine g_callSi C (c_X12_isShelf  h7) (va_cwS 1 C.2.2.2.2.1 gX12_makes_X12_isShelf rfl rfl rfl (by decide +kernel) ⟨Nat.le_of_ble_eq_true rfl, Nat.le_of_ble_eq_true rfl⟩) rfl rfl (Nat.le_of_ble_eq_true rfl) dX12_makes_11 ⟨Nat.zero_le _, Nat.zero_le _⟩ ?_
    refine g_if_eq (tgt := 25) C dX12_makes_14 (by decide) rfl (fun c8 => ?_) (fun c8 => ?_)
    · have hf := if_t c8 hf
      refine g_iconst C dX12_makes_25 ?_
      obtain ⟨e1, e2⟩ := some_inv hf
      exact g_iret C hr hlk e1 e2 dX12_makes_26
    · have hf := if_f c8 hf
      refine g_aload_n (i := 0) C dX12_makes_17 rfl rfl ?_
      refine g_iload_n (i := 2) C dX12_makes_18 rfl rfl ?_
      obtain ⟨r10, σ9, h11, hf⟩ := ob_inv hf
      refine g_callVi C (c_X12_isSort  h11) (cwV 1 C.2.2.2.2.1 gX12_makes_X12_isSort rfl rfl rfl (by decide +kernel) ⟨Nat.le_of_ble_eq_true rfl, Nat.le_of_ble_eq_true rfl⟩) ob_X12 rfl rfl rfl rfl (Nat.le_of_ble_eq_true rfl) dX12_makes_19 ⟨Nat.zero_le _, Nat.zero_le _⟩ ?_
      refine g_if_ne (tgt := 27) C dX12_makes_22 (by decide) rfl (fun c12 => ?_) (fun c12 => ?_)
      · have hf := if_f c12 hf
        refine g_aload_n (i := 0) C dX12_makes_27 rfl rfl ?_
        refine g_iload_n (i := 1) C dX12_makes_28 rfl rfl ?_
        obtain ⟨r14, σ13, h15, hf⟩ := ob_inv hf
        refine g_callVi C (c_X12_wrongLine  h15) (cwV 1 C.2.2.2.2.1 gX12_makes_X12_wrongLine rfl rfl rfl (by decide +kernel) ⟨Nat.le_of_ble_eq_true rfl, Nat.le_of_ble_eq_true rfl⟩) ob_X12 rfl rfl rfl rfl (Nat.le_of_ble_eq_true rfl) dX12_makes_29 ⟨Nat.zero_le _, Nat.zero_le _⟩ ?_
        refine g_istore_n (i := 3) C dX12_makes_32 rfl (by decide) rfl ?_
        refine g_iload_n (i := 3) C dX12_makes_33 rfl rfl ?_
        refine g_if_eq (tgt := 41) C dX12_makes_34 (by decide) rfl (fun c16 => ?_) (fun c16 => ?_)
        · have hf := if_t c16 hf
          refine g_aload_n (i := 0) C dX12_makes_41 rfl rfl ?_
          refine g_iload_n (i := 1) C dX12_makes_42 rfl rfl ?_
          refine g_iload_n (i := 2) C dX12_makes_43 rfl rfl ?_
          obtain ⟨r18, σ17, h19, hf⟩ := ob_inv hf
          refine g_callVi C (c_X12_makesBy  h19) (cwV 2 C.2.2.2.2.1 gX12_makes_X12_makesBy rfl rfl rfl (by decide +kernel) ⟨Nat.le_of_ble_eq_true rfl, Nat.le_of_ble_eq_true rfl⟩) ob_X12 rfl rfl rfl rfl (Nat.le_of_ble_eq_true rfl) dX12_makes_44 ⟨Nat.zero_le _, Nat.zero_le _⟩ ?_
          obtain ⟨e1, e2⟩ := some_inv hf
          exact g_iret C hr hlk e1 e2 dX12_makes_47
        · have hf := if_f c16 hf
          refine g_iload_n (i := 3) C dX12_makes_37 rfl rfl ?_
          refine g_goto (tgt := 47) C dX12_makes_38 (by decide) ?_
          obtain ⟨e1, e2⟩ := some_inv hf
          exact g_iret C hr hlk e1 e2 dX12_makes_47
      · have hf := if_t c12 hf
        refine g_iconst C dX12_makes_25 ?_
        obtain ⟨e1, e2⟩ := some_inv hf
        exact g_iret C hr hlk e1 e2 dX12_makes_26
  · have hf := if_t c4 hf
    refine g_bipush C dX12_makes_7 (by decide) ?_
    obtain ⟨e1, e2⟩ := some_inv hf
    exact g_iret C hr hlk e1 e2 dX12_makes_9
/-! X12_loses -/
abbrev rm_X12_loses : Room := { frames := 4, cells := 0, slots := 0, locals := 90 }
theorem hiX12_loses_X12 : ∀ w ∈ u_ws RX12 TX12 24, w ∈ wsX12_loses := fun _ h => (List.mem_cons_of_mem _ (List.mem_append_right _ h))
set_option maxHeartbeats 4000000 in
set_option maxRecDepth 100000 in
theorem it_X12_loses_40 (C : Cx p s m args c cX12_loses 6 RX12 wsX12_loses D ca A) (hr : meth.sig.returnType = (some .int)) (hlk : meth.locks = false) {p1 p3 : Int} {o : (Int × Int × Mem) ⊕ (Int × Mem)} (hc : ∀ (x4 x5 : Int) (σ : Mem), o = .inl (x4, x5, σ) → G p l e rm_X12_loses s m args below meth c 6 D ca ad A 0 0 (MQ below (Qi D ca ad A r0 σ0) args s 0 0 A) σ 40 [some (.ref (ad 120)), some (.int (iI p1)), none, some (.int (iI p3)), some (.int (iI x4)), some (.int (iI x5))] []) (he : ∀ (y4 : Int) (σ : Mem), o = .inr (y4, σ) → G p l e rm_X12_loses s m args below meth c 6 D ca ad A 0 0 (MQ below (Qi D ca ad A r0 σ0) args s 0 0 A) σ 119 [some (.ref (ad 120)), some (.int (iI p1)), none, some (.int (iI p3)), some (.int (iI y4)), none] []) {x4 x5 : Int} {σ : Mem} (hf : f_X12_loses_40 p1 p3 x4 x5 σ = some o) : G p l e rm_X12_loses s m args below meth c 6 D ca ad A 0 0 (MQ below (Qi D ca ad A r0 σ0) args s 0 0 A) σ 40 [some (.ref (ad 120)), some (.int (iI p1)), none, some (.int (iI p3)), some (.int (iI x4)), some (.int (iI x5))] [] := by
  unfold f_X12_loses_40 at hf
  refine g_iload C dX12_loses_40 rfl ?_
  refine g_aload_n (i := 0) C dX12_loses_42 rfl rfl ?_
  refine gg_X12_s (i := 1) C hiX12_loses_X12 rfl dX12_loses_43 ?_
  refine g_iconst C dX12_loses_46 ?_
  refine g_iaload (N := 39) (j := 0) C (by decide) dX12_loses_47 (by decide) (by decide) ?_
  refine g_icmp_ge (tgt := 119) C dX12_loses_48 (by decide) rfl rfl (fun c10 => ?_) (fun c10 => ?_)
  · have hf := if_t c10 hf
    exact g_mask [true, true, false, true, true, false] (he _ _ (Option.some.inj hf).symm)
  · have hf := if_f c10 hf
    refine g_iload C dX12_loses_51 rfl ?_
    refine g_aload_n (i := 0) C dX12_loses_53 rfl rfl ?_
    refine g_iload_n (i := 1) C dX12_loses_54 rfl rfl ?_
    refine g_iload C dX12_loses_55 rfl ?_
    obtain ⟨r12, σ11, h13, hf⟩ := ob_inv hf
    refine g_callVi C (c_X12_makesBy  h13) (cwV 2 C.2.2.2.2.1 gX12_loses_X12_makesBy rfl rfl rfl (by decide +kernel) ⟨Nat.le_of_ble_eq_true rfl, Nat.le_of_ble_eq_true rfl⟩) ob_X12 rfl rfl rfl rfl (Nat.le_of_ble_eq_true rfl) dX12_loses_57 ⟨Nat.zero_le _, Nat.zero_le _⟩ ?_
    refine g_iload_n (i := 3) C dX12_loses_60 rfl rfl ?_
    refine g_icmp_ne (tgt := 109) C dX12_loses_61 (by decide) rfl rfl (fun c14 => ?_) (fun c14 => ?_)
    · have hf := if_f c14 hf
      refine g_iconst C dX12_loses_109 ?_
      refine g_iadd C dX12_loses_110 ?_
      refine g_istore C dX12_loses_111 (by decide) rfl ?_
      refine g_iinc C dX12_loses_113 rfl (by decide) rfl ?_
      refine g_goto (tgt := 40) C dX12_loses_116 (by decide) ?_
      exact g_mask [true, true, false, true, true, true] (hc _ _ _ (Option.some.inj hf).symm)
    · have hf := if_t c14 hf
      refine g_aload_n (i := 0) C dX12_loses_64 rfl rfl ?_
      refine gg_X12_s (i := 1) C hiX12_loses_X12 rfl dX12_loses_65 ?_
      refine g_iconst C dX12_loses_68 ?_
      refine g_iload C dX12_loses_69 rfl ?_
      refine g_iadd C dX12_loses_71 ?_
      obtain ⟨hb15, hf⟩ := if_inv hf
      refine g_iaload (N := 39) C (by decide) dX12_loses_72 rfl hb15 ?_
      refine g_aload_n (i := 0) C dX12_loses_73 rfl rfl ?_
      refine gg_X12_s (i := 1) C hiX12_loses_X12 rfl dX12_loses_74 ?_
      refine g_bipush C dX12_loses_77 (by decide) ?_
      refine g_iload C dX12_loses_79 rfl ?_
      refine g_iadd C dX12_loses_81 ?_
      obtain ⟨hb16, hf⟩ := if_inv hf
      refine g_iaload (N := 39) C (by decide) dX12_loses_82 rfl hb16 ?_
      refine g_aload_n (i := 0) C dX12_loses_83 rfl rfl ?_
      refine gg_X12_s (i := 1) C hiX12_loses_X12 rfl dX12_loses_84 ?_
      refine g_bipush C dX12_loses_87 (by decide) ?_
      refine g_iload_n (i := 3) C dX12_loses_89 rfl rfl ?_
      refine g_iadd C dX12_loses_90 ?_
      obtain ⟨hb17, hf⟩ := if_inv hf
      refine g_iaload (N := 39) C (by decide) dX12_loses_91 rfl hb17 ?_
      refine g_iadd C dX12_loses_92 ?_
      refine g_aload_n (i := 0) C dX12_loses_93 rfl rfl ?_
      refine gg_X12_element (i := 2) C hiX12_loses_X12 rfl dX12_loses_94 ?_
      refine g_bipush C dX12_loses_97 (by decide) ?_
      refine g_iload_n (i := 1) C dX12_loses_99 rfl rfl ?_
      refine g_imul C dX12_loses_100 ?_
      refine g_iload_n (i := 3) C dX12_loses_101 rfl rfl ?_
      refine g_iadd C dX12_loses_102 ?_
      obtain ⟨hb18, hf⟩ := if_inv hf
      refine g_iaload (N := 960) C (by decide) dX12_loses_103 rfl hb18 ?_
      refine g_isub C dX12_loses_104 ?_
      refine g_imul C dX12_loses_105 ?_
      refine g_goto (tgt := 110) C dX12_loses_106 (by decide) ?_
      refine g_iadd C dX12_loses_110 ?_
      refine g_istore C dX12_loses_111 (by decide) rfl ?_
      refine g_iinc C dX12_loses_113 rfl (by decide) rfl ?_
      refine g_goto (tgt := 40) C dX12_loses_116 (by decide) ?_
      exact g_mask [true, true, false, true, true, true] (hc _ _ _ (Option.some.inj hf).symm)
set_option maxHeartbeats 4000000 in
set_option maxRecDepth 100000 in
theorem w_X12_loses_40 (C : Cx p s m args c cX12_loses 6 RX12 wsX12_loses D ca A) (hr : meth.sig.returnType = (some .int)) (hlk : meth.locks = false) {p1 p3 : Int} {n : Nat} {x4 x5 : Int} {σ : Mem} {b : (Int × Mem)} (h : itr (fun z : Int × Int × Mem => f_X12_loses_40 p1 p3 z.1 z.2.1 z.2.2) n (x4, x5, σ) = some b) (he : ∀ (y4 : Int) (σ : Mem), b = (y4, σ) → G p l e rm_X12_loses s m args below meth c 6 D ca ad A 0 0 (MQ below (Qi D ca ad A r0 σ0) args s 0 0 A) σ 119 [some (.ref (ad 120)), some (.int (iI p1)), none, some (.int (iI p3)), some (.int (iI y4)), none] []) : G p l e rm_X12_loses s m args below meth c 6 D ca ad A 0 0 (MQ below (Qi D ca ad A r0 σ0) args s 0 0 A) σ 40 [some (.ref (ad 120)), some (.int (iI p1)), none, some (.int (iI p3)), some (.int (iI x4)), some (.int (iI x5))] [] :=
  itr_rule (P := fun z : Int × Int × Mem => G p l e rm_X12_loses s m args below meth c 6 D ca ad A 0 0 (MQ below (Qi D ca ad A r0 σ0) args s 0 0 A) z.2.2 40 [some (.ref (ad 120)), some (.int (iI p1)), none, some (.int (iI p3)), some (.int (iI z.1)), some (.int (iI z.2.1))] []) (E := fun b => ∀ (y4 : Int) (σ : Mem), b = (y4, σ) → G p l e rm_X12_loses s m args below meth c 6 D ca ad A 0 0 (MQ below (Qi D ca ad A r0 σ0) args s 0 0 A) σ 119 [some (.ref (ad 120)), some (.int (iI p1)), none, some (.int (iI p3)), some (.int (iI y4)), none] []) (fun z o hb hc he => it_X12_loses_40 C hr hlk (fun _ _ _ e => hc _ e) (fun _ _ e => (he _ e) _ _ rfl) hb) n _ _ h he
set_option maxHeartbeats 4000000 in
set_option maxRecDepth 100000 in
theorem it_X12_loses_24 (C : Cx p s m args c cX12_loses 6 RX12 wsX12_loses D ca A) (hr : meth.sig.returnType = (some .int)) (hlk : meth.locks = false) {p1 : Int} {o : (Int × Mem) ⊕ ((Int × Mem) ⊕ (Mem))} (hc : ∀ (x3 : Int) (σ : Mem), o = .inl (x3, σ) → G p l e rm_X12_loses s m args below meth c 6 D ca ad A 0 0 (MQ below (Qi D ca ad A r0 σ0) args s 0 0 A) σ 24 [some (.ref (ad 120)), some (.int (iI p1)), none, some (.int (iI x3)), none, none] []) (he1 : ∀ (r1 : Int) (σ1 : Mem), o = .inr (.inl (r1, σ1)) → r1 = r0 ∧ σ1 = σ0) (he2 : ∀ (σ : Mem), o = .inr (.inr σ) → G p l e rm_X12_loses s m args below meth c 6 D ca ad A 0 0 (MQ below (Qi D ca ad A r0 σ0) args s 0 0 A) σ 132 [none, none, none, none, none, none] []) {x3 : Int} {σ : Mem} (hf : f_X12_loses_24 p1 x3 σ = some o) : G p l e rm_X12_loses s m args below meth c 6 D ca ad A 0 0 (MQ below (Qi D ca ad A r0 σ0) args s 0 0 A) σ 24 [some (.ref (ad 120)), some (.int (iI p1)), none, some (.int (iI x3)), none, none] [] := by
  unfold f_X12_loses_24 at hf
  refine g_iload_n (i := 3) C dX12_loses_24 rfl rfl ?_
  refine g_aload_n (i := 0) C dX12_loses_25 rfl rfl ?_
  refine gg_X12_s (i := 1) C hiX12_loses_X12 rfl dX12_loses_26 ?_
  refine g_iconst C dX12_loses_29 ?_
  refine g_iaload (N := 39) (j := 1) C (by decide) dX12_loses_30 (by decide) (by decide) ?_
  refine g_icmp_ge (tgt := 132) C dX12_loses_31 (by decide) rfl rfl (fun c25 => ?_) (fun c25 => ?_)
  · have hf := if_t c25 hf
    exact g_mask [false, false, false, false, false, false] (he2 _ (Option.some.inj hf).symm)
  · have hf := if_f c25 hf
    refine g_iconst C dX12_loses_34 ?_
    refine g_istore C dX12_loses_35 (by decide) rfl ?_
    refine g_iconst C dX12_loses_37 ?_
    refine g_istore C dX12_loses_38 (by decide) rfl ?_
    obtain ⟨q26, hl27, hf⟩ := lb_inv hf
    refine g_mask [true, true, false, true, true, true] (w_X12_loses_40 C hr hlk hl27 ?_)
    · rintro y28 σ29 rfl
      refine g_iload C dX12_loses_119 rfl ?_
      refine g_if_ge (tgt := 126) C dX12_loses_121 (by decide) rfl (fun c30 => ?_) (fun c30 => ?_)
      · have hf := if_t c30 hf
        refine g_iinc C dX12_loses_126 rfl (by decide) rfl ?_
        refine g_goto (tgt := 24) C dX12_loses_129 (by decide) ?_
        exact g_mask [true, true, false, true, false, false] (hc _ _ (Option.some.inj hf).symm)
      · have hf := if_f c30 hf
        refine g_iload_n (i := 3) C dX12_loses_124 rfl rfl ?_
        obtain ⟨e1, e2⟩ := he1 _ _ (Option.some.inj hf).symm
        exact g_iret C hr hlk e1 e2 dX12_loses_125
set_option maxHeartbeats 4000000 in
set_option maxRecDepth 100000 in
theorem w_X12_loses_24 (C : Cx p s m args c cX12_loses 6 RX12 wsX12_loses D ca A) (hr : meth.sig.returnType = (some .int)) (hlk : meth.locks = false) {p1 : Int} {n : Nat} {x3 : Int} {σ : Mem} {b : ((Int × Mem) ⊕ (Mem))} (h : itr (fun z : Int × Mem => f_X12_loses_24 p1 z.1 z.2) n (x3, σ) = some b) (he1 : ∀ (r1 : Int) (σ1 : Mem), b = .inl (r1, σ1) → r1 = r0 ∧ σ1 = σ0) (he2 : ∀ (σ : Mem), b = .inr σ → G p l e rm_X12_loses s m args below meth c 6 D ca ad A 0 0 (MQ below (Qi D ca ad A r0 σ0) args s 0 0 A) σ 132 [none, none, none, none, none, none] []) : G p l e rm_X12_loses s m args below meth c 6 D ca ad A 0 0 (MQ below (Qi D ca ad A r0 σ0) args s 0 0 A) σ 24 [some (.ref (ad 120)), some (.int (iI p1)), none, some (.int (iI x3)), none, none] [] :=
  itr_rule (P := fun z : Int × Mem => G p l e rm_X12_loses s m args below meth c 6 D ca ad A 0 0 (MQ below (Qi D ca ad A r0 σ0) args s 0 0 A) z.2 24 [some (.ref (ad 120)), some (.int (iI p1)), none, some (.int (iI z.1)), none, none] []) (E := fun b => (∀ (r1 : Int) (σ1 : Mem), b = .inl (r1, σ1) → r1 = r0 ∧ σ1 = σ0) ∧ (∀ (σ : Mem), b = .inr σ → G p l e rm_X12_loses s m args below meth c 6 D ca ad A 0 0 (MQ below (Qi D ca ad A r0 σ0) args s 0 0 A) σ 132 [none, none, none, none, none, none] [])) (fun z o hb hc he => it_X12_loses_24 C hr hlk (fun _ _ e => hc _ e) (fun r1 σ1 e => (he _ e).1 r1 σ1 rfl) (fun _ e => (he _ e).2 _ rfl) hb) n _ _ h ⟨he1, he2⟩
set_option maxHeartbeats 4000000 in
set_option maxRecDepth 100000 in
theorem c_X12_loses {v1 : Int} {σ : Mem} (hf : f_X12_loses v1 σ = some (r0, σ0)) : CTi l D ca ad A yX12_loses wsX12_loses rm_X12_loses [.ref (ad 120), .int (iI v1)] σ r0 σ0 := by
  refine ct_i (cc := cX12_loses) (own := RX12) (maxL := 6) (ret := (some .int)) (lv0 := [some (.ref (ad 120)), some (.int (iI v1)), none, none, none, none]) (by decide) rfl rfl rfl (Nat.le_of_ble_eq_true rfl) ?_
  intro p e s m below meth c C hr hlk hnm
  unfold f_X12_loses at hf
  refine g_aload_n (i := 0) C dX12_loses_0 rfl rfl ?_
  obtain ⟨r2, σ1, h3, hf⟩ := ob_inv hf
  refine g_callVi C (c_X12_isOpen  h3) (cwV 0 C.2.2.2.2.1 gX12_loses_X12_isOpen rfl rfl rfl (by decide +kernel) ⟨Nat.le_of_ble_eq_true rfl, Nat.le_of_ble_eq_true rfl⟩) ob_X12 rfl rfl rfl rfl (Nat.le_of_ble_eq_true rfl) dX12_loses_1 ⟨Nat.zero_le _, Nat.zero_le _⟩ ?_
  refine g_if_ne (tgt := 10) C dX12_loses_4 (by decide) rfl (fun c4 => ?_) (fun c4 => ?_)
  · have hf := if_f c4 hf
    refine g_aload_n (i := 0) C dX12_loses_10 rfl rfl ?_
    refine g_iload_n (i := 1) C dX12_loses_11 rfl rfl ?_
    obtain ⟨r6, σ5, h7, hf⟩ := ob_inv hf
    refine g_callVi C (c_X12_wrongLine  h7) (cwV 1 C.2.2.2.2.1 gX12_loses_X12_wrongLine rfl rfl rfl (by decide +kernel) ⟨Nat.le_of_ble_eq_true rfl, Nat.le_of_ble_eq_true rfl⟩) ob_X12 rfl rfl rfl rfl (Nat.le_of_ble_eq_true rfl) dX12_loses_12 ⟨Nat.zero_le _, Nat.zero_le _⟩ ?_
    refine g_istore_n (i := 2) C dX12_loses_15 rfl (by decide) rfl ?_
    refine g_iload_n (i := 2) C dX12_loses_16 rfl rfl ?_
    refine g_if_eq (tgt := 22) C dX12_loses_17 (by decide) rfl (fun c8 => ?_) (fun c8 => ?_)
    · have hf := if_t c8 hf
      refine g_iconst C dX12_loses_22 ?_
      refine g_istore_n (i := 3) C dX12_loses_23 rfl (by decide) rfl ?_
      obtain ⟨q31, hl32, hf⟩ := lb_inv hf
      refine g_mask [true, true, false, true, false, false] (w_X12_loses_24 C hr hlk hl32 ?_ ?_)
      · rintro r1 σ1 rfl
        exact some_inv hf
      · rintro σ33 rfl
        have hf := se_r hf
        refine g_bipush C dX12_loses_132 (by decide) ?_
        obtain ⟨e1, e2⟩ := some_inv hf
        exact g_iret C hr hlk e1 e2 dX12_loses_134
    · have hf := if_f c8 hf
      refine g_iload_n (i := 2) C dX12_loses_20 rfl rfl ?_
      obtain ⟨e1, e2⟩ := some_inv hf
      exact g_iret C hr hlk e1 e2 dX12_loses_21
  · have hf := if_t c4 hf
    refine g_bipush C dX12_loses_7 (by decide) ?_
    obtain ⟨e1, e2⟩ := some_inv hf
    exact g_iret C hr hlk e1 e2 dX12_loses_9
/-! X12_broken -/
abbrev rm_X12_broken : Room := { frames := 4, cells := 0, slots := 0, locals := 90 }
theorem hiX12_broken_X12 : ∀ w ∈ u_ws RX12 TX12 24, w ∈ wsX12_broken := fun _ h => (List.mem_cons_of_mem _ (List.mem_append_right _ h))
set_option maxHeartbeats 4000000 in
set_option maxRecDepth 100000 in
theorem it_X12_broken_51 (C : Cx p s m args c cX12_broken 7 RX12 wsX12_broken D ca A) (hr : meth.sig.returnType = (some .int)) (hlk : meth.locks = false) {p1 p3 p4 : Int} {o : (Int × Int × Mem) ⊕ (Int × Mem)} (hc : ∀ (x5 x6 : Int) (σ : Mem), o = .inl (x5, x6, σ) → G p l e rm_X12_broken s m args below meth c 7 D ca ad A 0 0 (MQ below (Qi D ca ad A r0 σ0) args s 0 0 A) σ 51 [some (.ref (ad 120)), some (.int (iI p1)), none, some (.int (iI p3)), some (.int (iI p4)), some (.int (iI x5)), some (.int (iI x6))] []) (he : ∀ (y5 : Int) (σ : Mem), o = .inr (y5, σ) → G p l e rm_X12_broken s m args below meth c 7 D ca ad A 0 0 (MQ below (Qi D ca ad A r0 σ0) args s 0 0 A) σ 144 [some (.ref (ad 120)), some (.int (iI p1)), none, some (.int (iI p3)), some (.int (iI p4)), some (.int (iI y5)), none] []) {x5 x6 : Int} {σ : Mem} (hf : f_X12_broken_51 p1 p3 p4 x5 x6 σ = some o) : G p l e rm_X12_broken s m args below meth c 7 D ca ad A 0 0 (MQ below (Qi D ca ad A r0 σ0) args s 0 0 A) σ 51 [some (.ref (ad 120)), some (.int (iI p1)), none, some (.int (iI p3)), some (.int (iI p4)), some (.int (iI x5)), some (.int (iI x6))] [] := by
  unfold f_X12_broken_51 at hf
  refine g_iload C dX12_broken_51 rfl ?_
  refine g_aload_n (i := 0) C dX12_broken_53 rfl rfl ?_
  refine gg_X12_s (i := 1) C hiX12_broken_X12 rfl dX12_broken_54 ?_
  refine g_iconst C dX12_broken_57 ?_
  refine g_iaload (N := 39) (j := 0) C (by decide) dX12_broken_58 (by decide) (by decide) ?_
  refine g_icmp_ge (tgt := 144) C dX12_broken_59 (by decide) rfl rfl (fun c11 => ?_) (fun c11 => ?_)
  · have hf := if_t c11 hf
    exact g_mask [true, true, false, true, true, true, false] (he _ _ (Option.some.inj hf).symm)
  · have hf := if_f c11 hf
    refine g_iload C dX12_broken_62 rfl ?_
    refine g_iload C dX12_broken_64 rfl ?_
    refine g_aload_n (i := 0) C dX12_broken_66 rfl rfl ?_
    refine gg_X12_s (i := 1) C hiX12_broken_X12 rfl dX12_broken_67 ?_
    refine g_bipush C dX12_broken_70 (by decide) ?_
    refine g_iconst C dX12_broken_72 ?_
    refine g_iload_n (i := 3) C dX12_broken_73 rfl rfl ?_
    refine g_imul C dX12_broken_74 ?_
    refine g_iadd C dX12_broken_75 ?_
    refine g_iload C dX12_broken_76 rfl ?_
    refine g_iadd C dX12_broken_78 ?_
    obtain ⟨hb12, hf⟩ := if_inv hf
    refine g_iaload (N := 39) C (by decide) dX12_broken_79 rfl hb12 ?_
    refine g_isub C dX12_broken_80 ?_
    refine g_aload_n (i := 0) C dX12_broken_81 rfl rfl ?_
    refine g_iload_n (i := 1) C dX12_broken_82 rfl rfl ?_
    refine g_iload C dX12_broken_83 rfl ?_
    refine g_aload_n (i := 0) C dX12_broken_85 rfl rfl ?_
    refine g_iload_n (i := 1) C dX12_broken_86 rfl rfl ?_
    refine g_iload C dX12_broken_87 rfl ?_
    obtain ⟨r14, σ13, h15, hf⟩ := ob_inv hf
    refine g_callVi C (c_X12_makesBy  h15) (cwV 2 C.2.2.2.2.1 gX12_broken_X12_makesBy rfl rfl rfl (by decide +kernel) ⟨Nat.le_of_ble_eq_true rfl, Nat.le_of_ble_eq_true rfl⟩) ob_X12 rfl rfl rfl rfl (Nat.le_of_ble_eq_true rfl) dX12_broken_89 ⟨Nat.zero_le _, Nat.zero_le _⟩ ?_
    obtain ⟨r17, σ16, h18, hf⟩ := ob_inv hf
    refine g_callVi C (c_X12_byLine  h18) (cwV 3 C.2.2.2.2.1 gX12_broken_X12_byLine rfl rfl rfl (by decide +kernel) ⟨Nat.le_of_ble_eq_true rfl, Nat.le_of_ble_eq_true rfl⟩) ob_X12 rfl rfl rfl rfl (Nat.le_of_ble_eq_true rfl) dX12_broken_92 ⟨Nat.zero_le _, Nat.zero_le _⟩ ?_
    refine g_icmp_le (tgt := 134) C dX12_broken_95 (by decide) rfl rfl (fun c19 => ?_) (fun c19 => ?_)
    · have hf := if_t c19 hf
      refine g_iconst C dX12_broken_134 ?_
      refine g_iadd C dX12_broken_135 ?_
      refine g_istore C dX12_broken_136 (by decide) rfl ?_
      refine g_iinc C dX12_broken_138 rfl (by decide) rfl ?_
      refine g_goto (tgt := 51) C dX12_broken_141 (by decide) ?_
      exact g_mask [true, true, false, true, true, true, true] (hc _ _ _ (Option.some.inj hf).symm)
    · have hf := if_f c19 hf
      refine g_aload_n (i := 0) C dX12_broken_98 rfl rfl ?_
      refine gg_X12_s (i := 1) C hiX12_broken_X12 rfl dX12_broken_99 ?_
      refine g_iconst C dX12_broken_102 ?_
      refine g_iload C dX12_broken_103 rfl ?_
      refine g_iadd C dX12_broken_105 ?_
      obtain ⟨hb20, hf⟩ := if_inv hf
      refine g_iaload (N := 39) C (by decide) dX12_broken_106 rfl hb20 ?_
      refine g_aload_n (i := 0) C dX12_broken_107 rfl rfl ?_
      refine gg_X12_s (i := 1) C hiX12_broken_X12 rfl dX12_broken_108 ?_
      refine g_bipush C dX12_broken_111 (by decide) ?_
      refine g_iload C dX12_broken_113 rfl ?_
      refine g_iadd C dX12_broken_115 ?_
      obtain ⟨hb21, hf⟩ := if_inv hf
      refine g_iaload (N := 39) C (by decide) dX12_broken_116 rfl hb21 ?_
      refine g_aload_n (i := 0) C dX12_broken_117 rfl rfl ?_
      refine gg_X12_s (i := 1) C hiX12_broken_X12 rfl dX12_broken_118 ?_
      refine g_bipush C dX12_broken_121 (by decide) ?_
      refine g_iload_n (i := 3) C dX12_broken_123 rfl rfl ?_
      refine g_iadd C dX12_broken_124 ?_
      obtain ⟨hb22, hf⟩ := if_inv hf
      refine g_iaload (N := 39) C (by decide) dX12_broken_125 rfl hb22 ?_
      refine g_iadd C dX12_broken_126 ?_
      refine g_iload C dX12_broken_127 rfl ?_
      refine g_isub C dX12_broken_129 ?_
      refine g_imul C dX12_broken_130 ?_
      refine g_goto (tgt := 135) C dX12_broken_131 (by decide) ?_
      refine g_iadd C dX12_broken_135 ?_
      refine g_istore C dX12_broken_136 (by decide) rfl ?_
      refine g_iinc C dX12_broken_138 rfl (by decide) rfl ?_
      refine g_goto (tgt := 51) C dX12_broken_141 (by decide) ?_
      exact g_mask [true, true, false, true, true, true, true] (hc _ _ _ (Option.some.inj hf).symm)
set_option maxHeartbeats 4000000 in
set_option maxRecDepth 100000 in
theorem w_X12_broken_51 (C : Cx p s m args c cX12_broken 7 RX12 wsX12_broken D ca A) (hr : meth.sig.returnType = (some .int)) (hlk : meth.locks = false) {p1 p3 p4 : Int} {n : Nat} {x5 x6 : Int} {σ : Mem} {b : (Int × Mem)} (h : itr (fun z : Int × Int × Mem => f_X12_broken_51 p1 p3 p4 z.1 z.2.1 z.2.2) n (x5, x6, σ) = some b) (he : ∀ (y5 : Int) (σ : Mem), b = (y5, σ) → G p l e rm_X12_broken s m args below meth c 7 D ca ad A 0 0 (MQ below (Qi D ca ad A r0 σ0) args s 0 0 A) σ 144 [some (.ref (ad 120)), some (.int (iI p1)), none, some (.int (iI p3)), some (.int (iI p4)), some (.int (iI y5)), none] []) : G p l e rm_X12_broken s m args below meth c 7 D ca ad A 0 0 (MQ below (Qi D ca ad A r0 σ0) args s 0 0 A) σ 51 [some (.ref (ad 120)), some (.int (iI p1)), none, some (.int (iI p3)), some (.int (iI p4)), some (.int (iI x5)), some (.int (iI x6))] [] :=
  itr_rule (P := fun z : Int × Int × Mem => G p l e rm_X12_broken s m args below meth c 7 D ca ad A 0 0 (MQ below (Qi D ca ad A r0 σ0) args s 0 0 A) z.2.2 51 [some (.ref (ad 120)), some (.int (iI p1)), none, some (.int (iI p3)), some (.int (iI p4)), some (.int (iI z.1)), some (.int (iI z.2.1))] []) (E := fun b => ∀ (y5 : Int) (σ : Mem), b = (y5, σ) → G p l e rm_X12_broken s m args below meth c 7 D ca ad A 0 0 (MQ below (Qi D ca ad A r0 σ0) args s 0 0 A) σ 144 [some (.ref (ad 120)), some (.int (iI p1)), none, some (.int (iI p3)), some (.int (iI p4)), some (.int (iI y5)), none] []) (fun z o hb hc he => it_X12_broken_51 C hr hlk (fun _ _ _ e => hc _ e) (fun _ _ e => (he _ e) _ _ rfl) hb) n _ _ h he
set_option maxHeartbeats 4000000 in
set_option maxRecDepth 100000 in
theorem it_X12_broken_37 (C : Cx p s m args c cX12_broken 7 RX12 wsX12_broken D ca A) (hr : meth.sig.returnType = (some .int)) (hlk : meth.locks = false) {p1 p3 : Int} {o : (Int × Mem) ⊕ ((Int × Mem) ⊕ (Mem))} (hc : ∀ (x4 : Int) (σ : Mem), o = .inl (x4, σ) → G p l e rm_X12_broken s m args below meth c 7 D ca ad A 0 0 (MQ below (Qi D ca ad A r0 σ0) args s 0 0 A) σ 37 [some (.ref (ad 120)), some (.int (iI p1)), none, some (.int (iI p3)), some (.int (iI x4)), none, none] []) (he1 : ∀ (r1 : Int) (σ1 : Mem), o = .inr (.inl (r1, σ1)) → r1 = r0 ∧ σ1 = σ0) (he2 : ∀ (σ : Mem), o = .inr (.inr σ) → G p l e rm_X12_broken s m args below meth c 7 D ca ad A 0 0 (MQ below (Qi D ca ad A r0 σ0) args s 0 0 A) σ 164 [some (.ref (ad 120)), some (.int (iI p1)), none, some (.int (iI p3)), none, none, none] []) {x4 : Int} {σ : Mem} (hf : f_X12_broken_37 p1 p3 x4 σ = some o) : G p l e rm_X12_broken s m args below meth c 7 D ca ad A 0 0 (MQ below (Qi D ca ad A r0 σ0) args s 0 0 A) σ 37 [some (.ref (ad 120)), some (.int (iI p1)), none, some (.int (iI p3)), some (.int (iI x4)), none, none] [] := by
  unfold f_X12_broken_37 at hf
  refine g_iload C dX12_broken_37 rfl ?_
  refine g_sipush C dX12_broken_39 (by decide) ?_
  refine g_icmp_ge (b' := 2000) (tgt := 164) C dX12_broken_42 (by decide) rfl (by decide) (fun c29 => ?_) (fun c29 => ?_)
  · have hf := if_t c29 hf
    exact g_mask [true, true, false, true, false, false, false] (he2 _ (Option.some.inj hf).symm)
  · have hf := if_f c29 hf
    refine g_iconst C dX12_broken_45 ?_
    refine g_istore C dX12_broken_46 (by decide) rfl ?_
    refine g_iconst C dX12_broken_48 ?_
    refine g_istore C dX12_broken_49 (by decide) rfl ?_
    obtain ⟨q30, hl31, hf⟩ := lb_inv hf
    refine g_mask [true, true, false, true, true, true, true] (w_X12_broken_51 C hr hlk hl31 ?_)
    · rintro y32 σ33 rfl
      refine g_iload C dX12_broken_144 rfl ?_
      refine g_if_le (tgt := 158) C dX12_broken_146 (by decide) rfl (fun c34 => ?_) (fun c34 => ?_)
      · have hf := if_t c34 hf
        refine g_iinc C dX12_broken_158 rfl (by decide) rfl ?_
        refine g_goto (tgt := 37) C dX12_broken_161 (by decide) ?_
        exact g_mask [true, true, false, true, true, false, false] (hc _ _ (Option.some.inj hf).symm)
      · have hf := if_f c34 hf
        refine g_sipush C dX12_broken_149 (by decide) ?_
        refine g_iload_n (i := 3) C dX12_broken_152 rfl rfl ?_
        refine g_imul C dX12_broken_153 ?_
        refine g_iload C dX12_broken_154 rfl ?_
        refine g_iadd C dX12_broken_156 ?_
        obtain ⟨e1, e2⟩ := he1 _ _ (Option.some.inj hf).symm
        exact g_iret C hr hlk e1 e2 dX12_broken_157
set_option maxHeartbeats 4000000 in
set_option maxRecDepth 100000 in
theorem w_X12_broken_37 (C : Cx p s m args c cX12_broken 7 RX12 wsX12_broken D ca A) (hr : meth.sig.returnType = (some .int)) (hlk : meth.locks = false) {p1 p3 : Int} {n : Nat} {x4 : Int} {σ : Mem} {b : ((Int × Mem) ⊕ (Mem))} (h : itr (fun z : Int × Mem => f_X12_broken_37 p1 p3 z.1 z.2) n (x4, σ) = some b) (he1 : ∀ (r1 : Int) (σ1 : Mem), b = .inl (r1, σ1) → r1 = r0 ∧ σ1 = σ0) (he2 : ∀ (σ : Mem), b = .inr σ → G p l e rm_X12_broken s m args below meth c 7 D ca ad A 0 0 (MQ below (Qi D ca ad A r0 σ0) args s 0 0 A) σ 164 [some (.ref (ad 120)), some (.int (iI p1)), none, some (.int (iI p3)), none, none, none] []) : G p l e rm_X12_broken s m args below meth c 7 D ca ad A 0 0 (MQ below (Qi D ca ad A r0 σ0) args s 0 0 A) σ 37 [some (.ref (ad 120)), some (.int (iI p1)), none, some (.int (iI p3)), some (.int (iI x4)), none, none] [] :=
  itr_rule (P := fun z : Int × Mem => G p l e rm_X12_broken s m args below meth c 7 D ca ad A 0 0 (MQ below (Qi D ca ad A r0 σ0) args s 0 0 A) z.2 37 [some (.ref (ad 120)), some (.int (iI p1)), none, some (.int (iI p3)), some (.int (iI z.1)), none, none] []) (E := fun b => (∀ (r1 : Int) (σ1 : Mem), b = .inl (r1, σ1) → r1 = r0 ∧ σ1 = σ0) ∧ (∀ (σ : Mem), b = .inr σ → G p l e rm_X12_broken s m args below meth c 7 D ca ad A 0 0 (MQ below (Qi D ca ad A r0 σ0) args s 0 0 A) σ 164 [some (.ref (ad 120)), some (.int (iI p1)), none, some (.int (iI p3)), none, none, none] [])) (fun z o hb hc he => it_X12_broken_37 C hr hlk (fun _ _ e => hc _ e) (fun r1 σ1 e => (he _ e).1 r1 σ1 rfl) (fun _ e => (he _ e).2 _ rfl) hb) n _ _ h ⟨he1, he2⟩
set_option maxHeartbeats 4000000 in
set_option maxRecDepth 100000 in
theorem it_X12_broken_24 (C : Cx p s m args c cX12_broken 7 RX12 wsX12_broken D ca A) (hr : meth.sig.returnType = (some .int)) (hlk : meth.locks = false) {p1 : Int} {o : (Int × Mem) ⊕ ((Int × Mem) ⊕ (Mem))} (hc : ∀ (x3 : Int) (σ : Mem), o = .inl (x3, σ) → G p l e rm_X12_broken s m args below meth c 7 D ca ad A 0 0 (MQ below (Qi D ca ad A r0 σ0) args s 0 0 A) σ 24 [some (.ref (ad 120)), some (.int (iI p1)), none, some (.int (iI x3)), none, none, none] []) (he1 : ∀ (r1 : Int) (σ1 : Mem), o = .inr (.inl (r1, σ1)) → r1 = r0 ∧ σ1 = σ0) (he2 : ∀ (σ : Mem), o = .inr (.inr σ) → G p l e rm_X12_broken s m args below meth c 7 D ca ad A 0 0 (MQ below (Qi D ca ad A r0 σ0) args s 0 0 A) σ 170 [none, none, none, none, none, none, none] []) {x3 : Int} {σ : Mem} (hf : f_X12_broken_24 p1 x3 σ = some o) : G p l e rm_X12_broken s m args below meth c 7 D ca ad A 0 0 (MQ below (Qi D ca ad A r0 σ0) args s 0 0 A) σ 24 [some (.ref (ad 120)), some (.int (iI p1)), none, some (.int (iI x3)), none, none, none] [] := by
  unfold f_X12_broken_24 at hf
  refine g_iload_n (i := 3) C dX12_broken_24 rfl rfl ?_
  refine g_aload_n (i := 0) C dX12_broken_25 rfl rfl ?_
  refine gg_X12_s (i := 1) C hiX12_broken_X12 rfl dX12_broken_26 ?_
  refine g_iconst C dX12_broken_29 ?_
  refine g_iaload (N := 39) (j := 1) C (by decide) dX12_broken_30 (by decide) (by decide) ?_
  refine g_icmp_ge (tgt := 170) C dX12_broken_31 (by decide) rfl rfl (fun c39 => ?_) (fun c39 => ?_)
  · have hf := if_t c39 hf
    exact g_mask [false, false, false, false, false, false, false] (he2 _ (Option.some.inj hf).symm)
  · have hf := if_f c39 hf
    refine g_iconst C dX12_broken_34 ?_
    refine g_istore C dX12_broken_35 (by decide) rfl ?_
    obtain ⟨q40, hl41, hf⟩ := lb_inv hf
    refine g_mask [true, true, false, true, true, false, false] (w_X12_broken_37 C hr hlk hl41 ?_ ?_)
    · rintro r1 σ1 rfl
      exact he1 r1 σ1 (Option.some.inj hf).symm
    · rintro σ42 rfl
      have hf := se_r hf
      refine g_iinc C dX12_broken_164 rfl (by decide) rfl ?_
      refine g_goto (tgt := 24) C dX12_broken_167 (by decide) ?_
      exact g_mask [true, true, false, true, false, false, false] (hc _ _ (Option.some.inj hf).symm)
set_option maxHeartbeats 4000000 in
set_option maxRecDepth 100000 in
theorem w_X12_broken_24 (C : Cx p s m args c cX12_broken 7 RX12 wsX12_broken D ca A) (hr : meth.sig.returnType = (some .int)) (hlk : meth.locks = false) {p1 : Int} {n : Nat} {x3 : Int} {σ : Mem} {b : ((Int × Mem) ⊕ (Mem))} (h : itr (fun z : Int × Mem => f_X12_broken_24 p1 z.1 z.2) n (x3, σ) = some b) (he1 : ∀ (r1 : Int) (σ1 : Mem), b = .inl (r1, σ1) → r1 = r0 ∧ σ1 = σ0) (he2 : ∀ (σ : Mem), b = .inr σ → G p l e rm_X12_broken s m args below meth c 7 D ca ad A 0 0 (MQ below (Qi D ca ad A r0 σ0) args s 0 0 A) σ 170 [none, none, none, none, none, none, none] []) : G p l e rm_X12_broken s m args below meth c 7 D ca ad A 0 0 (MQ below (Qi D ca ad A r0 σ0) args s 0 0 A) σ 24 [some (.ref (ad 120)), some (.int (iI p1)), none, some (.int (iI x3)), none, none, none] [] :=
  itr_rule (P := fun z : Int × Mem => G p l e rm_X12_broken s m args below meth c 7 D ca ad A 0 0 (MQ below (Qi D ca ad A r0 σ0) args s 0 0 A) z.2 24 [some (.ref (ad 120)), some (.int (iI p1)), none, some (.int (iI z.1)), none, none, none] []) (E := fun b => (∀ (r1 : Int) (σ1 : Mem), b = .inl (r1, σ1) → r1 = r0 ∧ σ1 = σ0) ∧ (∀ (σ : Mem), b = .inr σ → G p l e rm_X12_broken s m args below meth c 7 D ca ad A 0 0 (MQ below (Qi D ca ad A r0 σ0) args s 0 0 A) σ 170 [none, none, none, none, none, none, none] [])) (fun z o hb hc he => it_X12_broken_24 C hr hlk (fun _ _ e => hc _ e) (fun r1 σ1 e => (he _ e).1 r1 σ1 rfl) (fun _ e => (he _ e).2 _ rfl) hb) n _ _ h ⟨he1, he2⟩
set_option maxHeartbeats 4000000 in
set_option maxRecDepth 100000 in
theorem c_X12_broken {v1 : Int} {σ : Mem} (hf : f_X12_broken v1 σ = some (r0, σ0)) : CTi l D ca ad A yX12_broken wsX12_broken rm_X12_broken [.ref (ad 120), .int (iI v1)] σ r0 σ0 := by
  refine ct_i (cc := cX12_broken) (own := RX12) (maxL := 7) (ret := (some .int)) (lv0 := [some (.ref (ad 120)), some (.int (iI v1)), none, none, none, none, none]) (by decide) rfl rfl rfl (Nat.le_of_ble_eq_true rfl) ?_
  intro p e s m below meth c C hr hlk hnm
  unfold f_X12_broken at hf
  refine g_aload_n (i := 0) C dX12_broken_0 rfl rfl ?_
  obtain ⟨r2, σ1, h3, hf⟩ := ob_inv hf
  refine g_callVi C (c_X12_isOpen  h3) (cwV 0 C.2.2.2.2.1 gX12_broken_X12_isOpen rfl rfl rfl (by decide +kernel) ⟨Nat.le_of_ble_eq_true rfl, Nat.le_of_ble_eq_true rfl⟩) ob_X12 rfl rfl rfl rfl (Nat.le_of_ble_eq_true rfl) dX12_broken_1 ⟨Nat.zero_le _, Nat.zero_le _⟩ ?_
  refine g_if_ne (tgt := 10) C dX12_broken_4 (by decide) rfl (fun c4 => ?_) (fun c4 => ?_)
  · have hf := if_f c4 hf
    refine g_aload_n (i := 0) C dX12_broken_10 rfl rfl ?_
    refine g_iload_n (i := 1) C dX12_broken_11 rfl rfl ?_
    obtain ⟨r6, σ5, h7, hf⟩ := ob_inv hf
    refine g_callVi C (c_X12_wrongLine  h7) (cwV 1 C.2.2.2.2.1 gX12_broken_X12_wrongLine rfl rfl rfl (by decide +kernel) ⟨Nat.le_of_ble_eq_true rfl, Nat.le_of_ble_eq_true rfl⟩) ob_X12 rfl rfl rfl rfl (Nat.le_of_ble_eq_true rfl) dX12_broken_12 ⟨Nat.zero_le _, Nat.zero_le _⟩ ?_
    refine g_istore_n (i := 2) C dX12_broken_15 rfl (by decide) rfl ?_
    refine g_iload_n (i := 2) C dX12_broken_16 rfl rfl ?_
    refine g_if_eq (tgt := 22) C dX12_broken_17 (by decide) rfl (fun c8 => ?_) (fun c8 => ?_)
    · have hf := if_t c8 hf
      refine g_iconst C dX12_broken_22 ?_
      refine g_istore_n (i := 3) C dX12_broken_23 rfl (by decide) rfl ?_
      obtain ⟨q44, hl45, hf⟩ := lb_inv hf
      refine g_mask [true, true, false, true, false, false, false] (w_X12_broken_24 C hr hlk hl45 ?_ ?_)
      · rintro r1 σ1 rfl
        exact some_inv hf
      · rintro σ46 rfl
        have hf := se_r hf
        refine g_bipush C dX12_broken_170 (by decide) ?_
        obtain ⟨e1, e2⟩ := some_inv hf
        exact g_iret C hr hlk e1 e2 dX12_broken_172
    · have hf := if_f c8 hf
      refine g_iload_n (i := 2) C dX12_broken_20 rfl rfl ?_
      obtain ⟨e1, e2⟩ := some_inv hf
      exact g_iret C hr hlk e1 e2 dX12_broken_21
  · have hf := if_t c4 hf
    refine g_bipush C dX12_broken_7 (by decide) ?_
    obtain ⟨e1, e2⟩ := some_inv hf
    exact g_iret C hr hlk e1 e2 dX12_broken_9
/-! X12_edge -/
abbrev rm_X12_edge : Room := { frames := 5, cells := 0, slots := 0, locals := 119 }
theorem hiX12_edge_X12 : ∀ w ∈ u_ws RX12 TX12 24, w ∈ wsX12_edge := fun _ h => (List.mem_cons_of_mem _ (List.mem_append_right _ h))
set_option maxHeartbeats 4000000 in
set_option maxRecDepth 100000 in
theorem it_X12_edge_58 (C : Cx p s m args c cX12_edge 7 RX12 wsX12_edge D ca A) (hr : meth.sig.returnType = (some .int)) (hlk : meth.locks = false) {p1 p2 p3 p4 : Int} {o : (Int × Int × Mem) ⊕ (Int × Mem)} (hc : ∀ (x5 x6 : Int) (σ : Mem), o = .inl (x5, x6, σ) → G p l e rm_X12_edge s m args below meth c 7 D ca ad A 0 0 (MQ below (Qi D ca ad A r0 σ0) args s 0 0 A) σ 58 [some (.ref (ad 120)), some (.int (iI p1)), some (.int (iI p2)), some (.int (iI p3)), some (.int (iI p4)), some (.int (iI x5)), some (.int (iI x6))] []) (he : ∀ (y5 : Int) (σ : Mem), o = .inr (y5, σ) → G p l e rm_X12_edge s m args below meth c 7 D ca ad A 0 0 (MQ below (Qi D ca ad A r0 σ0) args s 0 0 A) σ 109 [some (.ref (ad 120)), none, some (.int (iI p2)), some (.int (iI p3)), some (.int (iI p4)), some (.int (iI y5)), none] []) {x5 x6 : Int} {σ : Mem} (hf : f_X12_edge_58 p1 p2 p3 p4 x5 x6 σ = some o) : G p l e rm_X12_edge s m args below meth c 7 D ca ad A 0 0 (MQ below (Qi D ca ad A r0 σ0) args s 0 0 A) σ 58 [some (.ref (ad 120)), some (.int (iI p1)), some (.int (iI p2)), some (.int (iI p3)), some (.int (iI p4)), some (.int (iI x5)), some (.int (iI x6))] [] := by
  unfold f_X12_edge_58 at hf
  refine g_iload C dX12_edge_58 rfl ?_
  refine g_sipush C dX12_edge_60 (by decide) ?_
  refine g_icmp_ge (b' := 1000) (tgt := 109) C dX12_edge_63 (by decide) rfl (by decide) (fun c19 => ?_) (fun c19 => ?_)
  · have hf := if_t c19 hf
    exact g_mask [true, false, true, true, true, true, false] (he _ _ (Option.some.inj hf).symm)
  · have hf := if_f c19 hf
    refine g_iload C dX12_edge_66 rfl ?_
    refine g_if_ge (tgt := 109) C dX12_edge_68 (by decide) rfl (fun c20 => ?_) (fun c20 => ?_)
    · have hf := if_t c20 hf
      exact g_mask [true, false, true, true, true, true, false] (he _ _ (Option.some.inj hf).symm)
    · have hf := if_f c20 hf
      refine g_aload_n (i := 0) C dX12_edge_71 rfl rfl ?_
      refine gg_X12_s (i := 1) C hiX12_edge_X12 rfl dX12_edge_72 ?_
      refine g_bipush C dX12_edge_75 (by decide) ?_
      refine g_iconst C dX12_edge_77 ?_
      refine g_iload_n (i := 2) C dX12_edge_78 rfl rfl ?_
      refine g_imul C dX12_edge_79 ?_
      refine g_iadd C dX12_edge_80 ?_
      refine g_iload_n (i := 3) C dX12_edge_81 rfl rfl ?_
      refine g_iadd C dX12_edge_82 ?_
      refine g_iload C dX12_edge_83 rfl ?_
      obtain ⟨hb21, hf⟩ := if_inv hf
      refine g_iastore (N := 39) C (by decide) dX12_edge_85 rfl hb21 ?_
      refine g_aload_n (i := 0) C dX12_edge_86 rfl rfl ?_
      refine g_iload_n (i := 1) C dX12_edge_87 rfl rfl ?_
      obtain ⟨r24, σ23, h25, hf⟩ := ob_inv hf
      refine g_callVi C (c_X12_isSure  h25) (cwV 1 C.2.2.2.2.1 gX12_edge_X12_isSure rfl rfl rfl (by decide +kernel) ⟨Nat.le_of_ble_eq_true rfl, Nat.le_of_ble_eq_true rfl⟩) ob_X12 rfl rfl rfl rfl (Nat.le_of_ble_eq_true rfl) dX12_edge_88 ⟨Nat.zero_le _, Nat.zero_le _⟩ ?_
      refine g_if_eq (tgt := 99) C dX12_edge_91 (by decide) rfl (fun c26 => ?_) (fun c26 => ?_)
      · have hf := if_t c26 hf
        refine g_bipush C dX12_edge_99 (by decide) ?_
        refine g_istore C dX12_edge_101 (by decide) rfl ?_
        refine g_iinc C dX12_edge_103 rfl (by decide) rfl ?_
        refine g_goto (tgt := 58) C dX12_edge_106 (by decide) ?_
        exact g_mask [true, true, true, true, true, true, true] (hc _ _ _ (Option.some.inj hf).symm)
      · have hf := if_f c26 hf
        refine g_iload C dX12_edge_94 rfl ?_
        refine g_goto (tgt := 101) C dX12_edge_96 (by decide) ?_
        refine g_istore C dX12_edge_101 (by decide) rfl ?_
        refine g_iinc C dX12_edge_103 rfl (by decide) rfl ?_
        refine g_goto (tgt := 58) C dX12_edge_106 (by decide) ?_
        exact g_mask [true, true, true, true, true, true, true] (hc _ _ _ (Option.some.inj hf).symm)
set_option maxHeartbeats 4000000 in
set_option maxRecDepth 100000 in
theorem w_X12_edge_58 (C : Cx p s m args c cX12_edge 7 RX12 wsX12_edge D ca A) (hr : meth.sig.returnType = (some .int)) (hlk : meth.locks = false) {p1 p2 p3 p4 : Int} {n : Nat} {x5 x6 : Int} {σ : Mem} {b : (Int × Mem)} (h : itr (fun z : Int × Int × Mem => f_X12_edge_58 p1 p2 p3 p4 z.1 z.2.1 z.2.2) n (x5, x6, σ) = some b) (he : ∀ (y5 : Int) (σ : Mem), b = (y5, σ) → G p l e rm_X12_edge s m args below meth c 7 D ca ad A 0 0 (MQ below (Qi D ca ad A r0 σ0) args s 0 0 A) σ 109 [some (.ref (ad 120)), none, some (.int (iI p2)), some (.int (iI p3)), some (.int (iI p4)), some (.int (iI y5)), none] []) : G p l e rm_X12_edge s m args below meth c 7 D ca ad A 0 0 (MQ below (Qi D ca ad A r0 σ0) args s 0 0 A) σ 58 [some (.ref (ad 120)), some (.int (iI p1)), some (.int (iI p2)), some (.int (iI p3)), some (.int (iI p4)), some (.int (iI x5)), some (.int (iI x6))] [] :=
  itr_rule (P := fun z : Int × Int × Mem => G p l e rm_X12_edge s m args below meth c 7 D ca ad A 0 0 (MQ below (Qi D ca ad A r0 σ0) args s 0 0 A) z.2.2 58 [some (.ref (ad 120)), some (.int (iI p1)), some (.int (iI p2)), some (.int (iI p3)), some (.int (iI p4)), some (.int (iI z.1)), some (.int (iI z.2.1))] []) (E := fun b => ∀ (y5 : Int) (σ : Mem), b = (y5, σ) → G p l e rm_X12_edge s m args below meth c 7 D ca ad A 0 0 (MQ below (Qi D ca ad A r0 σ0) args s 0 0 A) σ 109 [some (.ref (ad 120)), none, some (.int (iI p2)), some (.int (iI p3)), some (.int (iI p4)), some (.int (iI y5)), none] []) (fun z o hb hc he => it_X12_edge_58 C hr hlk (fun _ _ _ e => hc _ e) (fun _ _ e => (he _ e) _ _ rfl) hb) n _ _ h he
set_option maxHeartbeats 4000000 in
set_option maxRecDepth 100000 in
theorem c_X12_edge {v1 v2 v3 : Int} {σ : Mem} (hf : f_X12_edge v1 v2 v3 σ = some (r0, σ0)) : CTi l D ca ad A yX12_edge wsX12_edge rm_X12_edge [.ref (ad 120), .int (iI v1), .int (iI v2), .int (iI v3)] σ r0 σ0 := by
  refine ct_i (cc := cX12_edge) (own := RX12) (maxL := 7) (ret := (some .int)) (lv0 := [some (.ref (ad 120)), some (.int (iI v1)), some (.int (iI v2)), some (.int (iI v3)), none, none, none]) (by decide) rfl rfl rfl (Nat.le_of_ble_eq_true rfl) ?_
  intro p e s m below meth c C hr hlk hnm
  unfold f_X12_edge at hf
  refine g_aload_n (i := 0) C dX12_edge_0 rfl rfl ?_
  obtain ⟨r2, σ1, h3, hf⟩ := ob_inv hf
  refine g_callVi C (c_X12_isOpen  h3) (cwV 0 C.2.2.2.2.1 gX12_edge_X12_isOpen rfl rfl rfl (by decide +kernel) ⟨Nat.le_of_ble_eq_true rfl, Nat.le_of_ble_eq_true rfl⟩) ob_X12 rfl rfl rfl rfl (Nat.le_of_ble_eq_true rfl) dX12_edge_1 ⟨Nat.zero_le _, Nat.zero_le _⟩ ?_
  refine g_if_ne (tgt := 10) C dX12_edge_4 (by decide) rfl (fun c4 => ?_) (fun c4 => ?_)
  · have hf := if_f c4 hf
    refine g_aload_n (i := 0) C dX12_edge_10 rfl rfl ?_
    refine g_iload_n (i := 1) C dX12_edge_11 rfl rfl ?_
    obtain ⟨r6, σ5, h7, hf⟩ := ob_inv hf
    refine g_callVi C (c_X12_isFit  h7) (cwV 1 C.2.2.2.2.1 gX12_edge_X12_isFit rfl rfl rfl (by decide +kernel) ⟨Nat.le_of_ble_eq_true rfl, Nat.le_of_ble_eq_true rfl⟩) ob_X12 rfl rfl rfl rfl (Nat.le_of_ble_eq_true rfl) dX12_edge_12 ⟨Nat.zero_le _, Nat.zero_le _⟩ ?_
    refine g_if_eq (tgt := 34) C dX12_edge_15 (by decide) rfl (fun c8 => ?_) (fun c8 => ?_)
    · have hf := if_t c8 hf
      refine g_iconst C dX12_edge_34 ?_
      obtain ⟨e1, e2⟩ := some_inv hf
      exact g_iret C hr hlk e1 e2 dX12_edge_35
    · have hf := if_f c8 hf
      refine g_aload_n (i := 0) C dX12_edge_18 rfl rfl ?_
      refine g_iload_n (i := 2) C dX12_edge_19 rfl rfl ?_
      obtain ⟨r10, σ9, h11, hf⟩ := ob_inv hf
      refine g_callVi C (c_X12_isMark  h11) (cwV 1 C.2.2.2.2.1 gX12_edge_X12_isMark rfl rfl rfl (by decide +kernel) ⟨Nat.le_of_ble_eq_true rfl, Nat.le_of_ble_eq_true rfl⟩) ob_X12 rfl rfl rfl rfl (Nat.le_of_ble_eq_true rfl) dX12_edge_20 ⟨Nat.zero_le _, Nat.zero_le _⟩ ?_
      refine g_if_eq (tgt := 34) C dX12_edge_23 (by decide) rfl (fun c12 => ?_) (fun c12 => ?_)
      · have hf := if_t c12 hf
        refine g_iconst C dX12_edge_34 ?_
        obtain ⟨e1, e2⟩ := some_inv hf
        exact g_iret C hr hlk e1 e2 dX12_edge_35
      · have hf := if_f c12 hf
        refine g_aload_n (i := 0) C dX12_edge_26 rfl rfl ?_
        refine g_iload_n (i := 3) C dX12_edge_27 rfl rfl ?_
        obtain ⟨r14, σ13, h15, hf⟩ := ob_inv hf
        refine g_callVi C (c_X12_isSort  h15) (cwV 1 C.2.2.2.2.1 gX12_edge_X12_isSort rfl rfl rfl (by decide +kernel) ⟨Nat.le_of_ble_eq_true rfl, Nat.le_of_ble_eq_true rfl⟩) ob_X12 rfl rfl rfl rfl (Nat.le_of_ble_eq_true rfl) dX12_edge_28 ⟨Nat.zero_le _, Nat.zero_le _⟩ ?_
        refine g_if_ne (tgt := 36) C dX12_edge_31 (by decide) rfl (fun c16 => ?_) (fun c16 => ?_)
        · have hf := if_f c16 hf
          refine g_aload_n (i := 0) C dX12_edge_36 rfl rfl ?_
          refine gg_X12_s (i := 1) C hiX12_edge_X12 rfl dX12_edge_37 ?_
          refine g_bipush C dX12_edge_40 (by decide) ?_
          refine g_iconst C dX12_edge_42 ?_
          refine g_iload_n (i := 2) C dX12_edge_43 rfl rfl ?_
          refine g_imul C dX12_edge_44 ?_
          refine g_iadd C dX12_edge_45 ?_
          refine g_iload_n (i := 3) C dX12_edge_46 rfl rfl ?_
          refine g_iadd C dX12_edge_47 ?_
          obtain ⟨hb17, hf⟩ := if_inv hf
          refine g_iaload (N := 39) C (by decide) dX12_edge_48 rfl hb17 ?_
          refine g_istore C dX12_edge_49 (by decide) rfl ?_
          refine g_bipush C dX12_edge_51 (by decide) ?_
          refine g_istore C dX12_edge_53 (by decide) rfl ?_
          refine g_iconst C dX12_edge_55 ?_
          refine g_istore C dX12_edge_56 (by decide) rfl ?_
          obtain ⟨q27, hl28, hf⟩ := lb_inv hf
          refine g_mask [true, true, true, true, true, true, true] (w_X12_edge_58 C hr hlk hl28 ?_)
          · rintro y29 σ30 rfl
            refine g_aload_n (i := 0) C dX12_edge_109 rfl rfl ?_
            refine gg_X12_s (i := 1) C hiX12_edge_X12 rfl dX12_edge_110 ?_
            refine g_bipush C dX12_edge_113 (by decide) ?_
            refine g_iconst C dX12_edge_115 ?_
            refine g_iload_n (i := 2) C dX12_edge_116 rfl rfl ?_
            refine g_imul C dX12_edge_117 ?_
            refine g_iadd C dX12_edge_118 ?_
            refine g_iload_n (i := 3) C dX12_edge_119 rfl rfl ?_
            refine g_iadd C dX12_edge_120 ?_
            refine g_iload C dX12_edge_121 rfl ?_
            obtain ⟨hb31, hf⟩ := if_inv hf
            refine g_iastore (N := 39) C (by decide) dX12_edge_123 rfl hb31 ?_
            refine g_iload C dX12_edge_124 rfl ?_
            obtain ⟨e1, e2⟩ := some_inv hf
            exact g_iret C hr hlk e1 e2 dX12_edge_126
        · have hf := if_t c16 hf
          refine g_iconst C dX12_edge_34 ?_
          obtain ⟨e1, e2⟩ := some_inv hf
          exact g_iret C hr hlk e1 e2 dX12_edge_35
  · have hf := if_t c4 hf
    refine g_bipush C dX12_edge_7 (by decide) ?_
    obtain ⟨e1, e2⟩ := some_inv hf
    exact g_iret C hr hlk e1 e2 dX12_edge_9
/-! X12_run -/
abbrev rm_X12_run : Room := { frames := 2, cells := 0, slots := 0, locals := 47 }
theorem hiX12_run_X12 : ∀ w ∈ u_ws RX12 TX12 24, w ∈ wsX12_run := fun _ h => (List.mem_cons_of_mem _ (List.mem_append_right _ h))
set_option maxHeartbeats 4000000 in
set_option maxRecDepth 100000 in
theorem it_X12_run_87 (C : Cx p s m args c cX12_run 10 RX12 wsX12_run D ca A) (hr : meth.sig.returnType = (some .int)) (hlk : meth.locks = false) {p1 p2 p4 p5 p6 p7 : Int} {o : (Int × Int × Mem) ⊕ (Int × Mem)} (hc : ∀ (x8 x9 : Int) (σ : Mem), o = .inl (x8, x9, σ) → G p l e rm_X12_run s m args below meth c 10 D ca ad A 0 0 (MQ below (Qi D ca ad A r0 σ0) args s 0 0 A) σ 87 [some (.ref (ad 120)), some (.int (iI p1)), some (.int (iI p2)), none, some (.int (iI p4)), some (.int (iI p5)), some (.int (iI p6)), some (.int (iI p7)), some (.int (iI x8)), some (.int (iI x9))] []) (he : ∀ (y9 : Int) (σ : Mem), o = .inr (y9, σ) → G p l e rm_X12_run s m args below meth c 10 D ca ad A 0 0 (MQ below (Qi D ca ad A r0 σ0) args s 0 0 A) σ 121 [some (.ref (ad 120)), some (.int (iI p1)), some (.int (iI p2)), none, some (.int (iI p4)), some (.int (iI p5)), some (.int (iI p6)), some (.int (iI p7)), none, some (.int (iI y9))] []) {x8 x9 : Int} {σ : Mem} (hf : f_X12_run_87 p1 p2 p4 p5 p6 p7 x8 x9 σ = some o) : G p l e rm_X12_run s m args below meth c 10 D ca ad A 0 0 (MQ below (Qi D ca ad A r0 σ0) args s 0 0 A) σ 87 [some (.ref (ad 120)), some (.int (iI p1)), some (.int (iI p2)), none, some (.int (iI p4)), some (.int (iI p5)), some (.int (iI p6)), some (.int (iI p7)), some (.int (iI x8)), some (.int (iI x9))] [] := by
  unfold f_X12_run_87 at hf
  refine g_iload C dX12_run_87 rfl ?_
  refine g_aload_n (i := 0) C dX12_run_89 rfl rfl ?_
  refine gg_X12_s (i := 6) C hiX12_run_X12 rfl dX12_run_90 ?_
  refine g_iconst C dX12_run_93 ?_
  refine g_iload C dX12_run_94 rfl ?_
  refine g_iadd C dX12_run_96 ?_
  obtain ⟨hb20, hf⟩ := if_inv hf
  refine g_iaload (N := 39) C (by decide) dX12_run_97 rfl hb20 ?_
  refine g_icmp_lt (tgt := 121) C dX12_run_98 (by decide) rfl rfl (fun c21 => ?_) (fun c21 => ?_)
  · have hf := if_t c21 hf
    exact g_mask [true, true, true, false, true, true, true, true, false, true] (he _ _ (Option.some.inj hf).symm)
  · have hf := if_f c21 hf
    refine g_iload C dX12_run_101 rfl ?_
    refine g_aload_n (i := 0) C dX12_run_103 rfl rfl ?_
    refine gg_X12_s (i := 6) C hiX12_run_X12 rfl dX12_run_104 ?_
    refine g_iconst C dX12_run_107 ?_
    refine g_iload C dX12_run_108 rfl ?_
    refine g_iadd C dX12_run_110 ?_
    refine g_iaload (N := 39) C (by decide) dX12_run_111 rfl hb20 ?_
    refine g_isub C dX12_run_112 ?_
    refine g_istore C dX12_run_113 (by decide) rfl ?_
    refine g_iinc C dX12_run_115 rfl (by decide) rfl ?_
    refine g_goto (tgt := 87) C dX12_run_118 (by decide) ?_
    exact g_mask [true, true, true, false, true, true, true, true, true, true] (hc _ _ _ (Option.some.inj hf).symm)
set_option maxHeartbeats 4000000 in
set_option maxRecDepth 100000 in
theorem w_X12_run_87 (C : Cx p s m args c cX12_run 10 RX12 wsX12_run D ca A) (hr : meth.sig.returnType = (some .int)) (hlk : meth.locks = false) {p1 p2 p4 p5 p6 p7 : Int} {n : Nat} {x8 x9 : Int} {σ : Mem} {b : (Int × Mem)} (h : itr (fun z : Int × Int × Mem => f_X12_run_87 p1 p2 p4 p5 p6 p7 z.1 z.2.1 z.2.2) n (x8, x9, σ) = some b) (he : ∀ (y9 : Int) (σ : Mem), b = (y9, σ) → G p l e rm_X12_run s m args below meth c 10 D ca ad A 0 0 (MQ below (Qi D ca ad A r0 σ0) args s 0 0 A) σ 121 [some (.ref (ad 120)), some (.int (iI p1)), some (.int (iI p2)), none, some (.int (iI p4)), some (.int (iI p5)), some (.int (iI p6)), some (.int (iI p7)), none, some (.int (iI y9))] []) : G p l e rm_X12_run s m args below meth c 10 D ca ad A 0 0 (MQ below (Qi D ca ad A r0 σ0) args s 0 0 A) σ 87 [some (.ref (ad 120)), some (.int (iI p1)), some (.int (iI p2)), none, some (.int (iI p4)), some (.int (iI p5)), some (.int (iI p6)), some (.int (iI p7)), some (.int (iI x8)), some (.int (iI x9))] [] :=
  itr_rule (P := fun z : Int × Int × Mem => G p l e rm_X12_run s m args below meth c 10 D ca ad A 0 0 (MQ below (Qi D ca ad A r0 σ0) args s 0 0 A) z.2.2 87 [some (.ref (ad 120)), some (.int (iI p1)), some (.int (iI p2)), none, some (.int (iI p4)), some (.int (iI p5)), some (.int (iI p6)), some (.int (iI p7)), some (.int (iI z.1)), some (.int (iI z.2.1))] []) (E := fun b => ∀ (y9 : Int) (σ : Mem), b = (y9, σ) → G p l e rm_X12_run s m args below meth c 10 D ca ad A 0 0 (MQ below (Qi D ca ad A r0 σ0) args s 0 0 A) σ 121 [some (.ref (ad 120)), some (.int (iI p1)), some (.int (iI p2)), none, some (.int (iI p4)), some (.int (iI p5)), some (.int (iI p6)), some (.int (iI p7)), none, some (.int (iI y9))] []) (fun z o hb hc he => it_X12_run_87 C hr hlk (fun _ _ _ e => hc _ e) (fun _ _ e => (he _ e) _ _ rfl) hb) n _ _ h he
set_option maxHeartbeats 4000000 in
set_option maxRecDepth 100000 in
theorem it_X12_run_54 (C : Cx p s m args c cX12_run 10 RX12 wsX12_run D ca A) (hr : meth.sig.returnType = (some .int)) (hlk : meth.locks = false) {p1 p2 p4 : Int} {o : (Int × Int × Int × Mem) ⊕ (Int × Mem)} (hc : ∀ (x5 x6 x7 : Int) (σ : Mem), o = .inl (x5, x6, x7, σ) → G p l e rm_X12_run s m args below meth c 10 D ca ad A 0 0 (MQ below (Qi D ca ad A r0 σ0) args s 0 0 A) σ 54 [some (.ref (ad 120)), some (.int (iI p1)), some (.int (iI p2)), none, some (.int (iI p4)), some (.int (iI x5)), some (.int (iI x6)), some (.int (iI x7)), none, none] []) (he : ∀ (y6 : Int) (σ : Mem), o = .inr (y6, σ) → G p l e rm_X12_run s m args below meth c 10 D ca ad A 0 0 (MQ below (Qi D ca ad A r0 σ0) args s 0 0 A) σ 148 [none, none, none, none, none, none, some (.int (iI y6)), none, none, none] []) {x5 x6 x7 : Int} {σ : Mem} (hf : f_X12_run_54 p1 p2 p4 x5 x6 x7 σ = some o) : G p l e rm_X12_run s m args below meth c 10 D ca ad A 0 0 (MQ below (Qi D ca ad A r0 σ0) args s 0 0 A) σ 54 [some (.ref (ad 120)), some (.int (iI p1)), some (.int (iI p2)), none, some (.int (iI p4)), some (.int (iI x5)), some (.int (iI x6)), some (.int (iI x7)), none, none] [] := by
  unfold f_X12_run_54 at hf
  refine g_iload C dX12_run_54 rfl ?_
  refine g_iload_n (i := 2) C dX12_run_56 rfl rfl ?_
  refine g_icmp_ge (tgt := 148) C dX12_run_57 (by decide) rfl rfl (fun c17 => ?_) (fun c17 => ?_)
  · have hf := if_t c17 hf
    exact g_mask [false, false, false, false, false, false, true, false, false, false] (he _ _ (Option.some.inj hf).symm)
  · have hf := if_f c17 hf
    refine g_iload C dX12_run_60 rfl ?_
    refine g_ldc (i := 3) (z := 1103515245) C dX12_run_62 rfl (by decide) ?_
    refine g_imul C dX12_run_64 ?_
    refine g_sipush C dX12_run_65 (by decide) ?_
    refine g_iadd C dX12_run_68 ?_
    refine g_istore C dX12_run_69 (by decide) rfl ?_
    refine g_iload C dX12_run_71 rfl ?_
    refine g_ldc (i := 4) (z := 2147483647) C dX12_run_73 rfl (by decide) ?_
    refine g_iand C dX12_run_75 ?_
    refine g_ldc (i := 5) (z := 65536) C dX12_run_76 rfl (by decide) ?_
    refine g_idiv (b' := 65536) C dX12_run_78 rfl (by decide) (by decide) ?_
    refine g_bipush C dX12_run_79 (by decide) ?_
    refine g_irem (b' := 100) C dX12_run_81 rfl (by decide) (by decide) ?_
    refine g_istore C dX12_run_82 (by decide) rfl ?_
    refine g_iconst C dX12_run_84 ?_
    refine g_istore C dX12_run_85 (by decide) rfl ?_
    obtain ⟨q23, hl24, hf⟩ := lb_inv hf
    refine g_mask [true, true, true, false, true, true, true, true, true, true] (w_X12_run_87 C hr hlk hl24 ?_)
    · rintro y25 σ26 rfl
      refine g_iload C dX12_run_121 rfl ?_
      refine g_iload_n (i := 1) C dX12_run_123 rfl rfl ?_
      refine g_iload C dX12_run_124 rfl ?_
      obtain ⟨r28, σ27, h29, hf⟩ := ob_inv hf
      refine g_callSi C (c_X12_made  h29) (va_cwS 2 C.2.2.2.2.1 gX12_run_X12_made rfl rfl rfl (by decide +kernel) ⟨Nat.le_of_ble_eq_true rfl, Nat.le_of_ble_eq_true rfl⟩) rfl rfl (Nat.le_of_ble_eq_true rfl) dX12_run_126 ⟨Nat.zero_le _, Nat.zero_le _⟩ ?_
      refine g_iload C dX12_run_129 rfl ?_
      refine g_icmp_ne (tgt := 138) C dX12_run_131 (by decide) rfl rfl (fun c30 => ?_) (fun c30 => ?_)
      · have hf := if_f c30 hf
        refine g_iconst C dX12_run_138 ?_
        refine g_iadd C dX12_run_139 ?_
        refine g_istore C dX12_run_140 (by decide) rfl ?_
        refine g_iinc C dX12_run_142 rfl (by decide) rfl ?_
        refine g_goto (tgt := 54) C dX12_run_145 (by decide) ?_
        exact g_mask [true, true, true, false, true, true, true, true, false, false] (hc _ _ _ _ (Option.some.inj hf).symm)
      · have hf := if_t c30 hf
        refine g_iconst C dX12_run_134 ?_
        refine g_goto (tgt := 139) C dX12_run_135 (by decide) ?_
        refine g_iadd C dX12_run_139 ?_
        refine g_istore C dX12_run_140 (by decide) rfl ?_
        refine g_iinc C dX12_run_142 rfl (by decide) rfl ?_
        refine g_goto (tgt := 54) C dX12_run_145 (by decide) ?_
        exact g_mask [true, true, true, false, true, true, true, true, false, false] (hc _ _ _ _ (Option.some.inj hf).symm)
set_option maxHeartbeats 4000000 in
set_option maxRecDepth 100000 in
theorem w_X12_run_54 (C : Cx p s m args c cX12_run 10 RX12 wsX12_run D ca A) (hr : meth.sig.returnType = (some .int)) (hlk : meth.locks = false) {p1 p2 p4 : Int} {n : Nat} {x5 x6 x7 : Int} {σ : Mem} {b : (Int × Mem)} (h : itr (fun z : Int × Int × Int × Mem => f_X12_run_54 p1 p2 p4 z.1 z.2.1 z.2.2.1 z.2.2.2) n (x5, x6, x7, σ) = some b) (he : ∀ (y6 : Int) (σ : Mem), b = (y6, σ) → G p l e rm_X12_run s m args below meth c 10 D ca ad A 0 0 (MQ below (Qi D ca ad A r0 σ0) args s 0 0 A) σ 148 [none, none, none, none, none, none, some (.int (iI y6)), none, none, none] []) : G p l e rm_X12_run s m args below meth c 10 D ca ad A 0 0 (MQ below (Qi D ca ad A r0 σ0) args s 0 0 A) σ 54 [some (.ref (ad 120)), some (.int (iI p1)), some (.int (iI p2)), none, some (.int (iI p4)), some (.int (iI x5)), some (.int (iI x6)), some (.int (iI x7)), none, none] [] :=
  itr_rule (P := fun z : Int × Int × Int × Mem => G p l e rm_X12_run s m args below meth c 10 D ca ad A 0 0 (MQ below (Qi D ca ad A r0 σ0) args s 0 0 A) z.2.2.2 54 [some (.ref (ad 120)), some (.int (iI p1)), some (.int (iI p2)), none, some (.int (iI p4)), some (.int (iI z.1)), some (.int (iI z.2.1)), some (.int (iI z.2.2.1)), none, none] []) (E := fun b => ∀ (y6 : Int) (σ : Mem), b = (y6, σ) → G p l e rm_X12_run s m args below meth c 10 D ca ad A 0 0 (MQ below (Qi D ca ad A r0 σ0) args s 0 0 A) σ 148 [none, none, none, none, none, none, some (.int (iI y6)), none, none, none] []) (fun z o hb hc he => it_X12_run_54 C hr hlk (fun _ _ _ _ e => hc _ e) (fun _ _ e => (he _ e) _ _ rfl) hb) n _ _ h he
set_option maxHeartbeats 4000000 in
set_option maxRecDepth 100000 in
theorem c_X12_run {v1 v2 v3 v4 : Int} {σ : Mem} (hf : f_X12_run v1 v2 v3 v4 σ = some (r0, σ0)) : CTi l D ca ad A yX12_run wsX12_run rm_X12_run [.ref (ad 120), .int (iI v1), .int (iI v2), .int (iI v3), .int (iI v4)] σ r0 σ0 := by
  refine ct_i (cc := cX12_run) (own := RX12) (maxL := 10) (ret := (some .int)) (lv0 := [some (.ref (ad 120)), some (.int (iI v1)), some (.int (iI v2)), some (.int (iI v3)), some (.int (iI v4)), none, none, none, none, none]) (by decide) rfl rfl rfl (Nat.le_of_ble_eq_true rfl) ?_
  intro p e s m below meth c C hr hlk hnm
  unfold f_X12_run at hf
  refine g_aload_n (i := 0) C dX12_run_0 rfl rfl ?_
  obtain ⟨r2, σ1, h3, hf⟩ := ob_inv hf
  refine g_callVi C (c_X12_isOpen  h3) (cwV 0 C.2.2.2.2.1 gX12_run_X12_isOpen rfl rfl rfl (by decide +kernel) ⟨Nat.le_of_ble_eq_true rfl, Nat.le_of_ble_eq_true rfl⟩) ob_X12 rfl rfl rfl rfl (Nat.le_of_ble_eq_true rfl) dX12_run_1 ⟨Nat.zero_le _, Nat.zero_le _⟩ ?_
  refine g_if_ne (tgt := 10) C dX12_run_4 (by decide) rfl (fun c4 => ?_) (fun c4 => ?_)
  · have hf := if_f c4 hf
    refine g_aload_n (i := 0) C dX12_run_10 rfl rfl ?_
    refine g_iload_n (i := 1) C dX12_run_11 rfl rfl ?_
    obtain ⟨r6, σ5, h7, hf⟩ := ob_inv hf
    refine g_callVi C (c_X12_isFit  h7) (cwV 1 C.2.2.2.2.1 gX12_run_X12_isFit rfl rfl rfl (by decide +kernel) ⟨Nat.le_of_ble_eq_true rfl, Nat.le_of_ble_eq_true rfl⟩) ob_X12 rfl rfl rfl rfl (Nat.le_of_ble_eq_true rfl) dX12_run_12 ⟨Nat.zero_le _, Nat.zero_le _⟩ ?_
    refine g_if_eq (tgt := 43) C dX12_run_15 (by decide) rfl (fun c8 => ?_) (fun c8 => ?_)
    · have hf := if_t c8 hf
      refine g_iconst C dX12_run_43 ?_
      obtain ⟨e1, e2⟩ := some_inv hf
      exact g_iret C hr hlk e1 e2 dX12_run_44
    · have hf := if_f c8 hf
      refine g_iload_n (i := 2) C dX12_run_18 rfl rfl ?_
      refine g_i2l C dX12_run_19 rfl ?_
      refine g_lconst (z := 1) C dX12_run_20 (by decide) ?_
      refine g_ldc2 (i := 1) (z := 99) C dX12_run_21 rfl (by decide) ?_
      obtain ⟨r10, σ9, h11, hf⟩ := ob_inv hf
      refine g_callSi C (c_X12_isIn  h11) (va_cwS 3 C.2.2.2.2.1 gX12_run_X12_isIn rfl rfl rfl (by decide +kernel) ⟨Nat.le_of_ble_eq_true rfl, Nat.le_of_ble_eq_true rfl⟩) rfl rfl (Nat.le_of_ble_eq_true rfl) dX12_run_24 ⟨Nat.zero_le _, Nat.zero_le _⟩ ?_
      refine g_if_eq (tgt := 43) C dX12_run_27 (by decide) rfl (fun c12 => ?_) (fun c12 => ?_)
      · have hf := if_t c12 hf
        refine g_iconst C dX12_run_43 ?_
        obtain ⟨e1, e2⟩ := some_inv hf
        exact g_iret C hr hlk e1 e2 dX12_run_44
      · have hf := if_f c12 hf
        refine g_iload C dX12_run_30 rfl ?_
        refine g_i2l C dX12_run_32 rfl ?_
        refine g_lconst (z := 0) C dX12_run_33 (by decide) ?_
        refine g_ldc2 (i := 2) (z := 4) C dX12_run_34 rfl (by decide) ?_
        obtain ⟨r14, σ13, h15, hf⟩ := ob_inv hf
        refine g_callSi C (c_X12_isIn  h15) (va_cwS 3 C.2.2.2.2.1 gX12_run_X12_isIn rfl rfl rfl (by decide +kernel) ⟨Nat.le_of_ble_eq_true rfl, Nat.le_of_ble_eq_true rfl⟩) rfl rfl (Nat.le_of_ble_eq_true rfl) dX12_run_37 ⟨Nat.zero_le _, Nat.zero_le _⟩ ?_
        refine g_if_ne (tgt := 45) C dX12_run_40 (by decide) rfl (fun c16 => ?_) (fun c16 => ?_)
        · have hf := if_f c16 hf
          refine g_iload_n (i := 3) C dX12_run_45 rfl rfl ?_
          refine g_istore C dX12_run_46 (by decide) rfl ?_
          refine g_iconst C dX12_run_48 ?_
          refine g_istore C dX12_run_49 (by decide) rfl ?_
          refine g_iconst C dX12_run_51 ?_
          refine g_istore C dX12_run_52 (by decide) rfl ?_
          obtain ⟨q31, hl32, hf⟩ := lb_inv hf
          refine g_mask [true, true, true, false, true, true, true, true, false, false] (w_X12_run_54 C hr hlk hl32 ?_)
          · rintro y33 σ34 rfl
            refine g_iload C dX12_run_148 rfl ?_
            obtain ⟨e1, e2⟩ := some_inv hf
            exact g_iret C hr hlk e1 e2 dX12_run_150
        · have hf := if_t c16 hf
          refine g_iconst C dX12_run_43 ?_
          obtain ⟨e1, e2⟩ := some_inv hf
          exact g_iret C hr hlk e1 e2 dX12_run_44
  · have hf := if_t c4 hf
    refine g_bipush C dX12_run_7 (by decide) ?_
    obtain ⟨e1, e2⟩ := some_inv hf
    exact g_iret C hr hlk e1 e2 dX12_run_9
/-! X12_rate -/
abbrev rm_X12_rate : Room := { frames := 1, cells := 0, slots := 0, locals := 25 }
set_option maxHeartbeats 4000000 in
set_option maxRecDepth 100000 in
theorem c_X12_rate {v1 : Int} {σ : Mem} (hf : f_X12_rate v1 σ = some (r0, σ0)) : CTi l D ca ad A yX12_rate wsX12_rate rm_X12_rate [.ref (ad 120), .int (iI v1)] σ r0 σ0 := by
  refine ct_i (cc := cX12_rate) (own := RX12) (maxL := 2) (ret := (some .int)) (lv0 := [some (.ref (ad 120)), some (.int (iI v1))]) (by decide) rfl rfl rfl (Nat.le_of_ble_eq_true rfl) ?_
  intro p e s m below meth c C hr hlk hnm
  unfold f_X12_rate at hf
  refine g_aload_n (i := 0) C dX12_rate_0 rfl rfl ?_
  obtain ⟨r2, σ1, h3, hf⟩ := ob_inv hf
  refine g_callVi C (c_X12_isOpen  h3) (cwV 0 C.2.2.2.2.1 gX12_rate_X12_isOpen rfl rfl rfl (by decide +kernel) ⟨Nat.le_of_ble_eq_true rfl, Nat.le_of_ble_eq_true rfl⟩) ob_X12 rfl rfl rfl rfl (Nat.le_of_ble_eq_true rfl) dX12_rate_1 ⟨Nat.zero_le _, Nat.zero_le _⟩ ?_
  refine g_if_ne (tgt := 12) C dX12_rate_4 (by decide) rfl (fun c4 => ?_) (fun c4 => ?_)
  · have hf := if_f c4 hf
    refine g_iload_n (i := 1) C dX12_rate_12 rfl rfl ?_
    refine g_i2l C dX12_rate_13 rfl ?_
    refine g_lconst (z := 0) C dX12_rate_14 (by decide) ?_
    refine g_ldc2 (i := 1) (z := 100) C dX12_rate_15 rfl (by decide) ?_
    obtain ⟨r6, σ5, h7, hf⟩ := ob_inv hf
    refine g_callSi C (c_X12_isIn  h7) (va_cwS 3 C.2.2.2.2.1 gX12_rate_X12_isIn rfl rfl rfl (by decide +kernel) ⟨Nat.le_of_ble_eq_true rfl, Nat.le_of_ble_eq_true rfl⟩) rfl rfl (Nat.le_of_ble_eq_true rfl) dX12_rate_18 ⟨Nat.zero_le _, Nat.zero_le _⟩ ?_
    refine g_if_eq (tgt := 33) C dX12_rate_21 (by decide) rfl (fun c8 => ?_) (fun c8 => ?_)
    · have hf := if_t c8 hf
      refine g_iconst C dX12_rate_33 ?_
      obtain ⟨e1, e2⟩ := some_inv hf
      exact g_iret C hr hlk e1 e2 dX12_rate_34
    · have hf := if_f c8 hf
      refine g_aload_n (i := 0) C dX12_rate_24 rfl rfl ?_
      refine g_iconst C dX12_rate_25 ?_
      refine g_iload_n (i := 1) C dX12_rate_26 rfl rfl ?_
      obtain ⟨r10, σ9, h11, hf⟩ := ob_inv hf
      refine g_callVi C (c_X12_becomes  h11) (cwV 2 C.2.2.2.2.1 gX12_rate_X12_becomes rfl rfl rfl (by decide +kernel) ⟨Nat.le_of_ble_eq_true rfl, Nat.le_of_ble_eq_true rfl⟩) ob_X12 rfl rfl rfl rfl (Nat.le_of_ble_eq_true rfl) dX12_rate_27 ⟨Nat.zero_le _, Nat.zero_le _⟩ ?_
      refine g_goto (tgt := 34) C dX12_rate_30 (by decide) ?_
      obtain ⟨e1, e2⟩ := some_inv hf
      exact g_iret C hr hlk e1 e2 dX12_rate_34
  · have hf := if_t c4 hf
    refine g_bipush C dX12_rate_7 (by decide) ?_
    refine g_goto (tgt := 34) C dX12_rate_9 (by decide) ?_
    obtain ⟨e1, e2⟩ := some_inv hf
    exact g_iret C hr hlk e1 e2 dX12_rate_34
/-! X12_over -/
abbrev rm_X12_over : Room := { frames := 0, cells := 0, slots := 0, locals := 0 }
theorem hiX12_over_X12 : ∀ w ∈ u_ws RX12 TX12 24, w ∈ wsX12_over := fun _ h => (List.mem_cons_of_mem _ (List.mem_append_right _ h))
set_option maxHeartbeats 4000000 in
set_option maxRecDepth 100000 in
theorem c_X12_over {v1 : Int} {σ : Mem} (hf : f_X12_over v1 σ = some (r0, σ0)) : CTv l D ca ad A yX12_over wsX12_over rm_X12_over [.ref (ad 120), .int (iI v1)] σ σ0 := by
  refine ct_v (cc := cX12_over) (own := RX12) (maxL := 2) (ret := none) (lv0 := [some (.ref (ad 120)), some (.int (iI v1))]) (by decide) rfl rfl rfl (Nat.le_of_ble_eq_true rfl) ?_
  intro p e s m below meth c C hr hlk hnm
  unfold f_X12_over at hf
  refine g_aload_n (i := 0) C dX12_over_0 rfl rfl ?_
  refine g_iload_n (i := 1) C dX12_over_1 rfl rfl ?_
  refine gp_X12_years (i := 1) C hiX12_over_X12 rfl dX12_over_2 ?_
  refine g_aload_n (i := 0) C dX12_over_5 rfl rfl ?_
  refine g_iload_n (i := 1) C dX12_over_6 rfl rfl ?_
  refine g_iconst C dX12_over_7 ?_
  refine g_icmp_le (b' := 1) (tgt := 15) C dX12_over_8 (by decide) rfl (by decide) (fun c2 => ?_) (fun c2 => ?_)
  · have hf := if_t c2 hf
    refine g_iconst C dX12_over_15 ?_
    refine gp_X12_known (i := 2) C hiX12_over_X12 rfl dX12_over_16 ?_
    obtain ⟨e1, e2⟩ := some_inv hf
    exact g_vret C hr hlk e2 dX12_over_19
  · have hf := if_f c2 hf
    refine g_iconst C dX12_over_11 ?_
    refine g_goto (tgt := 16) C dX12_over_12 (by decide) ?_
    refine gp_X12_known (i := 2) C hiX12_over_X12 rfl dX12_over_16 ?_
    obtain ⟨e1, e2⟩ := some_inv hf
    exact g_vret C hr hlk e2 dX12_over_19
/-! X12_years -/
abbrev rm_X12_years : Room := { frames := 3, cells := 0, slots := 0, locals := 71 }
theorem hiX12_years_X12 : ∀ w ∈ u_ws RX12 TX12 24, w ∈ wsX12_years := fun _ h => (List.mem_cons_of_mem _ (List.mem_append_right _ h))
set_option maxHeartbeats 4000000 in
set_option maxRecDepth 100000 in
theorem c_X12_years {v1 v2 v3 v4 : Int} {σ : Mem} (hf : f_X12_years v1 v2 v3 v4 σ = some (r0, σ0)) : CTl l D ca ad A yX12_years wsX12_years rm_X12_years [.ref (ad 120), .int (iI v1), .int (iI v2), .int (iI v3), .int (iI v4)] σ r0 σ0 := by
  refine ct_l (cc := cX12_years) (own := RX12) (maxL := 5) (ret := (some .long)) (lv0 := [some (.ref (ad 120)), some (.int (iI v1)), some (.int (iI v2)), some (.int (iI v3)), some (.int (iI v4))]) (by decide) rfl rfl rfl (Nat.le_of_ble_eq_true rfl) ?_
  intro p e s m below meth c C hr hlk hnm
  unfold f_X12_years at hf
  refine g_aload_n (i := 0) C dX12_years_0 rfl rfl ?_
  obtain ⟨r2, σ1, h3, hf⟩ := ob_inv hf
  refine g_callVi C (c_X12_isOpen  h3) (cwV 0 C.2.2.2.2.1 gX12_years_X12_isOpen rfl rfl rfl (by decide +kernel) ⟨Nat.le_of_ble_eq_true rfl, Nat.le_of_ble_eq_true rfl⟩) ob_X12 rfl rfl rfl rfl (Nat.le_of_ble_eq_true rfl) dX12_years_1 ⟨Nat.zero_le _, Nat.zero_le _⟩ ?_
  refine g_if_eq (tgt := 46) C dX12_years_4 (by decide) rfl (fun c4 => ?_) (fun c4 => ?_)
  · have hf := if_t c4 hf
    refine g_ldc2 (i := 2) (z := -4611686018427387904) C dX12_years_46 rfl (by decide) ?_
    obtain ⟨e1, e2⟩ := some_inv hf
    exact g_lret C hr hlk e1 e2 dX12_years_49
  · have hf := if_f c4 hf
    refine g_aload_n (i := 0) C dX12_years_7 rfl rfl ?_
    refine g_iload_n (i := 1) C dX12_years_8 rfl rfl ?_
    obtain ⟨r6, σ5, h7, hf⟩ := ob_inv hf
    refine g_callVi C (c_X12_isFit  h7) (cwV 1 C.2.2.2.2.1 gX12_years_X12_isFit rfl rfl rfl (by decide +kernel) ⟨Nat.le_of_ble_eq_true rfl, Nat.le_of_ble_eq_true rfl⟩) ob_X12 rfl rfl rfl rfl (Nat.le_of_ble_eq_true rfl) dX12_years_9 ⟨Nat.zero_le _, Nat.zero_le _⟩ ?_
    refine g_if_eq (tgt := 46) C dX12_years_12 (by decide) rfl (fun c8 => ?_) (fun c8 => ?_)
    · have hf := if_t c8 hf
      refine g_ldc2 (i := 2) (z := -4611686018427387904) C dX12_years_46 rfl (by decide) ?_
      obtain ⟨e1, e2⟩ := some_inv hf
      exact g_lret C hr hlk e1 e2 dX12_years_49
    · have hf := if_f c8 hf
      refine g_aload_n (i := 0) C dX12_years_15 rfl rfl ?_
      refine g_iload_n (i := 2) C dX12_years_16 rfl rfl ?_
      obtain ⟨r10, σ9, h11, hf⟩ := ob_inv hf
      refine g_callVi C (c_X12_isSort  h11) (cwV 1 C.2.2.2.2.1 gX12_years_X12_isSort rfl rfl rfl (by decide +kernel) ⟨Nat.le_of_ble_eq_true rfl, Nat.le_of_ble_eq_true rfl⟩) ob_X12 rfl rfl rfl rfl (Nat.le_of_ble_eq_true rfl) dX12_years_17 ⟨Nat.zero_le _, Nat.zero_le _⟩ ?_
      refine g_if_eq (tgt := 46) C dX12_years_20 (by decide) rfl (fun c12 => ?_) (fun c12 => ?_)
      · have hf := if_t c12 hf
        refine g_ldc2 (i := 2) (z := -4611686018427387904) C dX12_years_46 rfl (by decide) ?_
        obtain ⟨e1, e2⟩ := some_inv hf
        exact g_lret C hr hlk e1 e2 dX12_years_49
      · have hf := if_f c12 hf
        refine g_iload_n (i := 3) C dX12_years_23 rfl rfl ?_
        refine g_i2l C dX12_years_24 rfl ?_
        refine g_lconst (z := 1) C dX12_years_25 (by decide) ?_
        refine g_ldc2 (i := 1) (z := 12) C dX12_years_26 rfl (by decide) ?_
        obtain ⟨r14, σ13, h15, hf⟩ := ob_inv hf
        refine g_callSi C (c_X12_isIn  h15) (va_cwS 3 C.2.2.2.2.1 gX12_years_X12_isIn rfl rfl rfl (by decide +kernel) ⟨Nat.le_of_ble_eq_true rfl, Nat.le_of_ble_eq_true rfl⟩) rfl rfl (Nat.le_of_ble_eq_true rfl) dX12_years_29 ⟨Nat.zero_le _, Nat.zero_le _⟩ ?_
        refine g_if_eq (tgt := 46) C dX12_years_32 (by decide) rfl (fun c16 => ?_) (fun c16 => ?_)
        · have hf := if_t c16 hf
          refine g_ldc2 (i := 2) (z := -4611686018427387904) C dX12_years_46 rfl (by decide) ?_
          obtain ⟨e1, e2⟩ := some_inv hf
          exact g_lret C hr hlk e1 e2 dX12_years_49
        · have hf := if_f c16 hf
          refine g_iload C dX12_years_35 rfl ?_
          refine g_i2l C dX12_years_37 rfl ?_
          refine g_lconst (z := 0) C dX12_years_38 (by decide) ?_
          refine g_lconst (z := 1) C dX12_years_39 (by decide) ?_
          obtain ⟨r18, σ17, h19, hf⟩ := ob_inv hf
          refine g_callSi C (c_X12_isIn  h19) (va_cwS 3 C.2.2.2.2.1 gX12_years_X12_isIn rfl rfl rfl (by decide +kernel) ⟨Nat.le_of_ble_eq_true rfl, Nat.le_of_ble_eq_true rfl⟩) rfl rfl (Nat.le_of_ble_eq_true rfl) dX12_years_40 ⟨Nat.zero_le _, Nat.zero_le _⟩ ?_
          refine g_if_ne (tgt := 50) C dX12_years_43 (by decide) rfl (fun c20 => ?_) (fun c20 => ?_)
          · have hf := if_f c20 hf
            refine g_aload_n (i := 0) C dX12_years_50 rfl rfl ?_
            refine g_iload_n (i := 3) C dX12_years_51 rfl rfl ?_
            obtain ⟨r22, σ21, h23, hf⟩ := ob_inv hf
            refine g_callVv C (c_X12_over  h23) (cwV 1 C.2.2.2.2.1 gX12_years_X12_over rfl rfl rfl (by decide +kernel) ⟨Nat.le_of_ble_eq_true rfl, Nat.le_of_ble_eq_true rfl⟩) ob_X12 rfl rfl rfl rfl (Nat.le_of_ble_eq_true rfl) dX12_years_52 ⟨Nat.zero_le _, Nat.zero_le _⟩ ?_
            refine g_aload_n (i := 0) C dX12_years_55 rfl rfl ?_
            refine g_iload_n (i := 1) C dX12_years_56 rfl rfl ?_
            refine g_iload_n (i := 2) C dX12_years_57 rfl rfl ?_
            refine g_iload_n (i := 1) C dX12_years_58 rfl rfl ?_
            refine g_iload_n (i := 2) C dX12_years_59 rfl rfl ?_
            obtain ⟨r25, σ24, h26, hf⟩ := ob_inv hf
            refine g_callSi C (c_X12_made  h26) (va_cwS 2 C.2.2.2.2.1 gX12_years_X12_made rfl rfl rfl (by decide +kernel) ⟨Nat.le_of_ble_eq_true rfl, Nat.le_of_ble_eq_true rfl⟩) rfl rfl (Nat.le_of_ble_eq_true rfl) dX12_years_60 ⟨Nat.zero_le _, Nat.zero_le _⟩ ?_
            obtain ⟨r28, σ27, h29, hf⟩ := ob_inv hf
            refine g_callVv C (c_X12_findGets  h29) (cwV 3 C.2.2.2.2.1 gX12_years_X12_findGets rfl rfl rfl (by decide +kernel) ⟨Nat.le_of_ble_eq_true rfl, Nat.le_of_ble_eq_true rfl⟩) ob_X12 rfl rfl rfl rfl (Nat.le_of_ble_eq_true rfl) dX12_years_63 ⟨Nat.zero_le _, Nat.zero_le _⟩ ?_
            refine g_aload_n (i := 0) C dX12_years_66 rfl rfl ?_
            refine g_iconst C dX12_years_67 ?_
            obtain ⟨r31, σ30, h32, hf⟩ := ob_inv hf
            refine g_callVv C (c_X12_over  h32) (cwV 1 C.2.2.2.2.1 gX12_years_X12_over rfl rfl rfl (by decide +kernel) ⟨Nat.le_of_ble_eq_true rfl, Nat.le_of_ble_eq_true rfl⟩) ob_X12 rfl rfl rfl rfl (Nat.le_of_ble_eq_true rfl) dX12_years_68 ⟨Nat.zero_le _, Nat.zero_le _⟩ ?_
            refine g_aload_n (i := 0) C dX12_years_71 rfl rfl ?_
            refine gg_X12_above (i := 3) C hiX12_years_X12 rfl dX12_years_72 ?_
            refine g_aload_n (i := 0) C dX12_years_75 rfl rfl ?_
            refine gg_X12_below (i := 4) C hiX12_years_X12 rfl dX12_years_76 ?_
            refine g_iload C dX12_years_79 rfl ?_
            obtain ⟨r34, σ33, h35, hf⟩ := ob_inv hf
            refine g_callSl C (c_X12_told  h35) (va_cwS 3 C.2.2.2.2.1 gX12_years_X12_told rfl rfl rfl (by decide +kernel) ⟨Nat.le_of_ble_eq_true rfl, Nat.le_of_ble_eq_true rfl⟩) rfl rfl (Nat.le_of_ble_eq_true rfl) dX12_years_81 ⟨Nat.zero_le _, Nat.zero_le _⟩ ?_
            obtain ⟨e1, e2⟩ := some_inv hf
            exact g_lret C hr hlk e1 e2 dX12_years_84
          · have hf := if_t c20 hf
            refine g_ldc2 (i := 2) (z := -4611686018427387904) C dX12_years_46 rfl (by decide) ?_
            obtain ⟨e1, e2⟩ := some_inv hf
            exact g_lret C hr hlk e1 e2 dX12_years_49
/-! X12_ratherOver -/
abbrev rm_X12_ratherOver : Room := { frames := 4, cells := 0, slots := 0, locals := 98 }
set_option maxHeartbeats 4000000 in
set_option maxRecDepth 100000 in
theorem c_X12_ratherOver {v1 v2 : Int} {σ : Mem} (hf : f_X12_ratherOver v1 v2 σ = some (r0, σ0)) : CTi l D ca ad A yX12_ratherOver wsX12_ratherOver rm_X12_ratherOver [.ref (ad 120), .int (iI v1), .int (iI v2)] σ r0 σ0 := by
  refine ct_i (cc := cX12_ratherOver) (own := RX12) (maxL := 4) (ret := (some .int)) (lv0 := [some (.ref (ad 120)), some (.int (iI v1)), some (.int (iI v2)), none]) (by decide) rfl rfl rfl (Nat.le_of_ble_eq_true rfl) ?_
  intro p e s m below meth c C hr hlk hnm
  unfold f_X12_ratherOver at hf
  refine g_aload_n (i := 0) C dX12_ratherOver_0 rfl rfl ?_
  obtain ⟨r2, σ1, h3, hf⟩ := ob_inv hf
  refine g_callVi C (c_X12_isOpen  h3) (cwV 0 C.2.2.2.2.1 gX12_ratherOver_X12_isOpen rfl rfl rfl (by decide +kernel) ⟨Nat.le_of_ble_eq_true rfl, Nat.le_of_ble_eq_true rfl⟩) ob_X12 rfl rfl rfl rfl (Nat.le_of_ble_eq_true rfl) dX12_ratherOver_1 ⟨Nat.zero_le _, Nat.zero_le _⟩ ?_
  refine g_if_ne (tgt := 10) C dX12_ratherOver_4 (by decide) rfl (fun c4 => ?_) (fun c4 => ?_)
  · have hf := if_f c4 hf
    refine g_aload_n (i := 0) C dX12_ratherOver_10 rfl rfl ?_
    refine g_iload_n (i := 1) C dX12_ratherOver_11 rfl rfl ?_
    obtain ⟨r6, σ5, h7, hf⟩ := ob_inv hf
    refine g_callVi C (c_X12_isFit  h7) (cwV 1 C.2.2.2.2.1 gX12_ratherOver_X12_isFit rfl rfl rfl (by decide +kernel) ⟨Nat.le_of_ble_eq_true rfl, Nat.le_of_ble_eq_true rfl⟩) ob_X12 rfl rfl rfl rfl (Nat.le_of_ble_eq_true rfl) dX12_ratherOver_12 ⟨Nat.zero_le _, Nat.zero_le _⟩ ?_
    refine g_if_eq (tgt := 30) C dX12_ratherOver_15 (by decide) rfl (fun c8 => ?_) (fun c8 => ?_)
    · have hf := if_t c8 hf
      refine g_iconst C dX12_ratherOver_30 ?_
      obtain ⟨e1, e2⟩ := some_inv hf
      exact g_iret C hr hlk e1 e2 dX12_ratherOver_31
    · have hf := if_f c8 hf
      refine g_iload_n (i := 2) C dX12_ratherOver_18 rfl rfl ?_
      refine g_i2l C dX12_ratherOver_19 rfl ?_
      refine g_lconst (z := 1) C dX12_ratherOver_20 (by decide) ?_
      refine g_ldc2 (i := 1) (z := 12) C dX12_ratherOver_21 rfl (by decide) ?_
      obtain ⟨r10, σ9, h11, hf⟩ := ob_inv hf
      refine g_callSi C (c_X12_isIn  h11) (va_cwS 3 C.2.2.2.2.1 gX12_ratherOver_X12_isIn rfl rfl rfl (by decide +kernel) ⟨Nat.le_of_ble_eq_true rfl, Nat.le_of_ble_eq_true rfl⟩) rfl rfl (Nat.le_of_ble_eq_true rfl) dX12_ratherOver_24 ⟨Nat.zero_le _, Nat.zero_le _⟩ ?_
      refine g_if_ne (tgt := 32) C dX12_ratherOver_27 (by decide) rfl (fun c12 => ?_) (fun c12 => ?_)
      · have hf := if_f c12 hf
        refine g_aload_n (i := 0) C dX12_ratherOver_32 rfl rfl ?_
        refine g_iload_n (i := 2) C dX12_ratherOver_33 rfl rfl ?_
        obtain ⟨r14, σ13, h15, hf⟩ := ob_inv hf
        refine g_callVv C (c_X12_over  h15) (cwV 1 C.2.2.2.2.1 gX12_ratherOver_X12_over rfl rfl rfl (by decide +kernel) ⟨Nat.le_of_ble_eq_true rfl, Nat.le_of_ble_eq_true rfl⟩) ob_X12 rfl rfl rfl rfl (Nat.le_of_ble_eq_true rfl) dX12_ratherOver_34 ⟨Nat.zero_le _, Nat.zero_le _⟩ ?_
        refine g_aload_n (i := 0) C dX12_ratherOver_37 rfl rfl ?_
        refine g_iload_n (i := 1) C dX12_ratherOver_38 rfl rfl ?_
        obtain ⟨r17, σ16, h18, hf⟩ := ob_inv hf
        refine g_callVi C (c_X12_ratherOf  h18) (cwV 1 C.2.2.2.2.1 gX12_ratherOver_X12_ratherOf rfl rfl rfl (by decide +kernel) ⟨Nat.le_of_ble_eq_true rfl, Nat.le_of_ble_eq_true rfl⟩) ob_X12 rfl rfl rfl rfl (Nat.le_of_ble_eq_true rfl) dX12_ratherOver_39 ⟨Nat.zero_le _, Nat.zero_le _⟩ ?_
        refine g_istore_n (i := 3) C dX12_ratherOver_42 rfl (by decide) rfl ?_
        refine g_aload_n (i := 0) C dX12_ratherOver_43 rfl rfl ?_
        refine g_iconst C dX12_ratherOver_44 ?_
        obtain ⟨r20, σ19, h21, hf⟩ := ob_inv hf
        refine g_callVv C (c_X12_over  h21) (cwV 1 C.2.2.2.2.1 gX12_ratherOver_X12_over rfl rfl rfl (by decide +kernel) ⟨Nat.le_of_ble_eq_true rfl, Nat.le_of_ble_eq_true rfl⟩) ob_X12 rfl rfl rfl rfl (Nat.le_of_ble_eq_true rfl) dX12_ratherOver_45 ⟨Nat.zero_le _, Nat.zero_le _⟩ ?_
        refine g_iload_n (i := 3) C dX12_ratherOver_48 rfl rfl ?_
        obtain ⟨e1, e2⟩ := some_inv hf
        exact g_iret C hr hlk e1 e2 dX12_ratherOver_49
      · have hf := if_t c12 hf
        refine g_iconst C dX12_ratherOver_30 ?_
        obtain ⟨e1, e2⟩ := some_inv hf
        exact g_iret C hr hlk e1 e2 dX12_ratherOver_31
  · have hf := if_t c4 hf
    refine g_bipush C dX12_ratherOver_7 (by decide) ?_
    obtain ⟨e1, e2⟩ := some_inv hf
    exact g_iret C hr hlk e1 e2 dX12_ratherOver_9
/-! X12_bestTax -/
abbrev rm_X12_bestTax : Room := { frames := 5, cells := 0, slots := 0, locals := 119 }
theorem hiX12_bestTax_X12 : ∀ w ∈ u_ws RX12 TX12 24, w ∈ wsX12_bestTax := fun _ h => (List.mem_cons_of_mem _ (List.mem_append_right _ h))
set_option maxHeartbeats 4000000 in
set_option maxRecDepth 100000 in
theorem it_X12_bestTax_40 (C : Cx p s m args c cX12_bestTax 9 RX12 wsX12_bestTax D ca A) (hr : meth.sig.returnType = (some .int)) (hlk : meth.locks = false) {p1 p2 p3 p4 : Int} {o : (Int × Mem) ⊕ (Mem)} (hc : ∀ (x5 : Int) (σ : Mem), o = .inl (x5, σ) → G p l e rm_X12_bestTax s m args below meth c 9 D ca ad A 0 0 (MQ below (Qi D ca ad A r0 σ0) args s 0 0 A) σ 40 [some (.ref (ad 120)), some (.int (iI p1)), some (.int (iI p2)), some (.int (iI p3)), some (.int (iI p4)), some (.int (iI x5)), none, none, none] []) (he : ∀ (σ : Mem), o = .inr σ → G p l e rm_X12_bestTax s m args below meth c 9 D ca ad A 0 0 (MQ below (Qi D ca ad A r0 σ0) args s 0 0 A) σ 78 [some (.ref (ad 120)), some (.int (iI p1)), some (.int (iI p2)), some (.int (iI p3)), some (.int (iI p4)), none, none, none, none] []) {x5 : Int} {σ : Mem} (hf : f_X12_bestTax_40 p1 p2 p3 p4 x5 σ = some o) : G p l e rm_X12_bestTax s m args below meth c 9 D ca ad A 0 0 (MQ below (Qi D ca ad A r0 σ0) args s 0 0 A) σ 40 [some (.ref (ad 120)), some (.int (iI p1)), some (.int (iI p2)), some (.int (iI p3)), some (.int (iI p4)), some (.int (iI x5)), none, none, none] [] := by
  unfold f_X12_bestTax_40 at hf
  refine g_iload C dX12_bestTax_40 rfl ?_
  refine g_aload_n (i := 0) C dX12_bestTax_42 rfl rfl ?_
  refine gg_X12_s (i := 1) C hiX12_bestTax_X12 rfl dX12_bestTax_43 ?_
  refine g_iconst C dX12_bestTax_46 ?_
  refine g_iaload (N := 39) (j := 0) C (by decide) dX12_bestTax_47 (by decide) (by decide) ?_
  refine g_icmp_ge (tgt := 78) C dX12_bestTax_48 (by decide) rfl rfl (fun c13 => ?_) (fun c13 => ?_)
  · have hf := if_t c13 hf
    exact g_mask [true, true, true, true, true, false, false, false, false] (he _ (Option.some.inj hf).symm)
  · have hf := if_f c13 hf
    refine g_aload_n (i := 0) C dX12_bestTax_51 rfl rfl ?_
    refine gg_X12_dear (i := 2) C hiX12_bestTax_X12 rfl dX12_bestTax_52 ?_
    refine g_iload C dX12_bestTax_55 rfl ?_
    refine g_aload_n (i := 0) C dX12_bestTax_57 rfl rfl ?_
    refine gg_X12_s (i := 1) C hiX12_bestTax_X12 rfl dX12_bestTax_58 ?_
    refine g_bipush C dX12_bestTax_61 (by decide) ?_
    refine g_iconst C dX12_bestTax_63 ?_
    refine g_iload_n (i := 1) C dX12_bestTax_64 rfl rfl ?_
    refine g_imul C dX12_bestTax_65 ?_
    refine g_iadd C dX12_bestTax_66 ?_
    refine g_iload C dX12_bestTax_67 rfl ?_
    refine g_iadd C dX12_bestTax_69 ?_
    obtain ⟨hb14, hf⟩ := if_inv hf
    refine g_iaload (N := 39) C (by decide) dX12_bestTax_70 rfl hb14 ?_
    obtain ⟨hb15, hf⟩ := if_inv hf
    refine g_iastore (N := 4) C (by decide) dX12_bestTax_71 rfl hb15 ?_
    refine g_iinc C dX12_bestTax_72 rfl (by decide) rfl ?_
    refine g_goto (tgt := 40) C dX12_bestTax_75 (by decide) ?_
    exact g_mask [true, true, true, true, true, true, false, false, false] (hc _ _ (Option.some.inj hf).symm)
set_option maxHeartbeats 4000000 in
set_option maxRecDepth 100000 in
theorem w_X12_bestTax_40 (C : Cx p s m args c cX12_bestTax 9 RX12 wsX12_bestTax D ca A) (hr : meth.sig.returnType = (some .int)) (hlk : meth.locks = false) {p1 p2 p3 p4 : Int} {n : Nat} {x5 : Int} {σ : Mem} {b : (Mem)} (h : itr (fun z : Int × Mem => f_X12_bestTax_40 p1 p2 p3 p4 z.1 z.2) n (x5, σ) = some b) (he : ∀ (σ : Mem), b = σ → G p l e rm_X12_bestTax s m args below meth c 9 D ca ad A 0 0 (MQ below (Qi D ca ad A r0 σ0) args s 0 0 A) σ 78 [some (.ref (ad 120)), some (.int (iI p1)), some (.int (iI p2)), some (.int (iI p3)), some (.int (iI p4)), none, none, none, none] []) : G p l e rm_X12_bestTax s m args below meth c 9 D ca ad A 0 0 (MQ below (Qi D ca ad A r0 σ0) args s 0 0 A) σ 40 [some (.ref (ad 120)), some (.int (iI p1)), some (.int (iI p2)), some (.int (iI p3)), some (.int (iI p4)), some (.int (iI x5)), none, none, none] [] :=
  itr_rule (P := fun z : Int × Mem => G p l e rm_X12_bestTax s m args below meth c 9 D ca ad A 0 0 (MQ below (Qi D ca ad A r0 σ0) args s 0 0 A) z.2 40 [some (.ref (ad 120)), some (.int (iI p1)), some (.int (iI p2)), some (.int (iI p3)), some (.int (iI p4)), some (.int (iI z.1)), none, none, none] []) (E := fun b => ∀ (σ : Mem), b = σ → G p l e rm_X12_bestTax s m args below meth c 9 D ca ad A 0 0 (MQ below (Qi D ca ad A r0 σ0) args s 0 0 A) σ 78 [some (.ref (ad 120)), some (.int (iI p1)), some (.int (iI p2)), some (.int (iI p3)), some (.int (iI p4)), none, none, none, none] []) (fun z o hb hc he => it_X12_bestTax_40 C hr hlk (fun _ _ e => hc _ e) (fun _ e => (he _ e) _ rfl) hb) n _ _ h he
set_option maxHeartbeats 4000000 in
set_option maxRecDepth 100000 in
theorem it_X12_bestTax_103 (C : Cx p s m args c cX12_bestTax 9 RX12 wsX12_bestTax D ca A) (hr : meth.sig.returnType = (some .int)) (hlk : meth.locks = false) {p1 p2 p3 p4 p5 p6 : Int} {o : (Int × Mem) ⊕ (Mem)} (hc : ∀ (x7 : Int) (σ : Mem), o = .inl (x7, σ) → G p l e rm_X12_bestTax s m args below meth c 9 D ca ad A 0 0 (MQ below (Qi D ca ad A r0 σ0) args s 0 0 A) σ 103 [some (.ref (ad 120)), some (.int (iI p1)), some (.int (iI p2)), some (.int (iI p3)), some (.int (iI p4)), some (.int (iI p5)), some (.int (iI p6)), some (.int (iI x7)), none] []) (he : ∀ (σ : Mem), o = .inr σ → G p l e rm_X12_bestTax s m args below meth c 9 D ca ad A 0 0 (MQ below (Qi D ca ad A r0 σ0) args s 0 0 A) σ 144 [some (.ref (ad 120)), some (.int (iI p1)), some (.int (iI p2)), some (.int (iI p3)), some (.int (iI p4)), some (.int (iI p5)), some (.int (iI p6)), none, none] []) {x7 : Int} {σ : Mem} (hf : f_X12_bestTax_103 p1 p2 p3 p4 p5 p6 x7 σ = some o) : G p l e rm_X12_bestTax s m args below meth c 9 D ca ad A 0 0 (MQ below (Qi D ca ad A r0 σ0) args s 0 0 A) σ 103 [some (.ref (ad 120)), some (.int (iI p1)), some (.int (iI p2)), some (.int (iI p3)), some (.int (iI p4)), some (.int (iI p5)), some (.int (iI p6)), some (.int (iI x7)), none] [] := by
  unfold f_X12_bestTax_103 at hf
  refine g_iload C dX12_bestTax_103 rfl ?_
  refine g_aload_n (i := 0) C dX12_bestTax_105 rfl rfl ?_
  refine gg_X12_s (i := 1) C hiX12_bestTax_X12 rfl dX12_bestTax_106 ?_
  refine g_iconst C dX12_bestTax_109 ?_
  refine g_iaload (N := 39) (j := 0) C (by decide) dX12_bestTax_110 (by decide) (by decide) ?_
  refine g_icmp_ge (tgt := 144) C dX12_bestTax_111 (by decide) rfl rfl (fun c25 => ?_) (fun c25 => ?_)
  · have hf := if_t c25 hf
    exact g_mask [true, true, true, true, true, true, true, false, false] (he _ (Option.some.inj hf).symm)
  · have hf := if_f c25 hf
    refine g_aload_n (i := 0) C dX12_bestTax_114 rfl rfl ?_
    refine gg_X12_s (i := 1) C hiX12_bestTax_X12 rfl dX12_bestTax_115 ?_
    refine g_bipush C dX12_bestTax_118 (by decide) ?_
    refine g_iconst C dX12_bestTax_120 ?_
    refine g_iload_n (i := 1) C dX12_bestTax_121 rfl rfl ?_
    refine g_imul C dX12_bestTax_122 ?_
    refine g_iadd C dX12_bestTax_123 ?_
    refine g_iload C dX12_bestTax_124 rfl ?_
    refine g_iadd C dX12_bestTax_126 ?_
    refine g_aload_n (i := 0) C dX12_bestTax_127 rfl rfl ?_
    refine gg_X12_dear (i := 2) C hiX12_bestTax_X12 rfl dX12_bestTax_128 ?_
    refine g_iload C dX12_bestTax_131 rfl ?_
    obtain ⟨hb26, hf⟩ := if_inv hf
    refine g_iaload (N := 4) C (by decide) dX12_bestTax_133 rfl hb26 ?_
    refine g_iload C dX12_bestTax_134 rfl ?_
    refine g_iadd C dX12_bestTax_136 ?_
    obtain ⟨hb27, hf⟩ := if_inv hf
    refine g_iastore (N := 39) C (by decide) dX12_bestTax_137 rfl hb27 ?_
    refine g_iinc C dX12_bestTax_138 rfl (by decide) rfl ?_
    refine g_goto (tgt := 103) C dX12_bestTax_141 (by decide) ?_
    exact g_mask [true, true, true, true, true, true, true, true, false] (hc _ _ (Option.some.inj hf).symm)
set_option maxHeartbeats 4000000 in
set_option maxRecDepth 100000 in
theorem w_X12_bestTax_103 (C : Cx p s m args c cX12_bestTax 9 RX12 wsX12_bestTax D ca A) (hr : meth.sig.returnType = (some .int)) (hlk : meth.locks = false) {p1 p2 p3 p4 p5 p6 : Int} {n : Nat} {x7 : Int} {σ : Mem} {b : (Mem)} (h : itr (fun z : Int × Mem => f_X12_bestTax_103 p1 p2 p3 p4 p5 p6 z.1 z.2) n (x7, σ) = some b) (he : ∀ (σ : Mem), b = σ → G p l e rm_X12_bestTax s m args below meth c 9 D ca ad A 0 0 (MQ below (Qi D ca ad A r0 σ0) args s 0 0 A) σ 144 [some (.ref (ad 120)), some (.int (iI p1)), some (.int (iI p2)), some (.int (iI p3)), some (.int (iI p4)), some (.int (iI p5)), some (.int (iI p6)), none, none] []) : G p l e rm_X12_bestTax s m args below meth c 9 D ca ad A 0 0 (MQ below (Qi D ca ad A r0 σ0) args s 0 0 A) σ 103 [some (.ref (ad 120)), some (.int (iI p1)), some (.int (iI p2)), some (.int (iI p3)), some (.int (iI p4)), some (.int (iI p5)), some (.int (iI p6)), some (.int (iI x7)), none] [] :=
  itr_rule (P := fun z : Int × Mem => G p l e rm_X12_bestTax s m args below meth c 9 D ca ad A 0 0 (MQ below (Qi D ca ad A r0 σ0) args s 0 0 A) z.2 103 [some (.ref (ad 120)), some (.int (iI p1)), some (.int (iI p2)), some (.int (iI p3)), some (.int (iI p4)), some (.int (iI p5)), some (.int (iI p6)), some (.int (iI z.1)), none] []) (E := fun b => ∀ (σ : Mem), b = σ → G p l e rm_X12_bestTax s m args below meth c 9 D ca ad A 0 0 (MQ below (Qi D ca ad A r0 σ0) args s 0 0 A) σ 144 [some (.ref (ad 120)), some (.int (iI p1)), some (.int (iI p2)), some (.int (iI p3)), some (.int (iI p4)), some (.int (iI p5)), some (.int (iI p6)), none, none] []) (fun z o hb hc he => it_X12_bestTax_103 C hr hlk (fun _ _ e => hc _ e) (fun _ e => (he _ e) _ rfl) hb) n _ _ h he
set_option maxHeartbeats 4000000 in
set_option maxRecDepth 100000 in
theorem it_X12_bestTax_155 (C : Cx p s m args c cX12_bestTax 9 RX12 wsX12_bestTax D ca A) (hr : meth.sig.returnType = (some .int)) (hlk : meth.locks = false) {p1 p2 p3 p4 p5 p6 p7 : Int} {o : (Int × Mem) ⊕ (Mem)} (hc : ∀ (x8 : Int) (σ : Mem), o = .inl (x8, σ) → G p l e rm_X12_bestTax s m args below meth c 9 D ca ad A 0 0 (MQ below (Qi D ca ad A r0 σ0) args s 0 0 A) σ 155 [some (.ref (ad 120)), some (.int (iI p1)), some (.int (iI p2)), some (.int (iI p3)), some (.int (iI p4)), some (.int (iI p5)), some (.int (iI p6)), some (.int (iI p7)), some (.int (iI x8))] []) (he : ∀ (σ : Mem), o = .inr σ → G p l e rm_X12_bestTax s m args below meth c 9 D ca ad A 0 0 (MQ below (Qi D ca ad A r0 σ0) args s 0 0 A) σ 193 [some (.ref (ad 120)), some (.int (iI p1)), some (.int (iI p2)), some (.int (iI p3)), some (.int (iI p4)), some (.int (iI p5)), some (.int (iI p6)), some (.int (iI p7)), none] []) {x8 : Int} {σ : Mem} (hf : f_X12_bestTax_155 p1 p2 p3 p4 p5 p6 p7 x8 σ = some o) : G p l e rm_X12_bestTax s m args below meth c 9 D ca ad A 0 0 (MQ below (Qi D ca ad A r0 σ0) args s 0 0 A) σ 155 [some (.ref (ad 120)), some (.int (iI p1)), some (.int (iI p2)), some (.int (iI p3)), some (.int (iI p4)), some (.int (iI p5)), some (.int (iI p6)), some (.int (iI p7)), some (.int (iI x8))] [] := by
  unfold f_X12_bestTax_155 at hf
  refine g_iload C dX12_bestTax_155 rfl ?_
  refine g_aload_n (i := 0) C dX12_bestTax_157 rfl rfl ?_
  refine gg_X12_s (i := 1) C hiX12_bestTax_X12 rfl dX12_bestTax_158 ?_
  refine g_iconst C dX12_bestTax_161 ?_
  refine g_iaload (N := 39) (j := 0) C (by decide) dX12_bestTax_162 (by decide) (by decide) ?_
  refine g_icmp_ge (tgt := 193) C dX12_bestTax_163 (by decide) rfl rfl (fun c35 => ?_) (fun c35 => ?_)
  · have hf := if_t c35 hf
    exact g_mask [true, true, true, true, true, true, true, true, false] (he _ (Option.some.inj hf).symm)
  · have hf := if_f c35 hf
    refine g_aload_n (i := 0) C dX12_bestTax_166 rfl rfl ?_
    refine gg_X12_s (i := 1) C hiX12_bestTax_X12 rfl dX12_bestTax_167 ?_
    refine g_bipush C dX12_bestTax_170 (by decide) ?_
    refine g_iconst C dX12_bestTax_172 ?_
    refine g_iload_n (i := 1) C dX12_bestTax_173 rfl rfl ?_
    refine g_imul C dX12_bestTax_174 ?_
    refine g_iadd C dX12_bestTax_175 ?_
    refine g_iload C dX12_bestTax_176 rfl ?_
    refine g_iadd C dX12_bestTax_178 ?_
    refine g_aload_n (i := 0) C dX12_bestTax_179 rfl rfl ?_
    refine gg_X12_dear (i := 2) C hiX12_bestTax_X12 rfl dX12_bestTax_180 ?_
    refine g_iload C dX12_bestTax_183 rfl ?_
    obtain ⟨hb36, hf⟩ := if_inv hf
    refine g_iaload (N := 4) C (by decide) dX12_bestTax_185 rfl hb36 ?_
    obtain ⟨hb37, hf⟩ := if_inv hf
    refine g_iastore (N := 39) C (by decide) dX12_bestTax_186 rfl hb37 ?_
    refine g_iinc C dX12_bestTax_187 rfl (by decide) rfl ?_
    refine g_goto (tgt := 155) C dX12_bestTax_190 (by decide) ?_
    exact g_mask [true, true, true, true, true, true, true, true, true] (hc _ _ (Option.some.inj hf).symm)
set_option maxHeartbeats 4000000 in
set_option maxRecDepth 100000 in
theorem w_X12_bestTax_155 (C : Cx p s m args c cX12_bestTax 9 RX12 wsX12_bestTax D ca A) (hr : meth.sig.returnType = (some .int)) (hlk : meth.locks = false) {p1 p2 p3 p4 p5 p6 p7 : Int} {n : Nat} {x8 : Int} {σ : Mem} {b : (Mem)} (h : itr (fun z : Int × Mem => f_X12_bestTax_155 p1 p2 p3 p4 p5 p6 p7 z.1 z.2) n (x8, σ) = some b) (he : ∀ (σ : Mem), b = σ → G p l e rm_X12_bestTax s m args below meth c 9 D ca ad A 0 0 (MQ below (Qi D ca ad A r0 σ0) args s 0 0 A) σ 193 [some (.ref (ad 120)), some (.int (iI p1)), some (.int (iI p2)), some (.int (iI p3)), some (.int (iI p4)), some (.int (iI p5)), some (.int (iI p6)), some (.int (iI p7)), none] []) : G p l e rm_X12_bestTax s m args below meth c 9 D ca ad A 0 0 (MQ below (Qi D ca ad A r0 σ0) args s 0 0 A) σ 155 [some (.ref (ad 120)), some (.int (iI p1)), some (.int (iI p2)), some (.int (iI p3)), some (.int (iI p4)), some (.int (iI p5)), some (.int (iI p6)), some (.int (iI p7)), some (.int (iI x8))] [] :=
  itr_rule (P := fun z : Int × Mem => G p l e rm_X12_bestTax s m args below meth c 9 D ca ad A 0 0 (MQ below (Qi D ca ad A r0 σ0) args s 0 0 A) z.2 155 [some (.ref (ad 120)), some (.int (iI p1)), some (.int (iI p2)), some (.int (iI p3)), some (.int (iI p4)), some (.int (iI p5)), some (.int (iI p6)), some (.int (iI p7)), some (.int (iI z.1))] []) (E := fun b => ∀ (σ : Mem), b = σ → G p l e rm_X12_bestTax s m args below meth c 9 D ca ad A 0 0 (MQ below (Qi D ca ad A r0 σ0) args s 0 0 A) σ 193 [some (.ref (ad 120)), some (.int (iI p1)), some (.int (iI p2)), some (.int (iI p3)), some (.int (iI p4)), some (.int (iI p5)), some (.int (iI p6)), some (.int (iI p7)), none] []) (fun z o hb hc he => it_X12_bestTax_155 C hr hlk (fun _ _ e => hc _ e) (fun _ e => (he _ e) _ rfl) hb) n _ _ h he
set_option maxHeartbeats 4000000 in
set_option maxRecDepth 100000 in
theorem it_X12_bestTax_91 (C : Cx p s m args c cX12_bestTax 9 RX12 wsX12_bestTax D ca A) (hr : meth.sig.returnType = (some .int)) (hlk : meth.locks = false) {p1 p2 p5 : Int} {o : (Int × Int × Int × Mem) ⊕ (Int × Int × Mem)} (hc : ∀ (x3 x4 x6 : Int) (σ : Mem), o = .inl (x3, x4, x6, σ) → G p l e rm_X12_bestTax s m args below meth c 9 D ca ad A 0 0 (MQ below (Qi D ca ad A r0 σ0) args s 0 0 A) σ 91 [some (.ref (ad 120)), some (.int (iI p1)), some (.int (iI p2)), some (.int (iI x3)), some (.int (iI x4)), some (.int (iI p5)), some (.int (iI x6)), none, none] []) (he : ∀ (y3 y4 : Int) (σ : Mem), o = .inr (y3, y4, σ) → G p l e rm_X12_bestTax s m args below meth c 9 D ca ad A 0 0 (MQ below (Qi D ca ad A r0 σ0) args s 0 0 A) σ 233 [some (.ref (ad 120)), some (.int (iI p1)), some (.int (iI p2)), some (.int (iI y3)), some (.int (iI y4)), some (.int (iI p5)), none, none, none] []) {x3 x4 x6 : Int} {σ : Mem} (hf : f_X12_bestTax_91 p1 p2 p5 x3 x4 x6 σ = some o) : G p l e rm_X12_bestTax s m args below meth c 9 D ca ad A 0 0 (MQ below (Qi D ca ad A r0 σ0) args s 0 0 A) σ 91 [some (.ref (ad 120)), some (.int (iI p1)), some (.int (iI p2)), some (.int (iI x3)), some (.int (iI x4)), some (.int (iI p5)), some (.int (iI x6)), none, none] [] := by
  unfold f_X12_bestTax_91 at hf
  refine g_iload C dX12_bestTax_91 rfl ?_
  refine g_aload_n (i := 0) C dX12_bestTax_93 rfl rfl ?_
  obtain ⟨r22, σ21, h23, hf⟩ := ob_inv hf
  refine g_callVi C (c_X12_fits  h23) (cwV 0 C.2.2.2.2.1 gX12_bestTax_X12_fits rfl rfl rfl (by decide +kernel) ⟨Nat.le_of_ble_eq_true rfl, Nat.le_of_ble_eq_true rfl⟩) ob_X12 rfl rfl rfl rfl (Nat.le_of_ble_eq_true rfl) dX12_bestTax_94 ⟨Nat.zero_le _, Nat.zero_le _⟩ ?_
  refine g_icmp_ge (tgt := 233) C dX12_bestTax_97 (by decide) rfl rfl (fun c24 => ?_) (fun c24 => ?_)
  · have hf := if_t c24 hf
    exact g_mask [true, true, true, true, true, true, false, false, false] (he _ _ _ (Option.some.inj hf).symm)
  · have hf := if_f c24 hf
    refine g_iconst C dX12_bestTax_100 ?_
    refine g_istore C dX12_bestTax_101 (by decide) rfl ?_
    obtain ⟨q29, hl30, hf⟩ := lb_inv hf
    refine g_mask [true, true, true, true, true, true, true, true, false] (w_X12_bestTax_103 C hr hlk hl30 ?_)
    · rintro σ31 rfl
      refine g_aload_n (i := 0) C dX12_bestTax_144 rfl rfl ?_
      refine g_iload C dX12_bestTax_145 rfl ?_
      obtain ⟨r33, σ32, h34, hf⟩ := ob_inv hf
      refine g_callVi C (c_X12_isSure  h34) (cwV 1 C.2.2.2.2.1 gX12_bestTax_X12_isSure rfl rfl rfl (by decide +kernel) ⟨Nat.le_of_ble_eq_true rfl, Nat.le_of_ble_eq_true rfl⟩) ob_X12 rfl rfl rfl rfl (Nat.le_of_ble_eq_true rfl) dX12_bestTax_147 ⟨Nat.zero_le _, Nat.zero_le _⟩ ?_
      refine g_istore C dX12_bestTax_150 (by decide) rfl ?_
      refine g_iconst C dX12_bestTax_152 ?_
      refine g_istore C dX12_bestTax_153 (by decide) rfl ?_
      obtain ⟨q39, hl40, hf⟩ := lb_inv hf
      refine g_mask [true, true, true, true, true, true, true, true, true] (w_X12_bestTax_155 C hr hlk hl40 ?_)
      · rintro σ41 rfl
        refine g_iload C dX12_bestTax_193 rfl ?_
        refine g_if_eq (tgt := 227) C dX12_bestTax_195 (by decide) rfl (fun c42 => ?_) (fun c42 => ?_)
        · have hf := if_t c42 hf
          refine g_iinc C dX12_bestTax_227 rfl (by decide) rfl ?_
          refine g_goto (tgt := 91) C dX12_bestTax_230 (by decide) ?_
          exact g_mask [true, true, true, true, true, true, true, false, false] (hc _ _ _ _ (Option.some.inj hf).symm)
        · have hf := if_f c42 hf
          refine g_iload_n (i := 3) C dX12_bestTax_198 rfl rfl ?_
          refine g_if_lt (tgt := 216) C dX12_bestTax_199 (by decide) rfl (fun c43 => ?_) (fun c43 => ?_)
          · have hf := if_t c43 hf
            refine g_iload C dX12_bestTax_216 rfl ?_
            refine g_istore_n (i := 3) C dX12_bestTax_218 rfl (by decide) rfl ?_
            refine g_aload_n (i := 0) C dX12_bestTax_219 rfl rfl ?_
            refine g_iload C dX12_bestTax_220 rfl ?_
            obtain ⟨r45, σ44, h46, hf⟩ := ob_inv hf
            refine g_callVi C (c_X12_wasteOf  h46) (cwV 1 C.2.2.2.2.1 gX12_bestTax_X12_wasteOf rfl rfl rfl (by decide +kernel) ⟨Nat.le_of_ble_eq_true rfl, Nat.le_of_ble_eq_true rfl⟩) ob_X12 rfl rfl rfl rfl (Nat.le_of_ble_eq_true rfl) dX12_bestTax_222 ⟨Nat.zero_le _, Nat.zero_le _⟩ ?_
            refine g_istore C dX12_bestTax_225 (by decide) rfl ?_
            refine g_iinc C dX12_bestTax_227 rfl (by decide) rfl ?_
            refine g_goto (tgt := 91) C dX12_bestTax_230 (by decide) ?_
            exact g_mask [true, true, true, true, true, true, true, false, false] (hc _ _ _ _ (Option.some.inj hf).symm)
          · have hf := if_f c43 hf
            refine g_aload_n (i := 0) C dX12_bestTax_202 rfl rfl ?_
            refine g_iload C dX12_bestTax_203 rfl ?_
            obtain ⟨r48, σ47, h49, hf⟩ := ob_inv hf
            refine g_callVi C (c_X12_wasteOf  h49) (cwV 1 C.2.2.2.2.1 gX12_bestTax_X12_wasteOf rfl rfl rfl (by decide +kernel) ⟨Nat.le_of_ble_eq_true rfl, Nat.le_of_ble_eq_true rfl⟩) ob_X12 rfl rfl rfl rfl (Nat.le_of_ble_eq_true rfl) dX12_bestTax_205 ⟨Nat.zero_le _, Nat.zero_le _⟩ ?_
            refine g_iload C dX12_bestTax_208 rfl ?_
            refine g_icmp_lt (tgt := 216) C dX12_bestTax_210 (by decide) rfl rfl (fun c50 => ?_) (fun c50 => ?_)
            · have hf := if_t c50 hf
              refine g_iload C dX12_bestTax_216 rfl ?_
              refine g_istore_n (i := 3) C dX12_bestTax_218 rfl (by decide) rfl ?_
              refine g_aload_n (i := 0) C dX12_bestTax_219 rfl rfl ?_
              refine g_iload C dX12_bestTax_220 rfl ?_
              obtain ⟨r52, σ51, h53, hf⟩ := ob_inv hf
              refine g_callVi C (c_X12_wasteOf  h53) (cwV 1 C.2.2.2.2.1 gX12_bestTax_X12_wasteOf rfl rfl rfl (by decide +kernel) ⟨Nat.le_of_ble_eq_true rfl, Nat.le_of_ble_eq_true rfl⟩) ob_X12 rfl rfl rfl rfl (Nat.le_of_ble_eq_true rfl) dX12_bestTax_222 ⟨Nat.zero_le _, Nat.zero_le _⟩ ?_
              refine g_istore C dX12_bestTax_225 (by decide) rfl ?_
              refine g_iinc C dX12_bestTax_227 rfl (by decide) rfl ?_
              refine g_goto (tgt := 91) C dX12_bestTax_230 (by decide) ?_
              exact g_mask [true, true, true, true, true, true, true, false, false] (hc _ _ _ _ (Option.some.inj hf).symm)
            · have hf := if_f c50 hf
              refine g_goto (tgt := 227) C dX12_bestTax_213 (by decide) ?_
              refine g_iinc C dX12_bestTax_227 rfl (by decide) rfl ?_
              refine g_goto (tgt := 91) C dX12_bestTax_230 (by decide) ?_
              exact g_mask [true, true, true, true, true, true, true, false, false] (hc _ _ _ _ (Option.some.inj hf).symm)
set_option maxHeartbeats 4000000 in
set_option maxRecDepth 100000 in
theorem w_X12_bestTax_91 (C : Cx p s m args c cX12_bestTax 9 RX12 wsX12_bestTax D ca A) (hr : meth.sig.returnType = (some .int)) (hlk : meth.locks = false) {p1 p2 p5 : Int} {n : Nat} {x3 x4 x6 : Int} {σ : Mem} {b : (Int × Int × Mem)} (h : itr (fun z : Int × Int × Int × Mem => f_X12_bestTax_91 p1 p2 p5 z.1 z.2.1 z.2.2.1 z.2.2.2) n (x3, x4, x6, σ) = some b) (he : ∀ (y3 y4 : Int) (σ : Mem), b = (y3, y4, σ) → G p l e rm_X12_bestTax s m args below meth c 9 D ca ad A 0 0 (MQ below (Qi D ca ad A r0 σ0) args s 0 0 A) σ 233 [some (.ref (ad 120)), some (.int (iI p1)), some (.int (iI p2)), some (.int (iI y3)), some (.int (iI y4)), some (.int (iI p5)), none, none, none] []) : G p l e rm_X12_bestTax s m args below meth c 9 D ca ad A 0 0 (MQ below (Qi D ca ad A r0 σ0) args s 0 0 A) σ 91 [some (.ref (ad 120)), some (.int (iI p1)), some (.int (iI p2)), some (.int (iI x3)), some (.int (iI x4)), some (.int (iI p5)), some (.int (iI x6)), none, none] [] :=
  itr_rule (P := fun z : Int × Int × Int × Mem => G p l e rm_X12_bestTax s m args below meth c 9 D ca ad A 0 0 (MQ below (Qi D ca ad A r0 σ0) args s 0 0 A) z.2.2.2 91 [some (.ref (ad 120)), some (.int (iI p1)), some (.int (iI p2)), some (.int (iI z.1)), some (.int (iI z.2.1)), some (.int (iI p5)), some (.int (iI z.2.2.1)), none, none] []) (E := fun b => ∀ (y3 y4 : Int) (σ : Mem), b = (y3, y4, σ) → G p l e rm_X12_bestTax s m args below meth c 9 D ca ad A 0 0 (MQ below (Qi D ca ad A r0 σ0) args s 0 0 A) σ 233 [some (.ref (ad 120)), some (.int (iI p1)), some (.int (iI p2)), some (.int (iI y3)), some (.int (iI y4)), some (.int (iI p5)), none, none, none] []) (fun z o hb hc he => it_X12_bestTax_91 C hr hlk (fun _ _ _ _ e => hc _ e) (fun _ _ _ e => (he _ e) _ _ _ rfl) hb) n _ _ h he
set_option maxHeartbeats 4000000 in
set_option maxRecDepth 100000 in
theorem it_X12_bestTax_81 (C : Cx p s m args c cX12_bestTax 9 RX12 wsX12_bestTax D ca A) (hr : meth.sig.returnType = (some .int)) (hlk : meth.locks = false) {p1 p2 : Int} {o : (Int × Int × Int × Mem) ⊕ (Int × Int × Mem)} (hc : ∀ (x3 x4 x5 : Int) (σ : Mem), o = .inl (x3, x4, x5, σ) → G p l e rm_X12_bestTax s m args below meth c 9 D ca ad A 0 0 (MQ below (Qi D ca ad A r0 σ0) args s 0 0 A) σ 81 [some (.ref (ad 120)), some (.int (iI p1)), some (.int (iI p2)), some (.int (iI x3)), some (.int (iI x4)), some (.int (iI x5)), none, none, none] []) (he : ∀ (y3 y4 : Int) (σ : Mem), o = .inr (y3, y4, σ) → G p l e rm_X12_bestTax s m args below meth c 9 D ca ad A 0 0 (MQ below (Qi D ca ad A r0 σ0) args s 0 0 A) σ 239 [none, none, some (.int (iI p2)), some (.int (iI y3)), some (.int (iI y4)), none, none, none, none] []) {x3 x4 x5 : Int} {σ : Mem} (hf : f_X12_bestTax_81 p1 p2 x3 x4 x5 σ = some o) : G p l e rm_X12_bestTax s m args below meth c 9 D ca ad A 0 0 (MQ below (Qi D ca ad A r0 σ0) args s 0 0 A) σ 81 [some (.ref (ad 120)), some (.int (iI p1)), some (.int (iI p2)), some (.int (iI x3)), some (.int (iI x4)), some (.int (iI x5)), none, none, none] [] := by
  unfold f_X12_bestTax_81 at hf
  refine g_iload C dX12_bestTax_81 rfl ?_
  refine g_bipush C dX12_bestTax_83 (by decide) ?_
  refine g_icmp_ge (b' := 100) (tgt := 239) C dX12_bestTax_85 (by decide) rfl (by decide) (fun c20 => ?_) (fun c20 => ?_)
  · have hf := if_t c20 hf
    exact g_mask [false, false, true, true, true, false, false, false, false] (he _ _ _ (Option.some.inj hf).symm)
  · have hf := if_f c20 hf
    refine g_iconst C dX12_bestTax_88 ?_
    refine g_istore C dX12_bestTax_89 (by decide) rfl ?_
    obtain ⟨q54, hl55, hf⟩ := lb_inv hf
    refine g_mask [true, true, true, true, true, true, true, false, false] (w_X12_bestTax_91 C hr hlk hl55 ?_)
    · rintro y56 y57 σ58 rfl
      refine g_iinc C dX12_bestTax_233 rfl (by decide) rfl ?_
      refine g_goto (tgt := 81) C dX12_bestTax_236 (by decide) ?_
      exact g_mask [true, true, true, true, true, true, false, false, false] (hc _ _ _ _ (Option.some.inj hf).symm)
set_option maxHeartbeats 4000000 in
set_option maxRecDepth 100000 in
theorem w_X12_bestTax_81 (C : Cx p s m args c cX12_bestTax 9 RX12 wsX12_bestTax D ca A) (hr : meth.sig.returnType = (some .int)) (hlk : meth.locks = false) {p1 p2 : Int} {n : Nat} {x3 x4 x5 : Int} {σ : Mem} {b : (Int × Int × Mem)} (h : itr (fun z : Int × Int × Int × Mem => f_X12_bestTax_81 p1 p2 z.1 z.2.1 z.2.2.1 z.2.2.2) n (x3, x4, x5, σ) = some b) (he : ∀ (y3 y4 : Int) (σ : Mem), b = (y3, y4, σ) → G p l e rm_X12_bestTax s m args below meth c 9 D ca ad A 0 0 (MQ below (Qi D ca ad A r0 σ0) args s 0 0 A) σ 239 [none, none, some (.int (iI p2)), some (.int (iI y3)), some (.int (iI y4)), none, none, none, none] []) : G p l e rm_X12_bestTax s m args below meth c 9 D ca ad A 0 0 (MQ below (Qi D ca ad A r0 σ0) args s 0 0 A) σ 81 [some (.ref (ad 120)), some (.int (iI p1)), some (.int (iI p2)), some (.int (iI x3)), some (.int (iI x4)), some (.int (iI x5)), none, none, none] [] :=
  itr_rule (P := fun z : Int × Int × Int × Mem => G p l e rm_X12_bestTax s m args below meth c 9 D ca ad A 0 0 (MQ below (Qi D ca ad A r0 σ0) args s 0 0 A) z.2.2.2 81 [some (.ref (ad 120)), some (.int (iI p1)), some (.int (iI p2)), some (.int (iI z.1)), some (.int (iI z.2.1)), some (.int (iI z.2.2.1)), none, none, none] []) (E := fun b => ∀ (y3 y4 : Int) (σ : Mem), b = (y3, y4, σ) → G p l e rm_X12_bestTax s m args below meth c 9 D ca ad A 0 0 (MQ below (Qi D ca ad A r0 σ0) args s 0 0 A) σ 239 [none, none, some (.int (iI p2)), some (.int (iI y3)), some (.int (iI y4)), none, none, none, none] []) (fun z o hb hc he => it_X12_bestTax_81 C hr hlk (fun _ _ _ _ e => hc _ e) (fun _ _ _ e => (he _ e) _ _ _ rfl) hb) n _ _ h he
set_option maxHeartbeats 4000000 in
set_option maxRecDepth 100000 in
theorem c_X12_bestTax {v1 v2 : Int} {σ : Mem} (hf : f_X12_bestTax v1 v2 σ = some (r0, σ0)) : CTi l D ca ad A yX12_bestTax wsX12_bestTax rm_X12_bestTax [.ref (ad 120), .int (iI v1), .int (iI v2)] σ r0 σ0 := by
  refine ct_i (cc := cX12_bestTax) (own := RX12) (maxL := 9) (ret := (some .int)) (lv0 := [some (.ref (ad 120)), some (.int (iI v1)), some (.int (iI v2)), none, none, none, none, none, none]) (by decide) rfl rfl rfl (Nat.le_of_ble_eq_true rfl) ?_
  intro p e s m below meth c C hr hlk hnm
  unfold f_X12_bestTax at hf
  refine g_aload_n (i := 0) C dX12_bestTax_0 rfl rfl ?_
  obtain ⟨r2, σ1, h3, hf⟩ := ob_inv hf
  refine g_callVi C (c_X12_isOpen  h3) (cwV 0 C.2.2.2.2.1 gX12_bestTax_X12_isOpen rfl rfl rfl (by decide +kernel) ⟨Nat.le_of_ble_eq_true rfl, Nat.le_of_ble_eq_true rfl⟩) ob_X12 rfl rfl rfl rfl (Nat.le_of_ble_eq_true rfl) dX12_bestTax_1 ⟨Nat.zero_le _, Nat.zero_le _⟩ ?_
  refine g_if_ne (tgt := 10) C dX12_bestTax_4 (by decide) rfl (fun c4 => ?_) (fun c4 => ?_)
  · have hf := if_f c4 hf
    refine g_aload_n (i := 0) C dX12_bestTax_10 rfl rfl ?_
    refine g_iload_n (i := 1) C dX12_bestTax_11 rfl rfl ?_
    obtain ⟨r6, σ5, h7, hf⟩ := ob_inv hf
    refine g_callVi C (c_X12_isMark  h7) (cwV 1 C.2.2.2.2.1 gX12_bestTax_X12_isMark rfl rfl rfl (by decide +kernel) ⟨Nat.le_of_ble_eq_true rfl, Nat.le_of_ble_eq_true rfl⟩) ob_X12 rfl rfl rfl rfl (Nat.le_of_ble_eq_true rfl) dX12_bestTax_12 ⟨Nat.zero_le _, Nat.zero_le _⟩ ?_
    refine g_if_eq (tgt := 28) C dX12_bestTax_15 (by decide) rfl (fun c8 => ?_) (fun c8 => ?_)
    · have hf := if_t c8 hf
      refine g_iconst C dX12_bestTax_28 ?_
      obtain ⟨e1, e2⟩ := some_inv hf
      exact g_iret C hr hlk e1 e2 dX12_bestTax_29
    · have hf := if_f c8 hf
      refine g_iload_n (i := 2) C dX12_bestTax_18 rfl rfl ?_
      refine g_i2l C dX12_bestTax_19 rfl ?_
      refine g_lconst (z := 0) C dX12_bestTax_20 (by decide) ?_
      refine g_lconst (z := 1) C dX12_bestTax_21 (by decide) ?_
      obtain ⟨r10, σ9, h11, hf⟩ := ob_inv hf
      refine g_callSi C (c_X12_isIn  h11) (va_cwS 3 C.2.2.2.2.1 gX12_bestTax_X12_isIn rfl rfl rfl (by decide +kernel) ⟨Nat.le_of_ble_eq_true rfl, Nat.le_of_ble_eq_true rfl⟩) rfl rfl (Nat.le_of_ble_eq_true rfl) dX12_bestTax_22 ⟨Nat.zero_le _, Nat.zero_le _⟩ ?_
      refine g_if_ne (tgt := 30) C dX12_bestTax_25 (by decide) rfl (fun c12 => ?_) (fun c12 => ?_)
      · have hf := if_f c12 hf
        refine g_bipush C dX12_bestTax_30 (by decide) ?_
        refine g_istore_n (i := 3) C dX12_bestTax_32 rfl (by decide) rfl ?_
        refine g_bipush C dX12_bestTax_33 (by decide) ?_
        refine g_istore C dX12_bestTax_35 (by decide) rfl ?_
        refine g_iconst C dX12_bestTax_37 ?_
        refine g_istore C dX12_bestTax_38 (by decide) rfl ?_
        obtain ⟨q17, hl18, hf⟩ := lb_inv hf
        refine g_mask [true, true, true, true, true, true, false, false, false] (w_X12_bestTax_40 C hr hlk hl18 ?_)
        · rintro σ19 rfl
          refine g_iconst C dX12_bestTax_78 ?_
          refine g_istore C dX12_bestTax_79 (by decide) rfl ?_
          obtain ⟨q59, hl60, hf⟩ := lb_inv hf
          refine g_mask [true, true, true, true, true, true, false, false, false] (w_X12_bestTax_81 C hr hlk hl60 ?_)
          · rintro y61 y62 σ63 rfl
            refine g_iload_n (i := 2) C dX12_bestTax_239 rfl rfl ?_
            refine g_if_ne (tgt := 247) C dX12_bestTax_240 (by decide) rfl (fun c64 => ?_) (fun c64 => ?_)
            · have hf := if_f c64 hf
              refine g_iload C dX12_bestTax_247 rfl ?_
              obtain ⟨e1, e2⟩ := some_inv hf
              exact g_iret C hr hlk e1 e2 dX12_bestTax_249
            · have hf := if_t c64 hf
              refine g_iload_n (i := 3) C dX12_bestTax_243 rfl rfl ?_
              refine g_goto (tgt := 249) C dX12_bestTax_244 (by decide) ?_
              obtain ⟨e1, e2⟩ := some_inv hf
              exact g_iret C hr hlk e1 e2 dX12_bestTax_249
      · have hf := if_t c12 hf
        refine g_iconst C dX12_bestTax_28 ?_
        obtain ⟨e1, e2⟩ := some_inv hf
        exact g_iret C hr hlk e1 e2 dX12_bestTax_29
  · have hf := if_t c4 hf
    refine g_bipush C dX12_bestTax_7 (by decide) ?_
    obtain ⟨e1, e2⟩ := some_inv hf
    exact g_iret C hr hlk e1 e2 dX12_bestTax_9
/-! X12_moved -/
abbrev rm_X12_moved : Room := { frames := 5, cells := 0, slots := 0, locals := 119 }
theorem hiX12_moved_X12 : ∀ w ∈ u_ws RX12 TX12 24, w ∈ wsX12_moved := fun _ h => (List.mem_cons_of_mem _ (List.mem_append_right _ h))
set_option maxHeartbeats 4000000 in
set_option maxRecDepth 100000 in
theorem it_X12_moved_75 (C : Cx p s m args c cX12_moved 9 RX12 wsX12_moved D ca A) (hr : meth.sig.returnType = (some .int)) (hlk : meth.locks = false) {p1 p2 p3 p4 p5 p6 : Int} {o : (Int × Int × Mem) ⊕ (Int × Mem)} (hc : ∀ (x7 x8 : Int) (σ : Mem), o = .inl (x7, x8, σ) → G p l e rm_X12_moved s m args below meth c 9 D ca ad A 0 0 (MQ below (Qi D ca ad A r0 σ0) args s 0 0 A) σ 75 [some (.ref (ad 120)), some (.int (iI p1)), some (.int (iI p2)), some (.int (iI p3)), some (.int (iI p4)), some (.int (iI p5)), some (.int (iI p6)), some (.int (iI x7)), some (.int (iI x8))] []) (he : ∀ (y7 : Int) (σ : Mem), o = .inr (y7, σ) → G p l e rm_X12_moved s m args below meth c 9 D ca ad A 0 0 (MQ below (Qi D ca ad A r0 σ0) args s 0 0 A) σ 138 [some (.ref (ad 120)), none, some (.int (iI p2)), some (.int (iI p3)), none, some (.int (iI p5)), some (.int (iI p6)), some (.int (iI y7)), none] []) {x7 x8 : Int} {σ : Mem} (hf : f_X12_moved_75 p1 p2 p3 p4 p5 p6 x7 x8 σ = some o) : G p l e rm_X12_moved s m args below meth c 9 D ca ad A 0 0 (MQ below (Qi D ca ad A r0 σ0) args s 0 0 A) σ 75 [some (.ref (ad 120)), some (.int (iI p1)), some (.int (iI p2)), some (.int (iI p3)), some (.int (iI p4)), some (.int (iI p5)), some (.int (iI p6)), some (.int (iI x7)), some (.int (iI x8))] [] := by
  unfold f_X12_moved_75 at hf
  refine g_iload C dX12_moved_75 rfl ?_
  refine g_iload C dX12_moved_77 rfl ?_
  refine g_icmp_ge (tgt := 138) C dX12_moved_79 (by decide) rfl rfl (fun c25 => ?_) (fun c25 => ?_)
  · have hf := if_t c25 hf
    exact g_mask [true, false, true, true, false, true, true, true, false] (he _ _ (Option.some.inj hf).symm)
  · have hf := if_f c25 hf
    refine g_iload C dX12_moved_82 rfl ?_
    refine g_if_ge (tgt := 138) C dX12_moved_84 (by decide) rfl (fun c26 => ?_) (fun c26 => ?_)
    · have hf := if_t c26 hf
      exact g_mask [true, false, true, true, false, true, true, true, false] (he _ _ (Option.some.inj hf).symm)
    · have hf := if_f c26 hf
      refine g_aload_n (i := 0) C dX12_moved_87 rfl rfl ?_
      refine gg_X12_s (i := 1) C hiX12_moved_X12 rfl dX12_moved_88 ?_
      refine g_iconst C dX12_moved_91 ?_
      refine g_iload_n (i := 2) C dX12_moved_92 rfl rfl ?_
      refine g_iadd C dX12_moved_93 ?_
      refine g_iload C dX12_moved_94 rfl ?_
      refine g_iload C dX12_moved_96 rfl ?_
      refine g_isub C dX12_moved_98 ?_
      obtain ⟨hb27, hf⟩ := if_inv hf
      refine g_iastore (N := 39) C (by decide) dX12_moved_99 rfl hb27 ?_
      refine g_aload_n (i := 0) C dX12_moved_100 rfl rfl ?_
      refine gg_X12_s (i := 1) C hiX12_moved_X12 rfl dX12_moved_101 ?_
      refine g_iconst C dX12_moved_104 ?_
      refine g_iload_n (i := 3) C dX12_moved_105 rfl rfl ?_
      refine g_iadd C dX12_moved_106 ?_
      refine g_iload C dX12_moved_107 rfl ?_
      refine g_iload C dX12_moved_109 rfl ?_
      refine g_iadd C dX12_moved_111 ?_
      obtain ⟨hb29, hf⟩ := if_inv hf
      refine g_iastore (N := 39) C (by decide) dX12_moved_112 rfl hb29 ?_
      refine g_aload_n (i := 0) C dX12_moved_113 rfl rfl ?_
      refine g_iload_n (i := 1) C dX12_moved_114 rfl rfl ?_
      obtain ⟨r32, σ31, h33, hf⟩ := ob_inv hf
      refine g_callVi C (c_X12_isSure  h33) (cwV 1 C.2.2.2.2.1 gX12_moved_X12_isSure rfl rfl rfl (by decide +kernel) ⟨Nat.le_of_ble_eq_true rfl, Nat.le_of_ble_eq_true rfl⟩) ob_X12 rfl rfl rfl rfl (Nat.le_of_ble_eq_true rfl) dX12_moved_115 ⟨Nat.zero_le _, Nat.zero_le _⟩ ?_
      refine g_iload C dX12_moved_118 rfl ?_
      refine g_icmp_ne (tgt := 128) C dX12_moved_120 (by decide) rfl rfl (fun c34 => ?_) (fun c34 => ?_)
      · have hf := if_f c34 hf
        refine g_iload C dX12_moved_128 rfl ?_
        refine g_istore C dX12_moved_130 (by decide) rfl ?_
        refine g_iinc C dX12_moved_132 rfl (by decide) rfl ?_
        refine g_goto (tgt := 75) C dX12_moved_135 (by decide) ?_
        exact g_mask [true, true, true, true, true, true, true, true, true] (hc _ _ _ (Option.some.inj hf).symm)
      · have hf := if_t c34 hf
        refine g_bipush C dX12_moved_123 (by decide) ?_
        refine g_goto (tgt := 130) C dX12_moved_125 (by decide) ?_
        refine g_istore C dX12_moved_130 (by decide) rfl ?_
        refine g_iinc C dX12_moved_132 rfl (by decide) rfl ?_
        refine g_goto (tgt := 75) C dX12_moved_135 (by decide) ?_
        exact g_mask [true, true, true, true, true, true, true, true, true] (hc _ _ _ (Option.some.inj hf).symm)
set_option maxHeartbeats 4000000 in
set_option maxRecDepth 100000 in
theorem w_X12_moved_75 (C : Cx p s m args c cX12_moved 9 RX12 wsX12_moved D ca A) (hr : meth.sig.returnType = (some .int)) (hlk : meth.locks = false) {p1 p2 p3 p4 p5 p6 : Int} {n : Nat} {x7 x8 : Int} {σ : Mem} {b : (Int × Mem)} (h : itr (fun z : Int × Int × Mem => f_X12_moved_75 p1 p2 p3 p4 p5 p6 z.1 z.2.1 z.2.2) n (x7, x8, σ) = some b) (he : ∀ (y7 : Int) (σ : Mem), b = (y7, σ) → G p l e rm_X12_moved s m args below meth c 9 D ca ad A 0 0 (MQ below (Qi D ca ad A r0 σ0) args s 0 0 A) σ 138 [some (.ref (ad 120)), none, some (.int (iI p2)), some (.int (iI p3)), none, some (.int (iI p5)), some (.int (iI p6)), some (.int (iI y7)), none] []) : G p l e rm_X12_moved s m args below meth c 9 D ca ad A 0 0 (MQ below (Qi D ca ad A r0 σ0) args s 0 0 A) σ 75 [some (.ref (ad 120)), some (.int (iI p1)), some (.int (iI p2)), some (.int (iI p3)), some (.int (iI p4)), some (.int (iI p5)), some (.int (iI p6)), some (.int (iI x7)), some (.int (iI x8))] [] :=
  itr_rule (P := fun z : Int × Int × Mem => G p l e rm_X12_moved s m args below meth c 9 D ca ad A 0 0 (MQ below (Qi D ca ad A r0 σ0) args s 0 0 A) z.2.2 75 [some (.ref (ad 120)), some (.int (iI p1)), some (.int (iI p2)), some (.int (iI p3)), some (.int (iI p4)), some (.int (iI p5)), some (.int (iI p6)), some (.int (iI z.1)), some (.int (iI z.2.1))] []) (E := fun b => ∀ (y7 : Int) (σ : Mem), b = (y7, σ) → G p l e rm_X12_moved s m args below meth c 9 D ca ad A 0 0 (MQ below (Qi D ca ad A r0 σ0) args s 0 0 A) σ 138 [some (.ref (ad 120)), none, some (.int (iI p2)), some (.int (iI p3)), none, some (.int (iI p5)), some (.int (iI p6)), some (.int (iI y7)), none] []) (fun z o hb hc he => it_X12_moved_75 C hr hlk (fun _ _ _ e => hc _ e) (fun _ _ e => (he _ e) _ _ rfl) hb) n _ _ h he
set_option maxHeartbeats 4000000 in
set_option maxRecDepth 100000 in
theorem c_X12_moved {v1 v2 v3 : Int} {σ : Mem} (hf : f_X12_moved v1 v2 v3 σ = some (r0, σ0)) : CTi l D ca ad A yX12_moved wsX12_moved rm_X12_moved [.ref (ad 120), .int (iI v1), .int (iI v2), .int (iI v3)] σ r0 σ0 := by
  refine ct_i (cc := cX12_moved) (own := RX12) (maxL := 9) (ret := (some .int)) (lv0 := [some (.ref (ad 120)), some (.int (iI v1)), some (.int (iI v2)), some (.int (iI v3)), none, none, none, none, none]) (by decide) rfl rfl rfl (Nat.le_of_ble_eq_true rfl) ?_
  intro p e s m below meth c C hr hlk hnm
  unfold f_X12_moved at hf
  refine g_aload_n (i := 0) C dX12_moved_0 rfl rfl ?_
  obtain ⟨r2, σ1, h3, hf⟩ := ob_inv hf
  refine g_callVi C (c_X12_isOpen  h3) (cwV 0 C.2.2.2.2.1 gX12_moved_X12_isOpen rfl rfl rfl (by decide +kernel) ⟨Nat.le_of_ble_eq_true rfl, Nat.le_of_ble_eq_true rfl⟩) ob_X12 rfl rfl rfl rfl (Nat.le_of_ble_eq_true rfl) dX12_moved_1 ⟨Nat.zero_le _, Nat.zero_le _⟩ ?_
  refine g_if_ne (tgt := 10) C dX12_moved_4 (by decide) rfl (fun c4 => ?_) (fun c4 => ?_)
  · have hf := if_f c4 hf
    refine g_aload_n (i := 0) C dX12_moved_10 rfl rfl ?_
    refine g_iload_n (i := 1) C dX12_moved_11 rfl rfl ?_
    obtain ⟨r6, σ5, h7, hf⟩ := ob_inv hf
    refine g_callVi C (c_X12_isFit  h7) (cwV 1 C.2.2.2.2.1 gX12_moved_X12_isFit rfl rfl rfl (by decide +kernel) ⟨Nat.le_of_ble_eq_true rfl, Nat.le_of_ble_eq_true rfl⟩) ob_X12 rfl rfl rfl rfl (Nat.le_of_ble_eq_true rfl) dX12_moved_12 ⟨Nat.zero_le _, Nat.zero_le _⟩ ?_
    refine g_if_eq (tgt := 39) C dX12_moved_15 (by decide) rfl (fun c8 => ?_) (fun c8 => ?_)
    · have hf := if_t c8 hf
      refine g_iconst C dX12_moved_39 ?_
      obtain ⟨e1, e2⟩ := some_inv hf
      exact g_iret C hr hlk e1 e2 dX12_moved_40
    · have hf := if_f c8 hf
      refine g_aload_n (i := 0) C dX12_moved_18 rfl rfl ?_
      refine g_iload_n (i := 2) C dX12_moved_19 rfl rfl ?_
      obtain ⟨r10, σ9, h11, hf⟩ := ob_inv hf
      refine g_callVi C (c_X12_isSort  h11) (cwV 1 C.2.2.2.2.1 gX12_moved_X12_isSort rfl rfl rfl (by decide +kernel) ⟨Nat.le_of_ble_eq_true rfl, Nat.le_of_ble_eq_true rfl⟩) ob_X12 rfl rfl rfl rfl (Nat.le_of_ble_eq_true rfl) dX12_moved_20 ⟨Nat.zero_le _, Nat.zero_le _⟩ ?_
      refine g_if_eq (tgt := 39) C dX12_moved_23 (by decide) rfl (fun c12 => ?_) (fun c12 => ?_)
      · have hf := if_t c12 hf
        refine g_iconst C dX12_moved_39 ?_
        obtain ⟨e1, e2⟩ := some_inv hf
        exact g_iret C hr hlk e1 e2 dX12_moved_40
      · have hf := if_f c12 hf
        refine g_aload_n (i := 0) C dX12_moved_26 rfl rfl ?_
        refine g_iload_n (i := 3) C dX12_moved_27 rfl rfl ?_
        obtain ⟨r14, σ13, h15, hf⟩ := ob_inv hf
        refine g_callVi C (c_X12_isSort  h15) (cwV 1 C.2.2.2.2.1 gX12_moved_X12_isSort rfl rfl rfl (by decide +kernel) ⟨Nat.le_of_ble_eq_true rfl, Nat.le_of_ble_eq_true rfl⟩) ob_X12 rfl rfl rfl rfl (Nat.le_of_ble_eq_true rfl) dX12_moved_28 ⟨Nat.zero_le _, Nat.zero_le _⟩ ?_
        refine g_if_eq (tgt := 39) C dX12_moved_31 (by decide) rfl (fun c16 => ?_) (fun c16 => ?_)
        · have hf := if_t c16 hf
          refine g_iconst C dX12_moved_39 ?_
          obtain ⟨e1, e2⟩ := some_inv hf
          exact g_iret C hr hlk e1 e2 dX12_moved_40
        · have hf := if_f c16 hf
          refine g_iload_n (i := 2) C dX12_moved_34 rfl rfl ?_
          refine g_iload_n (i := 3) C dX12_moved_35 rfl rfl ?_
          refine g_icmp_ne (tgt := 41) C dX12_moved_36 (by decide) rfl rfl (fun c17 => ?_) (fun c17 => ?_)
          · have hf := if_f c17 hf
            refine g_aload_n (i := 0) C dX12_moved_41 rfl rfl ?_
            refine g_iload_n (i := 1) C dX12_moved_42 rfl rfl ?_
            obtain ⟨r19, σ18, h20, hf⟩ := ob_inv hf
            refine g_callVi C (c_X12_isSure  h20) (cwV 1 C.2.2.2.2.1 gX12_moved_X12_isSure rfl rfl rfl (by decide +kernel) ⟨Nat.le_of_ble_eq_true rfl, Nat.le_of_ble_eq_true rfl⟩) ob_X12 rfl rfl rfl rfl (Nat.le_of_ble_eq_true rfl) dX12_moved_43 ⟨Nat.zero_le _, Nat.zero_le _⟩ ?_
            refine g_istore C dX12_moved_46 (by decide) rfl ?_
            refine g_aload_n (i := 0) C dX12_moved_48 rfl rfl ?_
            refine gg_X12_s (i := 1) C hiX12_moved_X12 rfl dX12_moved_49 ?_
            refine g_iconst C dX12_moved_52 ?_
            refine g_iload_n (i := 2) C dX12_moved_53 rfl rfl ?_
            refine g_iadd C dX12_moved_54 ?_
            obtain ⟨hb21, hf⟩ := if_inv hf
            refine g_iaload (N := 39) C (by decide) dX12_moved_55 rfl hb21 ?_
            refine g_istore C dX12_moved_56 (by decide) rfl ?_
            refine g_aload_n (i := 0) C dX12_moved_58 rfl rfl ?_
            refine gg_X12_s (i := 1) C hiX12_moved_X12 rfl dX12_moved_59 ?_
            refine g_iconst C dX12_moved_62 ?_
            refine g_iload_n (i := 3) C dX12_moved_63 rfl rfl ?_
            refine g_iadd C dX12_moved_64 ?_
            obtain ⟨hb23, hf⟩ := if_inv hf
            refine g_iaload (N := 39) C (by decide) dX12_moved_65 rfl hb23 ?_
            refine g_istore C dX12_moved_66 (by decide) rfl ?_
            refine g_bipush C dX12_moved_68 (by decide) ?_
            refine g_istore C dX12_moved_70 (by decide) rfl ?_
            refine g_iconst C dX12_moved_72 ?_
            refine g_istore C dX12_moved_73 (by decide) rfl ?_
            obtain ⟨q35, hl36, hf⟩ := lb_inv hf
            refine g_mask [true, true, true, true, true, true, true, true, true] (w_X12_moved_75 C hr hlk hl36 ?_)
            · rintro y37 σ38 rfl
              refine g_aload_n (i := 0) C dX12_moved_138 rfl rfl ?_
              refine gg_X12_s (i := 1) C hiX12_moved_X12 rfl dX12_moved_139 ?_
              refine g_iconst C dX12_moved_142 ?_
              refine g_iload_n (i := 2) C dX12_moved_143 rfl rfl ?_
              refine g_iadd C dX12_moved_144 ?_
              refine g_iload C dX12_moved_145 rfl ?_
              obtain ⟨hb39, hf⟩ := if_inv hf
              refine g_iastore (N := 39) C (by decide) dX12_moved_147 rfl hb39 ?_
              refine g_aload_n (i := 0) C dX12_moved_148 rfl rfl ?_
              refine gg_X12_s (i := 1) C hiX12_moved_X12 rfl dX12_moved_149 ?_
              refine g_iconst C dX12_moved_152 ?_
              refine g_iload_n (i := 3) C dX12_moved_153 rfl rfl ?_
              refine g_iadd C dX12_moved_154 ?_
              refine g_iload C dX12_moved_155 rfl ?_
              obtain ⟨hb41, hf⟩ := if_inv hf
              refine g_iastore (N := 39) C (by decide) dX12_moved_157 rfl hb41 ?_
              refine g_iload C dX12_moved_158 rfl ?_
              obtain ⟨e1, e2⟩ := some_inv hf
              exact g_iret C hr hlk e1 e2 dX12_moved_160
          · have hf := if_t c17 hf
            refine g_iconst C dX12_moved_39 ?_
            obtain ⟨e1, e2⟩ := some_inv hf
            exact g_iret C hr hlk e1 e2 dX12_moved_40
  · have hf := if_t c4 hf
    refine g_bipush C dX12_moved_7 (by decide) ?_
    obtain ⟨e1, e2⟩ := some_inv hf
    exact g_iret C hr hlk e1 e2 dX12_moved_9
/-! X12_image -/
abbrev rm_X12_image : Room := { frames := 1, cells := 0, slots := 0, locals := 20 }
theorem hiX12_image_X12 : ∀ w ∈ u_ws RX12 TX12 24, w ∈ wsX12_image := fun _ h => (List.mem_cons_of_mem _ (List.mem_append_right _ h))
set_option maxHeartbeats 4000000 in
set_option maxRecDepth 100000 in
theorem it_X12_image_12 (C : Cx p s m args c cX12_image 2 RX12 wsX12_image D ca A) (hr : meth.sig.returnType = (some .int)) (hlk : meth.locks = false) {o : (Int × Mem) ⊕ (Mem)} (hc : ∀ (x1 : Int) (σ : Mem), o = .inl (x1, σ) → G p l e rm_X12_image s m args below meth c 2 D ca ad A 0 0 (MQ below (Qi D ca ad A r0 σ0) args s 0 0 A) σ 12 [some (.ref (ad 120)), some (.int (iI x1))] []) (he : ∀ (σ : Mem), o = .inr σ → G p l e rm_X12_image s m args below meth c 2 D ca ad A 0 0 (MQ below (Qi D ca ad A r0 σ0) args s 0 0 A) σ 36 [some (.ref (ad 120)), none] []) {x1 : Int} {σ : Mem} (hf : f_X12_image_12  x1 σ = some o) : G p l e rm_X12_image s m args below meth c 2 D ca ad A 0 0 (MQ below (Qi D ca ad A r0 σ0) args s 0 0 A) σ 12 [some (.ref (ad 120)), some (.int (iI x1))] [] := by
  unfold f_X12_image_12 at hf
  refine g_iload_n (i := 1) C dX12_image_12 rfl rfl ?_
  refine g_bipush C dX12_image_13 (by decide) ?_
  refine g_icmp_ge (b' := 39) (tgt := 36) C dX12_image_15 (by decide) rfl (by decide) (fun c5 => ?_) (fun c5 => ?_)
  · have hf := if_t c5 hf
    exact g_mask [true, false] (he _ (Option.some.inj hf).symm)
  · have hf := if_f c5 hf
    refine g_aload_n (i := 0) C dX12_image_18 rfl rfl ?_
    refine gg_X12_image (i := 1) C hiX12_image_X12 rfl dX12_image_19 ?_
    refine g_iload_n (i := 1) C dX12_image_22 rfl rfl ?_
    refine g_aload_n (i := 0) C dX12_image_23 rfl rfl ?_
    refine gg_X12_s (i := 2) C hiX12_image_X12 rfl dX12_image_24 ?_
    refine g_iload_n (i := 1) C dX12_image_27 rfl rfl ?_
    obtain ⟨hb6, hf⟩ := if_inv hf
    refine g_iaload (N := 39) C (by decide) dX12_image_28 rfl hb6 ?_
    refine g_iastore (N := 39) C (by decide) dX12_image_29 rfl hb6 ?_
    refine g_iinc C dX12_image_30 rfl (by decide) rfl ?_
    refine g_goto (tgt := 12) C dX12_image_33 (by decide) ?_
    exact g_mask [true, true] (hc _ _ (Option.some.inj hf).symm)
set_option maxHeartbeats 4000000 in
set_option maxRecDepth 100000 in
theorem w_X12_image_12 (C : Cx p s m args c cX12_image 2 RX12 wsX12_image D ca A) (hr : meth.sig.returnType = (some .int)) (hlk : meth.locks = false) {n : Nat} {x1 : Int} {σ : Mem} {b : (Mem)} (h : itr (fun z : Int × Mem => f_X12_image_12  z.1 z.2) n (x1, σ) = some b) (he : ∀ (σ : Mem), b = σ → G p l e rm_X12_image s m args below meth c 2 D ca ad A 0 0 (MQ below (Qi D ca ad A r0 σ0) args s 0 0 A) σ 36 [some (.ref (ad 120)), none] []) : G p l e rm_X12_image s m args below meth c 2 D ca ad A 0 0 (MQ below (Qi D ca ad A r0 σ0) args s 0 0 A) σ 12 [some (.ref (ad 120)), some (.int (iI x1))] [] :=
  itr_rule (P := fun z : Int × Mem => G p l e rm_X12_image s m args below meth c 2 D ca ad A 0 0 (MQ below (Qi D ca ad A r0 σ0) args s 0 0 A) z.2 12 [some (.ref (ad 120)), some (.int (iI z.1))] []) (E := fun b => ∀ (σ : Mem), b = σ → G p l e rm_X12_image s m args below meth c 2 D ca ad A 0 0 (MQ below (Qi D ca ad A r0 σ0) args s 0 0 A) σ 36 [some (.ref (ad 120)), none] []) (fun z o hb hc he => it_X12_image_12 C hr hlk (fun _ _ e => hc _ e) (fun _ e => (he _ e) _ rfl) hb) n _ _ h he
set_option maxHeartbeats 4000000 in
set_option maxRecDepth 100000 in
theorem c_X12_image {σ : Mem} (hf : f_X12_image  σ = some (r0, σ0)) : CTi l D ca ad A yX12_image wsX12_image rm_X12_image [.ref (ad 120)] σ r0 σ0 := by
  refine ct_i (cc := cX12_image) (own := RX12) (maxL := 2) (ret := (some .int)) (lv0 := [some (.ref (ad 120)), none]) (by decide) rfl rfl rfl (Nat.le_of_ble_eq_true rfl) ?_
  intro p e s m below meth c C hr hlk hnm
  unfold f_X12_image at hf
  refine g_aload_n (i := 0) C dX12_image_0 rfl rfl ?_
  obtain ⟨r2, σ1, h3, hf⟩ := ob_inv hf
  refine g_callVi C (c_X12_isOpen  h3) (cwV 0 C.2.2.2.2.1 gX12_image_X12_isOpen rfl rfl rfl (by decide +kernel) ⟨Nat.le_of_ble_eq_true rfl, Nat.le_of_ble_eq_true rfl⟩) ob_X12 rfl rfl rfl rfl (Nat.le_of_ble_eq_true rfl) dX12_image_1 ⟨Nat.zero_le _, Nat.zero_le _⟩ ?_
  refine g_if_ne (tgt := 10) C dX12_image_4 (by decide) rfl (fun c4 => ?_) (fun c4 => ?_)
  · have hf := if_f c4 hf
    refine g_iconst C dX12_image_10 ?_
    refine g_istore_n (i := 1) C dX12_image_11 rfl (by decide) rfl ?_
    obtain ⟨q8, hl9, hf⟩ := lb_inv hf
    refine g_mask [true, true] (w_X12_image_12 C hr hlk hl9 ?_)
    · rintro σ10 rfl
      refine g_aload_n (i := 0) C dX12_image_36 rfl rfl ?_
      refine g_iconst C dX12_image_37 ?_
      refine gp_X12_hasImage (i := 3) C (by decide) hiX12_image_X12 rfl dX12_image_38 ?_
      refine g_aload_n (i := 0) C dX12_image_41 rfl rfl ?_
      refine gg_X12_s (i := 2) C hiX12_image_X12 rfl dX12_image_42 ?_
      refine g_iconst C dX12_image_45 ?_
      refine g_iaload (N := 39) (j := 0) C (by decide) dX12_image_46 (by decide) (by decide) ?_
      obtain ⟨e1, e2⟩ := some_inv hf
      exact g_iret C hr hlk e1 e2 dX12_image_47
  · have hf := if_t c4 hf
    refine g_bipush C dX12_image_7 (by decide) ?_
    obtain ⟨e1, e2⟩ := some_inv hf
    exact g_iret C hr hlk e1 e2 dX12_image_9
/-! X12_restore -/
abbrev rm_X12_restore : Room := { frames := 0, cells := 0, slots := 0, locals := 0 }
theorem hiX12_restore_X12 : ∀ w ∈ u_ws RX12 TX12 24, w ∈ wsX12_restore := fun _ h => (List.mem_cons_of_mem _ (List.mem_append_right _ h))
set_option maxHeartbeats 4000000 in
set_option maxRecDepth 100000 in
theorem it_X12_restore_12 (C : Cx p s m args c cX12_restore 2 RX12 wsX12_restore D ca A) (hr : meth.sig.returnType = (some .int)) (hlk : meth.locks = false) {o : (Int × Mem) ⊕ (Mem)} (hc : ∀ (x1 : Int) (σ : Mem), o = .inl (x1, σ) → G p l e rm_X12_restore s m args below meth c 2 D ca ad A 0 0 (MQ below (Qi D ca ad A r0 σ0) args s 0 0 A) σ 12 [some (.ref (ad 120)), some (.int (iI x1))] []) (he : ∀ (σ : Mem), o = .inr σ → G p l e rm_X12_restore s m args below meth c 2 D ca ad A 0 0 (MQ below (Qi D ca ad A r0 σ0) args s 0 0 A) σ 36 [some (.ref (ad 120)), none] []) {x1 : Int} {σ : Mem} (hf : f_X12_restore_12  x1 σ = some o) : G p l e rm_X12_restore s m args below meth c 2 D ca ad A 0 0 (MQ below (Qi D ca ad A r0 σ0) args s 0 0 A) σ 12 [some (.ref (ad 120)), some (.int (iI x1))] [] := by
  unfold f_X12_restore_12 at hf
  refine g_iload_n (i := 1) C dX12_restore_12 rfl rfl ?_
  refine g_bipush C dX12_restore_13 (by decide) ?_
  refine g_icmp_ge (b' := 39) (tgt := 36) C dX12_restore_15 (by decide) rfl (by decide) (fun c2 => ?_) (fun c2 => ?_)
  · have hf := if_t c2 hf
    exact g_mask [true, false] (he _ (Option.some.inj hf).symm)
  · have hf := if_f c2 hf
    refine g_aload_n (i := 0) C dX12_restore_18 rfl rfl ?_
    refine gg_X12_s (i := 2) C hiX12_restore_X12 rfl dX12_restore_19 ?_
    refine g_iload_n (i := 1) C dX12_restore_22 rfl rfl ?_
    refine g_aload_n (i := 0) C dX12_restore_23 rfl rfl ?_
    refine gg_X12_image (i := 3) C hiX12_restore_X12 rfl dX12_restore_24 ?_
    refine g_iload_n (i := 1) C dX12_restore_27 rfl rfl ?_
    obtain ⟨hb3, hf⟩ := if_inv hf
    refine g_iaload (N := 39) C (by decide) dX12_restore_28 rfl hb3 ?_
    refine g_iastore (N := 39) C (by decide) dX12_restore_29 rfl hb3 ?_
    refine g_iinc C dX12_restore_30 rfl (by decide) rfl ?_
    refine g_goto (tgt := 12) C dX12_restore_33 (by decide) ?_
    exact g_mask [true, true] (hc _ _ (Option.some.inj hf).symm)
set_option maxHeartbeats 4000000 in
set_option maxRecDepth 100000 in
theorem w_X12_restore_12 (C : Cx p s m args c cX12_restore 2 RX12 wsX12_restore D ca A) (hr : meth.sig.returnType = (some .int)) (hlk : meth.locks = false) {n : Nat} {x1 : Int} {σ : Mem} {b : (Mem)} (h : itr (fun z : Int × Mem => f_X12_restore_12  z.1 z.2) n (x1, σ) = some b) (he : ∀ (σ : Mem), b = σ → G p l e rm_X12_restore s m args below meth c 2 D ca ad A 0 0 (MQ below (Qi D ca ad A r0 σ0) args s 0 0 A) σ 36 [some (.ref (ad 120)), none] []) : G p l e rm_X12_restore s m args below meth c 2 D ca ad A 0 0 (MQ below (Qi D ca ad A r0 σ0) args s 0 0 A) σ 12 [some (.ref (ad 120)), some (.int (iI x1))] [] :=
  itr_rule (P := fun z : Int × Mem => G p l e rm_X12_restore s m args below meth c 2 D ca ad A 0 0 (MQ below (Qi D ca ad A r0 σ0) args s 0 0 A) z.2 12 [some (.ref (ad 120)), some (.int (iI z.1))] []) (E := fun b => ∀ (σ : Mem), b = σ → G p l e rm_X12_restore s m args below meth c 2 D ca ad A 0 0 (MQ below (Qi D ca ad A r0 σ0) args s 0 0 A) σ 36 [some (.ref (ad 120)), none] []) (fun z o hb hc he => it_X12_restore_12 C hr hlk (fun _ _ e => hc _ e) (fun _ e => (he _ e) _ rfl) hb) n _ _ h he
set_option maxHeartbeats 4000000 in
set_option maxRecDepth 100000 in
theorem c_X12_restore {σ : Mem} (hf : f_X12_restore  σ = some (r0, σ0)) : CTi l D ca ad A yX12_restore wsX12_restore rm_X12_restore [.ref (ad 120)] σ r0 σ0 := by
  refine ct_i (cc := cX12_restore) (own := RX12) (maxL := 2) (ret := (some .int)) (lv0 := [some (.ref (ad 120)), none]) (by decide) rfl rfl rfl (Nat.le_of_ble_eq_true rfl) ?_
  intro p e s m below meth c C hr hlk hnm
  unfold f_X12_restore at hf
  refine g_aload_n (i := 0) C dX12_restore_0 rfl rfl ?_
  refine gg_X12_hasImage (i := 1) C hiX12_restore_X12 rfl dX12_restore_1 ?_
  refine g_if_ne (tgt := 10) C dX12_restore_4 (by decide) rfl (fun c1 => ?_) (fun c1 => ?_)
  · have hf := if_f c1 hf
    refine g_iconst C dX12_restore_10 ?_
    refine g_istore_n (i := 1) C dX12_restore_11 rfl (by decide) rfl ?_
    obtain ⟨q5, hl6, hf⟩ := lb_inv hf
    refine g_mask [true, true] (w_X12_restore_12 C hr hlk hl6 ?_)
    · rintro σ7 rfl
      refine g_aload_n (i := 0) C dX12_restore_36 rfl rfl ?_
      refine gg_X12_s (i := 2) C hiX12_restore_X12 rfl dX12_restore_37 ?_
      refine g_iconst C dX12_restore_40 ?_
      refine g_iaload (N := 39) (j := 0) C (by decide) dX12_restore_41 (by decide) (by decide) ?_
      obtain ⟨e1, e2⟩ := some_inv hf
      exact g_iret C hr hlk e1 e2 dX12_restore_42
  · have hf := if_t c1 hf
    refine g_bipush C dX12_restore_7 (by decide) ?_
    obtain ⟨e1, e2⟩ := some_inv hf
    exact g_iret C hr hlk e1 e2 dX12_restore_9
/-! X12_count -/
abbrev rm_X12_count : Room := { frames := 0, cells := 0, slots := 0, locals := 0 }
theorem hiX12_count_X12 : ∀ w ∈ u_ws RX12 TX12 24, w ∈ wsX12_count := fun _ h => (List.mem_cons_of_mem _ (List.mem_append_right _ h))
set_option maxHeartbeats 4000000 in
set_option maxRecDepth 100000 in
theorem it_X12_count_52 (C : Cx p s m args c cX12_count 5 RX12 wsX12_count D ca A) (hr : meth.sig.returnType = (some .int)) (hlk : meth.locks = false) {o : (Int × Int × Mem) ⊕ (Int × Mem)} (hc : ∀ (x2 x3 : Int) (σ : Mem), o = .inl (x2, x3, σ) → G p l e rm_X12_count s m args below meth c 5 D ca ad A 0 0 (MQ below (Qi D ca ad A r0 σ0) args s 0 0 A) σ 52 [some (.ref (ad 120)), none, some (.int (iI x2)), some (.int (iI x3)), none] []) (he : ∀ (y2 : Int) (σ : Mem), o = .inr (y2, σ) → G p l e rm_X12_count s m args below meth c 5 D ca ad A 0 0 (MQ below (Qi D ca ad A r0 σ0) args s 0 0 A) σ 88 [none, none, some (.int (iI y2)), none, none] []) {x2 x3 : Int} {σ : Mem} (hf : f_X12_count_52  x2 x3 σ = some o) : G p l e rm_X12_count s m args below meth c 5 D ca ad A 0 0 (MQ below (Qi D ca ad A r0 σ0) args s 0 0 A) σ 52 [some (.ref (ad 120)), none, some (.int (iI x2)), some (.int (iI x3)), none] [] := by
  unfold f_X12_count_52 at hf
  refine g_iload_n (i := 3) C dX12_count_52 rfl rfl ?_
  refine g_aload_n (i := 0) C dX12_count_53 rfl rfl ?_
  refine gg_X12_s (i := 1) C hiX12_count_X12 rfl dX12_count_54 ?_
  refine g_iconst C dX12_count_57 ?_
  refine g_iaload (N := 39) (j := 1) C (by decide) dX12_count_58 (by decide) (by decide) ?_
  refine g_icmp_ge (tgt := 88) C dX12_count_59 (by decide) rfl rfl (fun c4 => ?_) (fun c4 => ?_)
  · have hf := if_t c4 hf
    exact g_mask [false, false, true, false, false] (he _ _ (Option.some.inj hf).symm)
  · have hf := if_f c4 hf
    refine g_iload_n (i := 2) C dX12_count_62 rfl rfl ?_
    refine g_aload_n (i := 0) C dX12_count_63 rfl rfl ?_
    refine gg_X12_s (i := 1) C hiX12_count_X12 rfl dX12_count_64 ?_
    refine g_bipush C dX12_count_67 (by decide) ?_
    refine g_iload_n (i := 3) C dX12_count_69 rfl rfl ?_
    refine g_iadd C dX12_count_70 ?_
    obtain ⟨hb5, hf⟩ := if_inv hf
    refine g_iaload (N := 39) C (by decide) dX12_count_71 rfl hb5 ?_
    refine g_if_le (tgt := 79) C dX12_count_72 (by decide) rfl (fun c6 => ?_) (fun c6 => ?_)
    · have hf := if_t c6 hf
      refine g_iconst C dX12_count_79 ?_
      refine g_iadd C dX12_count_80 ?_
      refine g_istore_n (i := 2) C dX12_count_81 rfl (by decide) rfl ?_
      refine g_iinc C dX12_count_82 rfl (by decide) rfl ?_
      refine g_goto (tgt := 52) C dX12_count_85 (by decide) ?_
      exact g_mask [true, false, true, true, false] (hc _ _ _ (Option.some.inj hf).symm)
    · have hf := if_f c6 hf
      refine g_iconst C dX12_count_75 ?_
      refine g_goto (tgt := 80) C dX12_count_76 (by decide) ?_
      refine g_iadd C dX12_count_80 ?_
      refine g_istore_n (i := 2) C dX12_count_81 rfl (by decide) rfl ?_
      refine g_iinc C dX12_count_82 rfl (by decide) rfl ?_
      refine g_goto (tgt := 52) C dX12_count_85 (by decide) ?_
      exact g_mask [true, false, true, true, false] (hc _ _ _ (Option.some.inj hf).symm)
set_option maxHeartbeats 4000000 in
set_option maxRecDepth 100000 in
theorem w_X12_count_52 (C : Cx p s m args c cX12_count 5 RX12 wsX12_count D ca A) (hr : meth.sig.returnType = (some .int)) (hlk : meth.locks = false) {n : Nat} {x2 x3 : Int} {σ : Mem} {b : (Int × Mem)} (h : itr (fun z : Int × Int × Mem => f_X12_count_52  z.1 z.2.1 z.2.2) n (x2, x3, σ) = some b) (he : ∀ (y2 : Int) (σ : Mem), b = (y2, σ) → G p l e rm_X12_count s m args below meth c 5 D ca ad A 0 0 (MQ below (Qi D ca ad A r0 σ0) args s 0 0 A) σ 88 [none, none, some (.int (iI y2)), none, none] []) : G p l e rm_X12_count s m args below meth c 5 D ca ad A 0 0 (MQ below (Qi D ca ad A r0 σ0) args s 0 0 A) σ 52 [some (.ref (ad 120)), none, some (.int (iI x2)), some (.int (iI x3)), none] [] :=
  itr_rule (P := fun z : Int × Int × Mem => G p l e rm_X12_count s m args below meth c 5 D ca ad A 0 0 (MQ below (Qi D ca ad A r0 σ0) args s 0 0 A) z.2.2 52 [some (.ref (ad 120)), none, some (.int (iI z.1)), some (.int (iI z.2.1)), none] []) (E := fun b => ∀ (y2 : Int) (σ : Mem), b = (y2, σ) → G p l e rm_X12_count s m args below meth c 5 D ca ad A 0 0 (MQ below (Qi D ca ad A r0 σ0) args s 0 0 A) σ 88 [none, none, some (.int (iI y2)), none, none] []) (fun z o hb hc he => it_X12_count_52 C hr hlk (fun _ _ _ e => hc _ e) (fun _ _ e => (he _ e) _ _ rfl) hb) n _ _ h he
set_option maxHeartbeats 4000000 in
set_option maxRecDepth 100000 in
theorem it_X12_count_92 (C : Cx p s m args c cX12_count 5 RX12 wsX12_count D ca A) (hr : meth.sig.returnType = (some .int)) (hlk : meth.locks = false) {o : (Int × Int × Mem) ⊕ (Int × Mem)} (hc : ∀ (x2 x3 : Int) (σ : Mem), o = .inl (x2, x3, σ) → G p l e rm_X12_count s m args below meth c 5 D ca ad A 0 0 (MQ below (Qi D ca ad A r0 σ0) args s 0 0 A) σ 92 [some (.ref (ad 120)), none, some (.int (iI x2)), some (.int (iI x3)), none] []) (he : ∀ (y2 : Int) (σ : Mem), o = .inr (y2, σ) → G p l e rm_X12_count s m args below meth c 5 D ca ad A 0 0 (MQ below (Qi D ca ad A r0 σ0) args s 0 0 A) σ 120 [none, none, some (.int (iI y2)), none, none] []) {x2 x3 : Int} {σ : Mem} (hf : f_X12_count_92  x2 x3 σ = some o) : G p l e rm_X12_count s m args below meth c 5 D ca ad A 0 0 (MQ below (Qi D ca ad A r0 σ0) args s 0 0 A) σ 92 [some (.ref (ad 120)), none, some (.int (iI x2)), some (.int (iI x3)), none] [] := by
  unfold f_X12_count_92 at hf
  refine g_iload_n (i := 3) C dX12_count_92 rfl rfl ?_
  refine g_aload_n (i := 0) C dX12_count_93 rfl rfl ?_
  refine gg_X12_s (i := 1) C hiX12_count_X12 rfl dX12_count_94 ?_
  refine g_iconst C dX12_count_97 ?_
  refine g_iaload (N := 39) (j := 0) C (by decide) dX12_count_98 (by decide) (by decide) ?_
  refine g_icmp_ge (tgt := 120) C dX12_count_99 (by decide) rfl rfl (fun c12 => ?_) (fun c12 => ?_)
  · have hf := if_t c12 hf
    exact g_mask [false, false, true, false, false] (he _ _ (Option.some.inj hf).symm)
  · have hf := if_f c12 hf
    refine g_iload_n (i := 2) C dX12_count_102 rfl rfl ?_
    refine g_aload_n (i := 0) C dX12_count_103 rfl rfl ?_
    refine gg_X12_s (i := 1) C hiX12_count_X12 rfl dX12_count_104 ?_
    refine g_bipush C dX12_count_107 (by decide) ?_
    refine g_iload_n (i := 3) C dX12_count_109 rfl rfl ?_
    refine g_iadd C dX12_count_110 ?_
    obtain ⟨hb13, hf⟩ := if_inv hf
    refine g_iaload (N := 39) C (by decide) dX12_count_111 rfl hb13 ?_
    refine g_iadd C dX12_count_112 ?_
    refine g_istore_n (i := 2) C dX12_count_113 rfl (by decide) rfl ?_
    refine g_iinc C dX12_count_114 rfl (by decide) rfl ?_
    refine g_goto (tgt := 92) C dX12_count_117 (by decide) ?_
    exact g_mask [true, false, true, true, false] (hc _ _ _ (Option.some.inj hf).symm)
set_option maxHeartbeats 4000000 in
set_option maxRecDepth 100000 in
theorem w_X12_count_92 (C : Cx p s m args c cX12_count 5 RX12 wsX12_count D ca A) (hr : meth.sig.returnType = (some .int)) (hlk : meth.locks = false) {n : Nat} {x2 x3 : Int} {σ : Mem} {b : (Int × Mem)} (h : itr (fun z : Int × Int × Mem => f_X12_count_92  z.1 z.2.1 z.2.2) n (x2, x3, σ) = some b) (he : ∀ (y2 : Int) (σ : Mem), b = (y2, σ) → G p l e rm_X12_count s m args below meth c 5 D ca ad A 0 0 (MQ below (Qi D ca ad A r0 σ0) args s 0 0 A) σ 120 [none, none, some (.int (iI y2)), none, none] []) : G p l e rm_X12_count s m args below meth c 5 D ca ad A 0 0 (MQ below (Qi D ca ad A r0 σ0) args s 0 0 A) σ 92 [some (.ref (ad 120)), none, some (.int (iI x2)), some (.int (iI x3)), none] [] :=
  itr_rule (P := fun z : Int × Int × Mem => G p l e rm_X12_count s m args below meth c 5 D ca ad A 0 0 (MQ below (Qi D ca ad A r0 σ0) args s 0 0 A) z.2.2 92 [some (.ref (ad 120)), none, some (.int (iI z.1)), some (.int (iI z.2.1)), none] []) (E := fun b => ∀ (y2 : Int) (σ : Mem), b = (y2, σ) → G p l e rm_X12_count s m args below meth c 5 D ca ad A 0 0 (MQ below (Qi D ca ad A r0 σ0) args s 0 0 A) σ 120 [none, none, some (.int (iI y2)), none, none] []) (fun z o hb hc he => it_X12_count_92 C hr hlk (fun _ _ _ e => hc _ e) (fun _ _ e => (he _ e) _ _ rfl) hb) n _ _ h he
set_option maxHeartbeats 4000000 in
set_option maxRecDepth 100000 in
theorem it_X12_count_137 (C : Cx p s m args c cX12_count 5 RX12 wsX12_count D ca A) (hr : meth.sig.returnType = (some .int)) (hlk : meth.locks = false) {p3 : Int} {o : (Int × Int × Mem) ⊕ (Int × Mem)} (hc : ∀ (x2 x4 : Int) (σ : Mem), o = .inl (x2, x4, σ) → G p l e rm_X12_count s m args below meth c 5 D ca ad A 0 0 (MQ below (Qi D ca ad A r0 σ0) args s 0 0 A) σ 137 [some (.ref (ad 120)), none, some (.int (iI x2)), some (.int (iI p3)), some (.int (iI x4))] []) (he : ∀ (y2 : Int) (σ : Mem), o = .inr (y2, σ) → G p l e rm_X12_count s m args below meth c 5 D ca ad A 0 0 (MQ below (Qi D ca ad A r0 σ0) args s 0 0 A) σ 171 [some (.ref (ad 120)), none, some (.int (iI y2)), some (.int (iI p3)), none] []) {x2 x4 : Int} {σ : Mem} (hf : f_X12_count_137 p3 x2 x4 σ = some o) : G p l e rm_X12_count s m args below meth c 5 D ca ad A 0 0 (MQ below (Qi D ca ad A r0 σ0) args s 0 0 A) σ 137 [some (.ref (ad 120)), none, some (.int (iI x2)), some (.int (iI p3)), some (.int (iI x4))] [] := by
  unfold f_X12_count_137 at hf
  refine g_iload C dX12_count_137 rfl ?_
  refine g_aload_n (i := 0) C dX12_count_139 rfl rfl ?_
  refine gg_X12_s (i := 1) C hiX12_count_X12 rfl dX12_count_140 ?_
  refine g_iconst C dX12_count_143 ?_
  refine g_iaload (N := 39) (j := 0) C (by decide) dX12_count_144 (by decide) (by decide) ?_
  refine g_icmp_ge (tgt := 171) C dX12_count_145 (by decide) rfl rfl (fun c21 => ?_) (fun c21 => ?_)
  · have hf := if_t c21 hf
    exact g_mask [true, false, true, true, false] (he _ _ (Option.some.inj hf).symm)
  · have hf := if_f c21 hf
    refine g_iload_n (i := 2) C dX12_count_148 rfl rfl ?_
    refine g_aload_n (i := 0) C dX12_count_149 rfl rfl ?_
    refine gg_X12_s (i := 1) C hiX12_count_X12 rfl dX12_count_150 ?_
    refine g_bipush C dX12_count_153 (by decide) ?_
    refine g_iconst C dX12_count_155 ?_
    refine g_iload_n (i := 3) C dX12_count_156 rfl rfl ?_
    refine g_imul C dX12_count_157 ?_
    refine g_iadd C dX12_count_158 ?_
    refine g_iload C dX12_count_159 rfl ?_
    refine g_iadd C dX12_count_161 ?_
    obtain ⟨hb22, hf⟩ := if_inv hf
    refine g_iaload (N := 39) C (by decide) dX12_count_162 rfl hb22 ?_
    refine g_iadd C dX12_count_163 ?_
    refine g_istore_n (i := 2) C dX12_count_164 rfl (by decide) rfl ?_
    refine g_iinc C dX12_count_165 rfl (by decide) rfl ?_
    refine g_goto (tgt := 137) C dX12_count_168 (by decide) ?_
    exact g_mask [true, false, true, true, true] (hc _ _ _ (Option.some.inj hf).symm)
set_option maxHeartbeats 4000000 in
set_option maxRecDepth 100000 in
theorem w_X12_count_137 (C : Cx p s m args c cX12_count 5 RX12 wsX12_count D ca A) (hr : meth.sig.returnType = (some .int)) (hlk : meth.locks = false) {p3 : Int} {n : Nat} {x2 x4 : Int} {σ : Mem} {b : (Int × Mem)} (h : itr (fun z : Int × Int × Mem => f_X12_count_137 p3 z.1 z.2.1 z.2.2) n (x2, x4, σ) = some b) (he : ∀ (y2 : Int) (σ : Mem), b = (y2, σ) → G p l e rm_X12_count s m args below meth c 5 D ca ad A 0 0 (MQ below (Qi D ca ad A r0 σ0) args s 0 0 A) σ 171 [some (.ref (ad 120)), none, some (.int (iI y2)), some (.int (iI p3)), none] []) : G p l e rm_X12_count s m args below meth c 5 D ca ad A 0 0 (MQ below (Qi D ca ad A r0 σ0) args s 0 0 A) σ 137 [some (.ref (ad 120)), none, some (.int (iI x2)), some (.int (iI p3)), some (.int (iI x4))] [] :=
  itr_rule (P := fun z : Int × Int × Mem => G p l e rm_X12_count s m args below meth c 5 D ca ad A 0 0 (MQ below (Qi D ca ad A r0 σ0) args s 0 0 A) z.2.2 137 [some (.ref (ad 120)), none, some (.int (iI z.1)), some (.int (iI p3)), some (.int (iI z.2.1))] []) (E := fun b => ∀ (y2 : Int) (σ : Mem), b = (y2, σ) → G p l e rm_X12_count s m args below meth c 5 D ca ad A 0 0 (MQ below (Qi D ca ad A r0 σ0) args s 0 0 A) σ 171 [some (.ref (ad 120)), none, some (.int (iI y2)), some (.int (iI p3)), none] []) (fun z o hb hc he => it_X12_count_137 C hr hlk (fun _ _ _ e => hc _ e) (fun _ _ e => (he _ e) _ _ rfl) hb) n _ _ h he
set_option maxHeartbeats 4000000 in
set_option maxRecDepth 100000 in
theorem it_X12_count_124 (C : Cx p s m args c cX12_count 5 RX12 wsX12_count D ca A) (hr : meth.sig.returnType = (some .int)) (hlk : meth.locks = false) {o : (Int × Int × Mem) ⊕ (Int × Mem)} (hc : ∀ (x2 x3 : Int) (σ : Mem), o = .inl (x2, x3, σ) → G p l e rm_X12_count s m args below meth c 5 D ca ad A 0 0 (MQ below (Qi D ca ad A r0 σ0) args s 0 0 A) σ 124 [some (.ref (ad 120)), none, some (.int (iI x2)), some (.int (iI x3)), none] []) (he : ∀ (y2 : Int) (σ : Mem), o = .inr (y2, σ) → G p l e rm_X12_count s m args below meth c 5 D ca ad A 0 0 (MQ below (Qi D ca ad A r0 σ0) args s 0 0 A) σ 177 [none, none, some (.int (iI y2)), none, none] []) {x2 x3 : Int} {σ : Mem} (hf : f_X12_count_124  x2 x3 σ = some o) : G p l e rm_X12_count s m args below meth c 5 D ca ad A 0 0 (MQ below (Qi D ca ad A r0 σ0) args s 0 0 A) σ 124 [some (.ref (ad 120)), none, some (.int (iI x2)), some (.int (iI x3)), none] [] := by
  unfold f_X12_count_124 at hf
  refine g_iload_n (i := 3) C dX12_count_124 rfl rfl ?_
  refine g_aload_n (i := 0) C dX12_count_125 rfl rfl ?_
  refine gg_X12_s (i := 1) C hiX12_count_X12 rfl dX12_count_126 ?_
  refine g_iconst C dX12_count_129 ?_
  refine g_iaload (N := 39) (j := 1) C (by decide) dX12_count_130 (by decide) (by decide) ?_
  refine g_icmp_ge (tgt := 177) C dX12_count_131 (by decide) rfl rfl (fun c20 => ?_) (fun c20 => ?_)
  · have hf := if_t c20 hf
    exact g_mask [false, false, true, false, false] (he _ _ (Option.some.inj hf).symm)
  · have hf := if_f c20 hf
    refine g_iconst C dX12_count_134 ?_
    refine g_istore C dX12_count_135 (by decide) rfl ?_
    obtain ⟨q24, hl25, hf⟩ := lb_inv hf
    refine g_mask [true, false, true, true, true] (w_X12_count_137 C hr hlk hl25 ?_)
    · rintro y26 σ27 rfl
      refine g_iinc C dX12_count_171 rfl (by decide) rfl ?_
      refine g_goto (tgt := 124) C dX12_count_174 (by decide) ?_
      exact g_mask [true, false, true, true, false] (hc _ _ _ (Option.some.inj hf).symm)
set_option maxHeartbeats 4000000 in
set_option maxRecDepth 100000 in
theorem w_X12_count_124 (C : Cx p s m args c cX12_count 5 RX12 wsX12_count D ca A) (hr : meth.sig.returnType = (some .int)) (hlk : meth.locks = false) {n : Nat} {x2 x3 : Int} {σ : Mem} {b : (Int × Mem)} (h : itr (fun z : Int × Int × Mem => f_X12_count_124  z.1 z.2.1 z.2.2) n (x2, x3, σ) = some b) (he : ∀ (y2 : Int) (σ : Mem), b = (y2, σ) → G p l e rm_X12_count s m args below meth c 5 D ca ad A 0 0 (MQ below (Qi D ca ad A r0 σ0) args s 0 0 A) σ 177 [none, none, some (.int (iI y2)), none, none] []) : G p l e rm_X12_count s m args below meth c 5 D ca ad A 0 0 (MQ below (Qi D ca ad A r0 σ0) args s 0 0 A) σ 124 [some (.ref (ad 120)), none, some (.int (iI x2)), some (.int (iI x3)), none] [] :=
  itr_rule (P := fun z : Int × Int × Mem => G p l e rm_X12_count s m args below meth c 5 D ca ad A 0 0 (MQ below (Qi D ca ad A r0 σ0) args s 0 0 A) z.2.2 124 [some (.ref (ad 120)), none, some (.int (iI z.1)), some (.int (iI z.2.1)), none] []) (E := fun b => ∀ (y2 : Int) (σ : Mem), b = (y2, σ) → G p l e rm_X12_count s m args below meth c 5 D ca ad A 0 0 (MQ below (Qi D ca ad A r0 σ0) args s 0 0 A) σ 177 [none, none, some (.int (iI y2)), none, none] []) (fun z o hb hc he => it_X12_count_124 C hr hlk (fun _ _ _ e => hc _ e) (fun _ _ e => (he _ e) _ _ rfl) hb) n _ _ h he
set_option maxHeartbeats 4000000 in
set_option maxRecDepth 100000 in
theorem c_X12_count {v1 : Int} {σ : Mem} (hf : f_X12_count v1 σ = some (r0, σ0)) : CTi l D ca ad A yX12_count wsX12_count rm_X12_count [.ref (ad 120), .int (iI v1)] σ r0 σ0 := by
  refine ct_i (cc := cX12_count) (own := RX12) (maxL := 5) (ret := (some .int)) (lv0 := [some (.ref (ad 120)), some (.int (iI v1)), none, none, none]) (by decide) rfl rfl rfl (Nat.le_of_ble_eq_true rfl) ?_
  intro p e s m below meth c C hr hlk hnm
  unfold f_X12_count at hf
  refine g_iconst C dX12_count_0 ?_
  refine g_istore_n (i := 2) C dX12_count_1 rfl (by decide) rfl ?_
  refine g_iload_n (i := 1) C dX12_count_2 rfl rfl ?_
  rcases if_or hf with ⟨k1, hf⟩ | ⟨k1, hf⟩
  · refine g_tsIn (j := 0) (tgt := 36) C dX12_count_3 k1 (by decide) (by decide) rfl (by decide) ?_
    refine g_aload_n (i := 0) C dX12_count_36 rfl rfl ?_
    refine gg_X12_s (i := 1) C hiX12_count_X12 rfl dX12_count_37 ?_
    refine g_iconst C dX12_count_40 ?_
    refine g_iaload (N := 39) (j := 0) C (by decide) dX12_count_41 (by decide) (by decide) ?_
    obtain ⟨e1, e2⟩ := some_inv hf
    exact g_iret C hr hlk e1 e2 dX12_count_42
  · rcases if_or hf with ⟨k2, hf⟩ | ⟨k2, hf⟩
    · refine g_tsIn (j := 1) (tgt := 43) C dX12_count_3 k2 (by decide) (by decide) rfl (by decide) ?_
      refine g_aload_n (i := 0) C dX12_count_43 rfl rfl ?_
      refine gg_X12_s (i := 1) C hiX12_count_X12 rfl dX12_count_44 ?_
      refine g_iconst C dX12_count_47 ?_
      refine g_iaload (N := 39) (j := 1) C (by decide) dX12_count_48 (by decide) (by decide) ?_
      obtain ⟨e1, e2⟩ := some_inv hf
      exact g_iret C hr hlk e1 e2 dX12_count_49
    · rcases if_or hf with ⟨k3, hf⟩ | ⟨k3, hf⟩
      · refine g_tsIn (j := 2) (tgt := 50) C dX12_count_3 k3 (by decide) (by decide) rfl (by decide) ?_
        refine g_iconst C dX12_count_50 ?_
        refine g_istore_n (i := 3) C dX12_count_51 rfl (by decide) rfl ?_
        obtain ⟨q7, hl8, hf⟩ := lb_inv hf
        refine g_mask [true, false, true, true, false] (w_X12_count_52 C hr hlk hl8 ?_)
        · rintro y9 σ10 rfl
          refine g_iload_n (i := 2) C dX12_count_88 rfl rfl ?_
          obtain ⟨e1, e2⟩ := some_inv hf
          exact g_iret C hr hlk e1 e2 dX12_count_89
      · rcases if_or hf with ⟨k11, hf⟩ | ⟨k11, hf⟩
        · refine g_tsIn (j := 3) (tgt := 90) C dX12_count_3 k11 (by decide) (by decide) rfl (by decide) ?_
          refine g_iconst C dX12_count_90 ?_
          refine g_istore_n (i := 3) C dX12_count_91 rfl (by decide) rfl ?_
          obtain ⟨q15, hl16, hf⟩ := lb_inv hf
          refine g_mask [true, false, true, true, false] (w_X12_count_92 C hr hlk hl16 ?_)
          · rintro y17 σ18 rfl
            refine g_iload_n (i := 2) C dX12_count_120 rfl rfl ?_
            obtain ⟨e1, e2⟩ := some_inv hf
            exact g_iret C hr hlk e1 e2 dX12_count_121
        · rcases if_or hf with ⟨k19, hf⟩ | ⟨k19, hf⟩
          · refine g_tsIn (j := 4) (tgt := 122) C dX12_count_3 k19 (by decide) (by decide) rfl (by decide) ?_
            refine g_iconst C dX12_count_122 ?_
            refine g_istore_n (i := 3) C dX12_count_123 rfl (by decide) rfl ?_
            obtain ⟨q28, hl29, hf⟩ := lb_inv hf
            refine g_mask [true, false, true, true, false] (w_X12_count_124 C hr hlk hl29 ?_)
            · rintro y30 σ31 rfl
              refine g_iload_n (i := 2) C dX12_count_177 rfl rfl ?_
              obtain ⟨e1, e2⟩ := some_inv hf
              exact g_iret C hr hlk e1 e2 dX12_count_178
          · refine g_tsOut (tgt := 179) C dX12_count_3 (by omega) (by decide) ?_
            refine g_iconst C dX12_count_179 ?_
            obtain ⟨e1, e2⟩ := some_inv hf
            exact g_iret C hr hlk e1 e2 dX12_count_180
/-! X12_keep -/
abbrev rm_X12_keep : Room := { frames := 2, cells := 0, slots := 0, locals := 47 }
theorem hiX12_keep_X12 : ∀ w ∈ u_ws RX12 TX12 24, w ∈ wsX12_keep := fun _ h => (List.mem_cons_of_mem _ (List.mem_append_right _ h))
set_option maxHeartbeats 4000000 in
set_option maxRecDepth 100000 in
theorem it_X12_keep_84 (C : Cx p s m args c cX12_keep 8 RX12 wsX12_keep D ca A) (hr : meth.sig.returnType = (some .int)) (hlk : meth.locks = false) {p1 p3 p4 p6 : Int} {o : (Int × Int × Mem) ⊕ (Int × Mem)} (hc : ∀ (x5 x7 : Int) (σ : Mem), o = .inl (x5, x7, σ) → G p l e rm_X12_keep s m args below meth c 8 D ca ad A 0 0 (MQ below (Qi D ca ad A r0 σ0) args s 0 0 A) σ 84 [some (.ref (ad 120)), some (.int (iI p1)), none, some (.int (iI p3)), some (.int (iI p4)), some (.int (iI x5)), some (.int (iI p6)), some (.int (iI x7))] []) (he : ∀ (y5 : Int) (σ : Mem), o = .inr (y5, σ) → G p l e rm_X12_keep s m args below meth c 8 D ca ad A 0 0 (MQ below (Qi D ca ad A r0 σ0) args s 0 0 A) σ 122 [some (.ref (ad 120)), some (.int (iI p1)), none, some (.int (iI p3)), some (.int (iI p4)), some (.int (iI y5)), some (.int (iI p6)), none] []) {x5 x7 : Int} {σ : Mem} (hf : f_X12_keep_84 p1 p3 p4 p6 x5 x7 σ = some o) : G p l e rm_X12_keep s m args below meth c 8 D ca ad A 0 0 (MQ below (Qi D ca ad A r0 σ0) args s 0 0 A) σ 84 [some (.ref (ad 120)), some (.int (iI p1)), none, some (.int (iI p3)), some (.int (iI p4)), some (.int (iI x5)), some (.int (iI p6)), some (.int (iI x7))] [] := by
  unfold f_X12_keep_84 at hf
  refine g_iload C dX12_keep_84 rfl ?_
  refine g_aload_n (i := 0) C dX12_keep_86 rfl rfl ?_
  refine gg_X12_s (i := 3) C hiX12_keep_X12 rfl dX12_keep_87 ?_
  refine g_iconst C dX12_keep_90 ?_
  refine g_iaload (N := 39) (j := 1) C (by decide) dX12_keep_91 (by decide) (by decide) ?_
  refine g_icmp_ge (tgt := 122) C dX12_keep_92 (by decide) rfl rfl (fun c14 => ?_) (fun c14 => ?_)
  · have hf := if_t c14 hf
    exact g_mask [true, true, false, true, true, true, true, false] (he _ _ (Option.some.inj hf).symm)
  · have hf := if_f c14 hf
    refine g_iload C dX12_keep_95 rfl ?_
    refine g_aload_n (i := 0) C dX12_keep_97 rfl rfl ?_
    refine g_iload C dX12_keep_98 rfl ?_
    refine g_iload C dX12_keep_100 rfl ?_
    obtain ⟨r16, σ15, h17, hf⟩ := ob_inv hf
    refine g_callVi C (c_X12_isMade  h17) (cwV 2 C.2.2.2.2.1 gX12_keep_X12_isMade rfl rfl rfl (by decide +kernel) ⟨Nat.le_of_ble_eq_true rfl, Nat.le_of_ble_eq_true rfl⟩) ob_X12 rfl rfl rfl rfl (Nat.le_of_ble_eq_true rfl) dX12_keep_102 ⟨Nat.zero_le _, Nat.zero_le _⟩ ?_
    refine g_if_eq (tgt := 112) C dX12_keep_105 (by decide) rfl (fun c18 => ?_) (fun c18 => ?_)
    · have hf := if_t c18 hf
      refine g_iconst C dX12_keep_112 ?_
      refine g_iadd C dX12_keep_113 ?_
      refine g_istore C dX12_keep_114 (by decide) rfl ?_
      refine g_iinc C dX12_keep_116 rfl (by decide) rfl ?_
      refine g_goto (tgt := 84) C dX12_keep_119 (by decide) ?_
      exact g_mask [true, true, false, true, true, true, true, true] (hc _ _ _ (Option.some.inj hf).symm)
    · have hf := if_f c18 hf
      refine g_iconst C dX12_keep_108 ?_
      refine g_goto (tgt := 113) C dX12_keep_109 (by decide) ?_
      refine g_iadd C dX12_keep_113 ?_
      refine g_istore C dX12_keep_114 (by decide) rfl ?_
      refine g_iinc C dX12_keep_116 rfl (by decide) rfl ?_
      refine g_goto (tgt := 84) C dX12_keep_119 (by decide) ?_
      exact g_mask [true, true, false, true, true, true, true, true] (hc _ _ _ (Option.some.inj hf).symm)
set_option maxHeartbeats 4000000 in
set_option maxRecDepth 100000 in
theorem w_X12_keep_84 (C : Cx p s m args c cX12_keep 8 RX12 wsX12_keep D ca A) (hr : meth.sig.returnType = (some .int)) (hlk : meth.locks = false) {p1 p3 p4 p6 : Int} {n : Nat} {x5 x7 : Int} {σ : Mem} {b : (Int × Mem)} (h : itr (fun z : Int × Int × Mem => f_X12_keep_84 p1 p3 p4 p6 z.1 z.2.1 z.2.2) n (x5, x7, σ) = some b) (he : ∀ (y5 : Int) (σ : Mem), b = (y5, σ) → G p l e rm_X12_keep s m args below meth c 8 D ca ad A 0 0 (MQ below (Qi D ca ad A r0 σ0) args s 0 0 A) σ 122 [some (.ref (ad 120)), some (.int (iI p1)), none, some (.int (iI p3)), some (.int (iI p4)), some (.int (iI y5)), some (.int (iI p6)), none] []) : G p l e rm_X12_keep s m args below meth c 8 D ca ad A 0 0 (MQ below (Qi D ca ad A r0 σ0) args s 0 0 A) σ 84 [some (.ref (ad 120)), some (.int (iI p1)), none, some (.int (iI p3)), some (.int (iI p4)), some (.int (iI x5)), some (.int (iI p6)), some (.int (iI x7))] [] :=
  itr_rule (P := fun z : Int × Int × Mem => G p l e rm_X12_keep s m args below meth c 8 D ca ad A 0 0 (MQ below (Qi D ca ad A r0 σ0) args s 0 0 A) z.2.2 84 [some (.ref (ad 120)), some (.int (iI p1)), none, some (.int (iI p3)), some (.int (iI p4)), some (.int (iI z.1)), some (.int (iI p6)), some (.int (iI z.2.1))] []) (E := fun b => ∀ (y5 : Int) (σ : Mem), b = (y5, σ) → G p l e rm_X12_keep s m args below meth c 8 D ca ad A 0 0 (MQ below (Qi D ca ad A r0 σ0) args s 0 0 A) σ 122 [some (.ref (ad 120)), some (.int (iI p1)), none, some (.int (iI p3)), some (.int (iI p4)), some (.int (iI y5)), some (.int (iI p6)), none] []) (fun z o hb hc he => it_X12_keep_84 C hr hlk (fun _ _ _ e => hc _ e) (fun _ _ e => (he _ e) _ _ rfl) hb) n _ _ h he
set_option maxHeartbeats 4000000 in
set_option maxRecDepth 100000 in
theorem it_X12_keep_125 (C : Cx p s m args c cX12_keep 8 RX12 wsX12_keep D ca A) (hr : meth.sig.returnType = (some .int)) (hlk : meth.locks = false) {p1 p3 p4 p5 : Int} {o : (Int × Int × Mem) ⊕ (Int × Mem)} (hc : ∀ (x6 x7 : Int) (σ : Mem), o = .inl (x6, x7, σ) → G p l e rm_X12_keep s m args below meth c 8 D ca ad A 0 0 (MQ below (Qi D ca ad A r0 σ0) args s 0 0 A) σ 125 [some (.ref (ad 120)), some (.int (iI p1)), none, some (.int (iI p3)), some (.int (iI p4)), some (.int (iI p5)), some (.int (iI x6)), some (.int (iI x7))] []) (he : ∀ (y6 : Int) (σ : Mem), o = .inr (y6, σ) → G p l e rm_X12_keep s m args below meth c 8 D ca ad A 0 0 (MQ below (Qi D ca ad A r0 σ0) args s 0 0 A) σ 163 [some (.ref (ad 120)), some (.int (iI p1)), none, some (.int (iI p3)), some (.int (iI p4)), some (.int (iI p5)), some (.int (iI y6)), none] []) {x6 x7 : Int} {σ : Mem} (hf : f_X12_keep_125 p1 p3 p4 p5 x6 x7 σ = some o) : G p l e rm_X12_keep s m args below meth c 8 D ca ad A 0 0 (MQ below (Qi D ca ad A r0 σ0) args s 0 0 A) σ 125 [some (.ref (ad 120)), some (.int (iI p1)), none, some (.int (iI p3)), some (.int (iI p4)), some (.int (iI p5)), some (.int (iI x6)), some (.int (iI x7))] [] := by
  unfold f_X12_keep_125 at hf
  refine g_iload C dX12_keep_125 rfl ?_
  refine g_aload_n (i := 0) C dX12_keep_127 rfl rfl ?_
  refine gg_X12_s (i := 3) C hiX12_keep_X12 rfl dX12_keep_128 ?_
  refine g_iconst C dX12_keep_131 ?_
  refine g_iaload (N := 39) (j := 0) C (by decide) dX12_keep_132 (by decide) (by decide) ?_
  refine g_icmp_ge (tgt := 163) C dX12_keep_133 (by decide) rfl rfl (fun c23 => ?_) (fun c23 => ?_)
  · have hf := if_t c23 hf
    exact g_mask [true, true, false, true, true, true, true, false] (he _ _ (Option.some.inj hf).symm)
  · have hf := if_f c23 hf
    refine g_iload C dX12_keep_136 rfl ?_
    refine g_iload C dX12_keep_138 rfl ?_
    refine g_iload C dX12_keep_140 rfl ?_
    obtain ⟨r25, σ24, h26, hf⟩ := ob_inv hf
    refine g_callSi C (c_X12_made  h26) (va_cwS 2 C.2.2.2.2.1 gX12_keep_X12_made rfl rfl rfl (by decide +kernel) ⟨Nat.le_of_ble_eq_true rfl, Nat.le_of_ble_eq_true rfl⟩) rfl rfl (Nat.le_of_ble_eq_true rfl) dX12_keep_142 ⟨Nat.zero_le _, Nat.zero_le _⟩ ?_
    refine g_iconst C dX12_keep_145 ?_
    refine g_icmp_ne (b' := 4) (tgt := 153) C dX12_keep_146 (by decide) rfl (by decide) (fun c27 => ?_) (fun c27 => ?_)
    · have hf := if_f c27 hf
      refine g_iconst C dX12_keep_153 ?_
      refine g_iadd C dX12_keep_154 ?_
      refine g_istore C dX12_keep_155 (by decide) rfl ?_
      refine g_iinc C dX12_keep_157 rfl (by decide) rfl ?_
      refine g_goto (tgt := 125) C dX12_keep_160 (by decide) ?_
      exact g_mask [true, true, false, true, true, true, true, true] (hc _ _ _ (Option.some.inj hf).symm)
    · have hf := if_t c27 hf
      refine g_iconst C dX12_keep_149 ?_
      refine g_goto (tgt := 154) C dX12_keep_150 (by decide) ?_
      refine g_iadd C dX12_keep_154 ?_
      refine g_istore C dX12_keep_155 (by decide) rfl ?_
      refine g_iinc C dX12_keep_157 rfl (by decide) rfl ?_
      refine g_goto (tgt := 125) C dX12_keep_160 (by decide) ?_
      exact g_mask [true, true, false, true, true, true, true, true] (hc _ _ _ (Option.some.inj hf).symm)
set_option maxHeartbeats 4000000 in
set_option maxRecDepth 100000 in
theorem w_X12_keep_125 (C : Cx p s m args c cX12_keep 8 RX12 wsX12_keep D ca A) (hr : meth.sig.returnType = (some .int)) (hlk : meth.locks = false) {p1 p3 p4 p5 : Int} {n : Nat} {x6 x7 : Int} {σ : Mem} {b : (Int × Mem)} (h : itr (fun z : Int × Int × Mem => f_X12_keep_125 p1 p3 p4 p5 z.1 z.2.1 z.2.2) n (x6, x7, σ) = some b) (he : ∀ (y6 : Int) (σ : Mem), b = (y6, σ) → G p l e rm_X12_keep s m args below meth c 8 D ca ad A 0 0 (MQ below (Qi D ca ad A r0 σ0) args s 0 0 A) σ 163 [some (.ref (ad 120)), some (.int (iI p1)), none, some (.int (iI p3)), some (.int (iI p4)), some (.int (iI p5)), some (.int (iI y6)), none] []) : G p l e rm_X12_keep s m args below meth c 8 D ca ad A 0 0 (MQ below (Qi D ca ad A r0 σ0) args s 0 0 A) σ 125 [some (.ref (ad 120)), some (.int (iI p1)), none, some (.int (iI p3)), some (.int (iI p4)), some (.int (iI p5)), some (.int (iI x6)), some (.int (iI x7))] [] :=
  itr_rule (P := fun z : Int × Int × Mem => G p l e rm_X12_keep s m args below meth c 8 D ca ad A 0 0 (MQ below (Qi D ca ad A r0 σ0) args s 0 0 A) z.2.2 125 [some (.ref (ad 120)), some (.int (iI p1)), none, some (.int (iI p3)), some (.int (iI p4)), some (.int (iI p5)), some (.int (iI z.1)), some (.int (iI z.2.1))] []) (E := fun b => ∀ (y6 : Int) (σ : Mem), b = (y6, σ) → G p l e rm_X12_keep s m args below meth c 8 D ca ad A 0 0 (MQ below (Qi D ca ad A r0 σ0) args s 0 0 A) σ 163 [some (.ref (ad 120)), some (.int (iI p1)), none, some (.int (iI p3)), some (.int (iI p4)), some (.int (iI p5)), some (.int (iI y6)), none] []) (fun z o hb hc he => it_X12_keep_125 C hr hlk (fun _ _ _ e => hc _ e) (fun _ _ e => (he _ e) _ _ rfl) hb) n _ _ h he
set_option maxHeartbeats 4000000 in
set_option maxRecDepth 100000 in
theorem c_X12_keep {v1 v2 v3 v4 : Int} {σ : Mem} (hf : f_X12_keep v1 v2 v3 v4 σ = some (r0, σ0)) : CTi l D ca ad A yX12_keep wsX12_keep rm_X12_keep [.ref (ad 120), .int (iI v1), .int (iI v2), .int (iI v3), .int (iI v4)] σ r0 σ0 := by
  refine ct_i (cc := cX12_keep) (own := RX12) (maxL := 8) (ret := (some .int)) (lv0 := [some (.ref (ad 120)), some (.int (iI v1)), some (.int (iI v2)), some (.int (iI v3)), some (.int (iI v4)), none, none, none]) (by decide) rfl rfl rfl (Nat.le_of_ble_eq_true rfl) ?_
  intro p e s m below meth c C hr hlk hnm
  unfold f_X12_keep at hf
  refine g_iload_n (i := 1) C dX12_keep_0 rfl rfl ?_
  obtain ⟨r2, σ1, h3, hf⟩ := ob_inv hf
  refine g_callSi C (c_X12_isShelf  h3) (va_cwS 1 C.2.2.2.2.1 gX12_keep_X12_isShelf rfl rfl rfl (by decide +kernel) ⟨Nat.le_of_ble_eq_true rfl, Nat.le_of_ble_eq_true rfl⟩) rfl rfl (Nat.le_of_ble_eq_true rfl) dX12_keep_1 ⟨Nat.zero_le _, Nat.zero_le _⟩ ?_
  refine g_if_eq (tgt := 17) C dX12_keep_4 (by decide) rfl (fun c4 => ?_) (fun c4 => ?_)
  · have hf := if_t c4 hf
    refine g_iconst C dX12_keep_17 ?_
    obtain ⟨e1, e2⟩ := some_inv hf
    exact g_iret C hr hlk e1 e2 dX12_keep_18
  · have hf := if_f c4 hf
    refine g_iload_n (i := 2) C dX12_keep_7 rfl rfl ?_
    refine g_i2l C dX12_keep_8 rfl ?_
    refine g_lconst (z := 0) C dX12_keep_9 (by decide) ?_
    refine g_lconst (z := 1) C dX12_keep_10 (by decide) ?_
    obtain ⟨r6, σ5, h7, hf⟩ := ob_inv hf
    refine g_callSi C (c_X12_isIn  h7) (va_cwS 3 C.2.2.2.2.1 gX12_keep_X12_isIn rfl rfl rfl (by decide +kernel) ⟨Nat.le_of_ble_eq_true rfl, Nat.le_of_ble_eq_true rfl⟩) rfl rfl (Nat.le_of_ble_eq_true rfl) dX12_keep_11 ⟨Nat.zero_le _, Nat.zero_le _⟩ ?_
    refine g_if_ne (tgt := 19) C dX12_keep_14 (by decide) rfl (fun c8 => ?_) (fun c8 => ?_)
    · have hf := if_f c8 hf
      refine g_iload_n (i := 2) C dX12_keep_19 rfl rfl ?_
      refine g_iconst C dX12_keep_20 ?_
      refine g_icmp_ne (b' := 1) (tgt := 34) C dX12_keep_21 (by decide) rfl (by decide) (fun c9 => ?_) (fun c9 => ?_)
      · have hf := if_f c9 hf
        refine g_iload_n (i := 2) C dX12_keep_34 rfl rfl ?_
        refine g_iconst C dX12_keep_35 ?_
        refine g_icmp_ne (b' := 1) (tgt := 62) C dX12_keep_36 (by decide) rfl (by decide) (fun c10 => ?_) (fun c10 => ?_)
        · have hf := if_f c10 hf
          refine g_aload_n (i := 0) C dX12_keep_62 rfl rfl ?_
          refine gg_X12_kept (i := 2) C hiX12_keep_X12 rfl dX12_keep_63 ?_
          refine g_iload_n (i := 1) C dX12_keep_66 rfl rfl ?_
          refine g_iload_n (i := 2) C dX12_keep_67 rfl rfl ?_
          obtain ⟨hb11, hf⟩ := if_inv hf
          refine g_iastore (N := 8) C (by decide) dX12_keep_68 rfl hb11 ?_
          refine g_iload_n (i := 2) C dX12_keep_69 rfl rfl ?_
          refine g_if_ne (tgt := 75) C dX12_keep_70 (by decide) rfl (fun c13 => ?_) (fun c13 => ?_)
          · have hf := if_f c13 hf
            refine g_iconst C dX12_keep_75 ?_
            refine g_istore C dX12_keep_76 (by decide) rfl ?_
            refine g_iconst C dX12_keep_78 ?_
            refine g_istore C dX12_keep_79 (by decide) rfl ?_
            refine g_iconst C dX12_keep_81 ?_
            refine g_istore C dX12_keep_82 (by decide) rfl ?_
            obtain ⟨q19, hl20, hf⟩ := lb_inv hf
            refine g_mask [true, true, false, true, true, true, true, true] (w_X12_keep_84 C hr hlk hl20 ?_)
            · rintro y21 σ22 rfl
              refine g_iconst C dX12_keep_122 ?_
              refine g_istore C dX12_keep_123 (by decide) rfl ?_
              obtain ⟨q28, hl29, hf⟩ := lb_inv hf
              refine g_mask [true, true, false, true, true, true, true, true] (w_X12_keep_125 C hr hlk hl29 ?_)
              · rintro y30 σ31 rfl
                refine g_aload_n (i := 0) C dX12_keep_163 rfl rfl ?_
                refine gg_X12_keptBreadth (i := 4) C hiX12_keep_X12 rfl dX12_keep_164 ?_
                refine g_iload_n (i := 1) C dX12_keep_167 rfl rfl ?_
                refine g_iload_n (i := 3) C dX12_keep_168 rfl rfl ?_
                refine g_if_ne (tgt := 177) C dX12_keep_169 (by decide) rfl (fun c32 => ?_) (fun c32 => ?_)
                · have hf := if_f c32 hf
                  refine g_iload_n (i := 3) C dX12_keep_177 rfl rfl ?_
                  refine g_iconst C dX12_keep_178 ?_
                  refine g_icmp_ne (b' := 1) (tgt := 189) C dX12_keep_179 (by decide) rfl (by decide) (fun c33 => ?_) (fun c33 => ?_)
                  · have hf := if_f c33 hf
                    refine g_iload_n (i := 3) C dX12_keep_189 rfl rfl ?_
                    refine g_iconst C dX12_keep_190 ?_
                    refine g_icmp_ne (b' := 2) (tgt := 201) C dX12_keep_191 (by decide) rfl (by decide) (fun c34 => ?_) (fun c34 => ?_)
                    · have hf := if_f c34 hf
                      refine g_iload_n (i := 3) C dX12_keep_201 rfl rfl ?_
                      refine g_iconst C dX12_keep_202 ?_
                      refine g_icmp_ne (b' := 3) (tgt := 214) C dX12_keep_203 (by decide) rfl (by decide) (fun c35 => ?_) (fun c35 => ?_)
                      · have hf := if_f c35 hf
                        refine g_iload_n (i := 3) C dX12_keep_214 rfl rfl ?_
                        refine g_iconst C dX12_keep_215 ?_
                        refine g_icmp_ne (b' := 4) (tgt := 228) C dX12_keep_216 (by decide) rfl (by decide) (fun c36 => ?_) (fun c36 => ?_)
                        · have hf := if_f c36 hf
                          refine g_iconst C dX12_keep_228 ?_
                          refine g_iload C dX12_keep_229 rfl ?_
                          refine g_iconst C dX12_keep_231 ?_
                          refine g_iadd C dX12_keep_232 ?_
                          refine g_imul C dX12_keep_233 ?_
                          obtain ⟨hb37, hf⟩ := if_inv hf
                          refine g_iastore (N := 8) C (by decide) dX12_keep_234 rfl hb37 ?_
                          refine g_aload_n (i := 0) C dX12_keep_235 rfl rfl ?_
                          refine gg_X12_keptToss (i := 5) C hiX12_keep_X12 rfl dX12_keep_236 ?_
                          refine g_iload_n (i := 1) C dX12_keep_239 rfl rfl ?_
                          refine g_iload_n (i := 3) C dX12_keep_240 rfl rfl ?_
                          refine g_iconst C dX12_keep_241 ?_
                          refine g_icmp_eq (b' := 3) (tgt := 250) C dX12_keep_242 (by decide) rfl (by decide) (fun c39 => ?_) (fun c39 => ?_)
                          · have hf := if_t c39 hf
                            refine g_bipush C dX12_keep_250 (by decide) ?_
                            refine g_goto (tgt := 281) C dX12_keep_252 (by decide) ?_
                            refine g_iastore (N := 8) C (by decide) dX12_keep_281 rfl hb37 ?_
                            refine g_iconst C dX12_keep_282 ?_
                            obtain ⟨e1, e2⟩ := some_inv hf
                            exact g_iret C hr hlk e1 e2 dX12_keep_283
                          · have hf := if_f c39 hf
                            refine g_iload C dX12_keep_245 rfl ?_
                            refine g_if_ne (tgt := 255) C dX12_keep_247 (by decide) rfl (fun c41 => ?_) (fun c41 => ?_)
                            · have hf := if_f c41 hf
                              refine g_iload_n (i := 3) C dX12_keep_255 rfl rfl ?_
                              refine g_iconst C dX12_keep_256 ?_
                              refine g_icmp_ne (b' := 4) (tgt := 269) C dX12_keep_257 (by decide) rfl (by decide) (fun c42 => ?_) (fun c42 => ?_)
                              · have hf := if_f c42 hf
                                refine g_iload_n (i := 3) C dX12_keep_269 rfl rfl ?_
                                refine g_iconst C dX12_keep_270 ?_
                                refine g_icmp_ne (b' := 5) (tgt := 279) C dX12_keep_271 (by decide) rfl (by decide) (fun c43 => ?_) (fun c43 => ?_)
                                · have hf := if_f c43 hf
                                  refine g_iload C dX12_keep_279 rfl ?_
                                  refine g_iastore (N := 8) C (by decide) dX12_keep_281 rfl hb37 ?_
                                  refine g_iconst C dX12_keep_282 ?_
                                  obtain ⟨e1, e2⟩ := some_inv hf
                                  exact g_iret C hr hlk e1 e2 dX12_keep_283
                                · have hf := if_t c43 hf
                                  refine g_iload C dX12_keep_274 rfl ?_
                                  refine g_goto (tgt := 281) C dX12_keep_276 (by decide) ?_
                                  refine g_iastore (N := 8) C (by decide) dX12_keep_281 rfl hb37 ?_
                                  refine g_iconst C dX12_keep_282 ?_
                                  obtain ⟨e1, e2⟩ := some_inv hf
                                  exact g_iret C hr hlk e1 e2 dX12_keep_283
                              · have hf := if_t c42 hf
                                refine g_sipush C dX12_keep_260 (by decide) ?_
                                refine g_iload C dX12_keep_263 rfl ?_
                                refine g_iadd C dX12_keep_265 ?_
                                refine g_goto (tgt := 281) C dX12_keep_266 (by decide) ?_
                                refine g_iastore (N := 8) C (by decide) dX12_keep_281 rfl hb37 ?_
                                refine g_iconst C dX12_keep_282 ?_
                                obtain ⟨e1, e2⟩ := some_inv hf
                                exact g_iret C hr hlk e1 e2 dX12_keep_283
                            · have hf := if_t c41 hf
                              refine g_bipush C dX12_keep_250 (by decide) ?_
                              refine g_goto (tgt := 281) C dX12_keep_252 (by decide) ?_
                              refine g_iastore (N := 8) C (by decide) dX12_keep_281 rfl hb37 ?_
                              refine g_iconst C dX12_keep_282 ?_
                              obtain ⟨e1, e2⟩ := some_inv hf
                              exact g_iret C hr hlk e1 e2 dX12_keep_283
                        · have hf := if_t c36 hf
                          refine g_iconst C dX12_keep_219 ?_
                          refine g_iload C dX12_keep_220 rfl ?_
                          refine g_imul C dX12_keep_222 ?_
                          refine g_iconst C dX12_keep_223 ?_
                          refine g_iadd C dX12_keep_224 ?_
                          refine g_goto (tgt := 234) C dX12_keep_225 (by decide) ?_
                          obtain ⟨hb48, hf⟩ := if_inv hf
                          refine g_iastore (N := 8) C (by decide) dX12_keep_234 rfl hb48 ?_
                          refine g_aload_n (i := 0) C dX12_keep_235 rfl rfl ?_
                          refine gg_X12_keptToss (i := 5) C hiX12_keep_X12 rfl dX12_keep_236 ?_
                          refine g_iload_n (i := 1) C dX12_keep_239 rfl rfl ?_
                          refine g_iload_n (i := 3) C dX12_keep_240 rfl rfl ?_
                          refine g_iconst C dX12_keep_241 ?_
                          refine g_icmp_eq (b' := 3) (tgt := 250) C dX12_keep_242 (by decide) rfl (by decide) (fun c50 => ?_) (fun c50 => ?_)
                          · have hf := if_t c50 hf
                            refine g_bipush C dX12_keep_250 (by decide) ?_
                            refine g_goto (tgt := 281) C dX12_keep_252 (by decide) ?_
                            refine g_iastore (N := 8) C (by decide) dX12_keep_281 rfl hb48 ?_
                            refine g_iconst C dX12_keep_282 ?_
                            obtain ⟨e1, e2⟩ := some_inv hf
                            exact g_iret C hr hlk e1 e2 dX12_keep_283
                          · have hf := if_f c50 hf
                            refine g_iload C dX12_keep_245 rfl ?_
                            refine g_if_ne (tgt := 255) C dX12_keep_247 (by decide) rfl (fun c52 => ?_) (fun c52 => ?_)
                            · have hf := if_f c52 hf
                              refine g_iload_n (i := 3) C dX12_keep_255 rfl rfl ?_
                              refine g_iconst C dX12_keep_256 ?_
                              refine g_icmp_ne (b' := 4) (tgt := 269) C dX12_keep_257 (by decide) rfl (by decide) (fun c53 => ?_) (fun c53 => ?_)
                              · have hf := if_f c53 hf
                                refine g_iload_n (i := 3) C dX12_keep_269 rfl rfl ?_
                                refine g_iconst C dX12_keep_270 ?_
                                refine g_icmp_ne (b' := 5) (tgt := 279) C dX12_keep_271 (by decide) rfl (by decide) (fun c54 => ?_) (fun c54 => ?_)
                                · have hf := if_f c54 hf
                                  refine g_iload C dX12_keep_279 rfl ?_
                                  refine g_iastore (N := 8) C (by decide) dX12_keep_281 rfl hb48 ?_
                                  refine g_iconst C dX12_keep_282 ?_
                                  obtain ⟨e1, e2⟩ := some_inv hf
                                  exact g_iret C hr hlk e1 e2 dX12_keep_283
                                · have hf := if_t c54 hf
                                  refine g_iload C dX12_keep_274 rfl ?_
                                  refine g_goto (tgt := 281) C dX12_keep_276 (by decide) ?_
                                  refine g_iastore (N := 8) C (by decide) dX12_keep_281 rfl hb48 ?_
                                  refine g_iconst C dX12_keep_282 ?_
                                  obtain ⟨e1, e2⟩ := some_inv hf
                                  exact g_iret C hr hlk e1 e2 dX12_keep_283
                              · have hf := if_t c53 hf
                                refine g_sipush C dX12_keep_260 (by decide) ?_
                                refine g_iload C dX12_keep_263 rfl ?_
                                refine g_iadd C dX12_keep_265 ?_
                                refine g_goto (tgt := 281) C dX12_keep_266 (by decide) ?_
                                refine g_iastore (N := 8) C (by decide) dX12_keep_281 rfl hb48 ?_
                                refine g_iconst C dX12_keep_282 ?_
                                obtain ⟨e1, e2⟩ := some_inv hf
                                exact g_iret C hr hlk e1 e2 dX12_keep_283
                            · have hf := if_t c52 hf
                              refine g_bipush C dX12_keep_250 (by decide) ?_
                              refine g_goto (tgt := 281) C dX12_keep_252 (by decide) ?_
                              refine g_iastore (N := 8) C (by decide) dX12_keep_281 rfl hb48 ?_
                              refine g_iconst C dX12_keep_282 ?_
                              obtain ⟨e1, e2⟩ := some_inv hf
                              exact g_iret C hr hlk e1 e2 dX12_keep_283
                      · have hf := if_t c35 hf
                        refine g_iload C dX12_keep_206 rfl ?_
                        refine g_iload C dX12_keep_208 rfl ?_
                        refine g_iadd C dX12_keep_210 ?_
                        refine g_goto (tgt := 234) C dX12_keep_211 (by decide) ?_
                        obtain ⟨hb59, hf⟩ := if_inv hf
                        refine g_iastore (N := 8) C (by decide) dX12_keep_234 rfl hb59 ?_
                        refine g_aload_n (i := 0) C dX12_keep_235 rfl rfl ?_
                        refine gg_X12_keptToss (i := 5) C hiX12_keep_X12 rfl dX12_keep_236 ?_
                        refine g_iload_n (i := 1) C dX12_keep_239 rfl rfl ?_
                        refine g_iload_n (i := 3) C dX12_keep_240 rfl rfl ?_
                        refine g_iconst C dX12_keep_241 ?_
                        refine g_icmp_eq (b' := 3) (tgt := 250) C dX12_keep_242 (by decide) rfl (by decide) (fun c61 => ?_) (fun c61 => ?_)
                        · have hf := if_t c61 hf
                          refine g_bipush C dX12_keep_250 (by decide) ?_
                          refine g_goto (tgt := 281) C dX12_keep_252 (by decide) ?_
                          refine g_iastore (N := 8) C (by decide) dX12_keep_281 rfl hb59 ?_
                          refine g_iconst C dX12_keep_282 ?_
                          obtain ⟨e1, e2⟩ := some_inv hf
                          exact g_iret C hr hlk e1 e2 dX12_keep_283
                        · have hf := if_f c61 hf
                          refine g_iload C dX12_keep_245 rfl ?_
                          refine g_if_ne (tgt := 255) C dX12_keep_247 (by decide) rfl (fun c63 => ?_) (fun c63 => ?_)
                          · have hf := if_f c63 hf
                            refine g_iload_n (i := 3) C dX12_keep_255 rfl rfl ?_
                            refine g_iconst C dX12_keep_256 ?_
                            refine g_icmp_ne (b' := 4) (tgt := 269) C dX12_keep_257 (by decide) rfl (by decide) (fun c64 => ?_) (fun c64 => ?_)
                            · have hf := if_f c64 hf
                              refine g_iload_n (i := 3) C dX12_keep_269 rfl rfl ?_
                              refine g_iconst C dX12_keep_270 ?_
                              refine g_icmp_ne (b' := 5) (tgt := 279) C dX12_keep_271 (by decide) rfl (by decide) (fun c65 => ?_) (fun c65 => ?_)
                              · have hf := if_f c65 hf
                                refine g_iload C dX12_keep_279 rfl ?_
                                refine g_iastore (N := 8) C (by decide) dX12_keep_281 rfl hb59 ?_
                                refine g_iconst C dX12_keep_282 ?_
                                obtain ⟨e1, e2⟩ := some_inv hf
                                exact g_iret C hr hlk e1 e2 dX12_keep_283
                              · have hf := if_t c65 hf
                                refine g_iload C dX12_keep_274 rfl ?_
                                refine g_goto (tgt := 281) C dX12_keep_276 (by decide) ?_
                                refine g_iastore (N := 8) C (by decide) dX12_keep_281 rfl hb59 ?_
                                refine g_iconst C dX12_keep_282 ?_
                                obtain ⟨e1, e2⟩ := some_inv hf
                                exact g_iret C hr hlk e1 e2 dX12_keep_283
                            · have hf := if_t c64 hf
                              refine g_sipush C dX12_keep_260 (by decide) ?_
                              refine g_iload C dX12_keep_263 rfl ?_
                              refine g_iadd C dX12_keep_265 ?_
                              refine g_goto (tgt := 281) C dX12_keep_266 (by decide) ?_
                              refine g_iastore (N := 8) C (by decide) dX12_keep_281 rfl hb59 ?_
                              refine g_iconst C dX12_keep_282 ?_
                              obtain ⟨e1, e2⟩ := some_inv hf
                              exact g_iret C hr hlk e1 e2 dX12_keep_283
                          · have hf := if_t c63 hf
                            refine g_bipush C dX12_keep_250 (by decide) ?_
                            refine g_goto (tgt := 281) C dX12_keep_252 (by decide) ?_
                            refine g_iastore (N := 8) C (by decide) dX12_keep_281 rfl hb59 ?_
                            refine g_iconst C dX12_keep_282 ?_
                            obtain ⟨e1, e2⟩ := some_inv hf
                            exact g_iret C hr hlk e1 e2 dX12_keep_283
                    · have hf := if_t c34 hf
                      refine g_iload C dX12_keep_194 rfl ?_
                      refine g_iconst C dX12_keep_196 ?_
                      refine g_iadd C dX12_keep_197 ?_
                      refine g_goto (tgt := 234) C dX12_keep_198 (by decide) ?_
                      obtain ⟨hb70, hf⟩ := if_inv hf
                      refine g_iastore (N := 8) C (by decide) dX12_keep_234 rfl hb70 ?_
                      refine g_aload_n (i := 0) C dX12_keep_235 rfl rfl ?_
                      refine gg_X12_keptToss (i := 5) C hiX12_keep_X12 rfl dX12_keep_236 ?_
                      refine g_iload_n (i := 1) C dX12_keep_239 rfl rfl ?_
                      refine g_iload_n (i := 3) C dX12_keep_240 rfl rfl ?_
                      refine g_iconst C dX12_keep_241 ?_
                      refine g_icmp_eq (b' := 3) (tgt := 250) C dX12_keep_242 (by decide) rfl (by decide) (fun c72 => ?_) (fun c72 => ?_)
                      · have hf := if_t c72 hf
                        refine g_bipush C dX12_keep_250 (by decide) ?_
                        refine g_goto (tgt := 281) C dX12_keep_252 (by decide) ?_
                        refine g_iastore (N := 8) C (by decide) dX12_keep_281 rfl hb70 ?_
                        refine g_iconst C dX12_keep_282 ?_
                        obtain ⟨e1, e2⟩ := some_inv hf
                        exact g_iret C hr hlk e1 e2 dX12_keep_283
                      · have hf := if_f c72 hf
                        refine g_iload C dX12_keep_245 rfl ?_
                        refine g_if_ne (tgt := 255) C dX12_keep_247 (by decide) rfl (fun c74 => ?_) (fun c74 => ?_)
                        · have hf := if_f c74 hf
                          refine g_iload_n (i := 3) C dX12_keep_255 rfl rfl ?_
                          refine g_iconst C dX12_keep_256 ?_
                          refine g_icmp_ne (b' := 4) (tgt := 269) C dX12_keep_257 (by decide) rfl (by decide) (fun c75 => ?_) (fun c75 => ?_)
                          · have hf := if_f c75 hf
                            refine g_iload_n (i := 3) C dX12_keep_269 rfl rfl ?_
                            refine g_iconst C dX12_keep_270 ?_
                            refine g_icmp_ne (b' := 5) (tgt := 279) C dX12_keep_271 (by decide) rfl (by decide) (fun c76 => ?_) (fun c76 => ?_)
                            · have hf := if_f c76 hf
                              refine g_iload C dX12_keep_279 rfl ?_
                              refine g_iastore (N := 8) C (by decide) dX12_keep_281 rfl hb70 ?_
                              refine g_iconst C dX12_keep_282 ?_
                              obtain ⟨e1, e2⟩ := some_inv hf
                              exact g_iret C hr hlk e1 e2 dX12_keep_283
                            · have hf := if_t c76 hf
                              refine g_iload C dX12_keep_274 rfl ?_
                              refine g_goto (tgt := 281) C dX12_keep_276 (by decide) ?_
                              refine g_iastore (N := 8) C (by decide) dX12_keep_281 rfl hb70 ?_
                              refine g_iconst C dX12_keep_282 ?_
                              obtain ⟨e1, e2⟩ := some_inv hf
                              exact g_iret C hr hlk e1 e2 dX12_keep_283
                          · have hf := if_t c75 hf
                            refine g_sipush C dX12_keep_260 (by decide) ?_
                            refine g_iload C dX12_keep_263 rfl ?_
                            refine g_iadd C dX12_keep_265 ?_
                            refine g_goto (tgt := 281) C dX12_keep_266 (by decide) ?_
                            refine g_iastore (N := 8) C (by decide) dX12_keep_281 rfl hb70 ?_
                            refine g_iconst C dX12_keep_282 ?_
                            obtain ⟨e1, e2⟩ := some_inv hf
                            exact g_iret C hr hlk e1 e2 dX12_keep_283
                        · have hf := if_t c74 hf
                          refine g_bipush C dX12_keep_250 (by decide) ?_
                          refine g_goto (tgt := 281) C dX12_keep_252 (by decide) ?_
                          refine g_iastore (N := 8) C (by decide) dX12_keep_281 rfl hb70 ?_
                          refine g_iconst C dX12_keep_282 ?_
                          obtain ⟨e1, e2⟩ := some_inv hf
                          exact g_iret C hr hlk e1 e2 dX12_keep_283
                  · have hf := if_t c33 hf
                    refine g_iconst C dX12_keep_182 ?_
                    refine g_iload C dX12_keep_183 rfl ?_
                    refine g_imul C dX12_keep_185 ?_
                    refine g_goto (tgt := 234) C dX12_keep_186 (by decide) ?_
                    obtain ⟨hb81, hf⟩ := if_inv hf
                    refine g_iastore (N := 8) C (by decide) dX12_keep_234 rfl hb81 ?_
                    refine g_aload_n (i := 0) C dX12_keep_235 rfl rfl ?_
                    refine gg_X12_keptToss (i := 5) C hiX12_keep_X12 rfl dX12_keep_236 ?_
                    refine g_iload_n (i := 1) C dX12_keep_239 rfl rfl ?_
                    refine g_iload_n (i := 3) C dX12_keep_240 rfl rfl ?_
                    refine g_iconst C dX12_keep_241 ?_
                    refine g_icmp_eq (b' := 3) (tgt := 250) C dX12_keep_242 (by decide) rfl (by decide) (fun c83 => ?_) (fun c83 => ?_)
                    · have hf := if_t c83 hf
                      refine g_bipush C dX12_keep_250 (by decide) ?_
                      refine g_goto (tgt := 281) C dX12_keep_252 (by decide) ?_
                      refine g_iastore (N := 8) C (by decide) dX12_keep_281 rfl hb81 ?_
                      refine g_iconst C dX12_keep_282 ?_
                      obtain ⟨e1, e2⟩ := some_inv hf
                      exact g_iret C hr hlk e1 e2 dX12_keep_283
                    · have hf := if_f c83 hf
                      refine g_iload C dX12_keep_245 rfl ?_
                      refine g_if_ne (tgt := 255) C dX12_keep_247 (by decide) rfl (fun c85 => ?_) (fun c85 => ?_)
                      · have hf := if_f c85 hf
                        refine g_iload_n (i := 3) C dX12_keep_255 rfl rfl ?_
                        refine g_iconst C dX12_keep_256 ?_
                        refine g_icmp_ne (b' := 4) (tgt := 269) C dX12_keep_257 (by decide) rfl (by decide) (fun c86 => ?_) (fun c86 => ?_)
                        · have hf := if_f c86 hf
                          refine g_iload_n (i := 3) C dX12_keep_269 rfl rfl ?_
                          refine g_iconst C dX12_keep_270 ?_
                          refine g_icmp_ne (b' := 5) (tgt := 279) C dX12_keep_271 (by decide) rfl (by decide) (fun c87 => ?_) (fun c87 => ?_)
                          · have hf := if_f c87 hf
                            refine g_iload C dX12_keep_279 rfl ?_
                            refine g_iastore (N := 8) C (by decide) dX12_keep_281 rfl hb81 ?_
                            refine g_iconst C dX12_keep_282 ?_
                            obtain ⟨e1, e2⟩ := some_inv hf
                            exact g_iret C hr hlk e1 e2 dX12_keep_283
                          · have hf := if_t c87 hf
                            refine g_iload C dX12_keep_274 rfl ?_
                            refine g_goto (tgt := 281) C dX12_keep_276 (by decide) ?_
                            refine g_iastore (N := 8) C (by decide) dX12_keep_281 rfl hb81 ?_
                            refine g_iconst C dX12_keep_282 ?_
                            obtain ⟨e1, e2⟩ := some_inv hf
                            exact g_iret C hr hlk e1 e2 dX12_keep_283
                        · have hf := if_t c86 hf
                          refine g_sipush C dX12_keep_260 (by decide) ?_
                          refine g_iload C dX12_keep_263 rfl ?_
                          refine g_iadd C dX12_keep_265 ?_
                          refine g_goto (tgt := 281) C dX12_keep_266 (by decide) ?_
                          refine g_iastore (N := 8) C (by decide) dX12_keep_281 rfl hb81 ?_
                          refine g_iconst C dX12_keep_282 ?_
                          obtain ⟨e1, e2⟩ := some_inv hf
                          exact g_iret C hr hlk e1 e2 dX12_keep_283
                      · have hf := if_t c85 hf
                        refine g_bipush C dX12_keep_250 (by decide) ?_
                        refine g_goto (tgt := 281) C dX12_keep_252 (by decide) ?_
                        refine g_iastore (N := 8) C (by decide) dX12_keep_281 rfl hb81 ?_
                        refine g_iconst C dX12_keep_282 ?_
                        obtain ⟨e1, e2⟩ := some_inv hf
                        exact g_iret C hr hlk e1 e2 dX12_keep_283
                · have hf := if_t c32 hf
                  refine g_iload C dX12_keep_172 rfl ?_
                  refine g_goto (tgt := 234) C dX12_keep_174 (by decide) ?_
                  obtain ⟨hb92, hf⟩ := if_inv hf
                  refine g_iastore (N := 8) C (by decide) dX12_keep_234 rfl hb92 ?_
                  refine g_aload_n (i := 0) C dX12_keep_235 rfl rfl ?_
                  refine gg_X12_keptToss (i := 5) C hiX12_keep_X12 rfl dX12_keep_236 ?_
                  refine g_iload_n (i := 1) C dX12_keep_239 rfl rfl ?_
                  refine g_iload_n (i := 3) C dX12_keep_240 rfl rfl ?_
                  refine g_iconst C dX12_keep_241 ?_
                  refine g_icmp_eq (b' := 3) (tgt := 250) C dX12_keep_242 (by decide) rfl (by decide) (fun c94 => ?_) (fun c94 => ?_)
                  · have hf := if_t c94 hf
                    refine g_bipush C dX12_keep_250 (by decide) ?_
                    refine g_goto (tgt := 281) C dX12_keep_252 (by decide) ?_
                    refine g_iastore (N := 8) C (by decide) dX12_keep_281 rfl hb92 ?_
                    refine g_iconst C dX12_keep_282 ?_
                    obtain ⟨e1, e2⟩ := some_inv hf
                    exact g_iret C hr hlk e1 e2 dX12_keep_283
                  · have hf := if_f c94 hf
                    refine g_iload C dX12_keep_245 rfl ?_
                    refine g_if_ne (tgt := 255) C dX12_keep_247 (by decide) rfl (fun c96 => ?_) (fun c96 => ?_)
                    · have hf := if_f c96 hf
                      refine g_iload_n (i := 3) C dX12_keep_255 rfl rfl ?_
                      refine g_iconst C dX12_keep_256 ?_
                      refine g_icmp_ne (b' := 4) (tgt := 269) C dX12_keep_257 (by decide) rfl (by decide) (fun c97 => ?_) (fun c97 => ?_)
                      · have hf := if_f c97 hf
                        refine g_iload_n (i := 3) C dX12_keep_269 rfl rfl ?_
                        refine g_iconst C dX12_keep_270 ?_
                        refine g_icmp_ne (b' := 5) (tgt := 279) C dX12_keep_271 (by decide) rfl (by decide) (fun c98 => ?_) (fun c98 => ?_)
                        · have hf := if_f c98 hf
                          refine g_iload C dX12_keep_279 rfl ?_
                          refine g_iastore (N := 8) C (by decide) dX12_keep_281 rfl hb92 ?_
                          refine g_iconst C dX12_keep_282 ?_
                          obtain ⟨e1, e2⟩ := some_inv hf
                          exact g_iret C hr hlk e1 e2 dX12_keep_283
                        · have hf := if_t c98 hf
                          refine g_iload C dX12_keep_274 rfl ?_
                          refine g_goto (tgt := 281) C dX12_keep_276 (by decide) ?_
                          refine g_iastore (N := 8) C (by decide) dX12_keep_281 rfl hb92 ?_
                          refine g_iconst C dX12_keep_282 ?_
                          obtain ⟨e1, e2⟩ := some_inv hf
                          exact g_iret C hr hlk e1 e2 dX12_keep_283
                      · have hf := if_t c97 hf
                        refine g_sipush C dX12_keep_260 (by decide) ?_
                        refine g_iload C dX12_keep_263 rfl ?_
                        refine g_iadd C dX12_keep_265 ?_
                        refine g_goto (tgt := 281) C dX12_keep_266 (by decide) ?_
                        refine g_iastore (N := 8) C (by decide) dX12_keep_281 rfl hb92 ?_
                        refine g_iconst C dX12_keep_282 ?_
                        obtain ⟨e1, e2⟩ := some_inv hf
                        exact g_iret C hr hlk e1 e2 dX12_keep_283
                    · have hf := if_t c96 hf
                      refine g_bipush C dX12_keep_250 (by decide) ?_
                      refine g_goto (tgt := 281) C dX12_keep_252 (by decide) ?_
                      refine g_iastore (N := 8) C (by decide) dX12_keep_281 rfl hb92 ?_
                      refine g_iconst C dX12_keep_282 ?_
                      obtain ⟨e1, e2⟩ := some_inv hf
                      exact g_iret C hr hlk e1 e2 dX12_keep_283
          · have hf := if_t c13 hf
            refine g_iconst C dX12_keep_73 ?_
            obtain ⟨e1, e2⟩ := some_inv hf
            exact g_iret C hr hlk e1 e2 dX12_keep_74
        · have hf := if_t c10 hf
          refine g_iload_n (i := 3) C dX12_keep_39 rfl rfl ?_
          refine g_i2l C dX12_keep_40 rfl ?_
          refine g_lconst (z := 0) C dX12_keep_41 (by decide) ?_
          refine g_ldc2 (i := 1) (z := 5) C dX12_keep_42 rfl (by decide) ?_
          obtain ⟨r104, σ103, h105, hf⟩ := ob_inv hf
          refine g_callSi C (c_X12_isIn  h105) (va_cwS 3 C.2.2.2.2.1 gX12_keep_X12_isIn rfl rfl rfl (by decide +kernel) ⟨Nat.le_of_ble_eq_true rfl, Nat.le_of_ble_eq_true rfl⟩) rfl rfl (Nat.le_of_ble_eq_true rfl) dX12_keep_45 ⟨Nat.zero_le _, Nat.zero_le _⟩ ?_
          refine g_if_eq (tgt := 60) C dX12_keep_48 (by decide) rfl (fun c106 => ?_) (fun c106 => ?_)
          · have hf := if_t c106 hf
            refine g_iconst C dX12_keep_60 ?_
            obtain ⟨e1, e2⟩ := some_inv hf
            exact g_iret C hr hlk e1 e2 dX12_keep_61
          · have hf := if_f c106 hf
            refine g_aload_n (i := 0) C dX12_keep_51 rfl rfl ?_
            refine g_iload C dX12_keep_52 rfl ?_
            obtain ⟨r108, σ107, h109, hf⟩ := ob_inv hf
            refine g_callVi C (c_X12_isFit  h109) (cwV 1 C.2.2.2.2.1 gX12_keep_X12_isFit rfl rfl rfl (by decide +kernel) ⟨Nat.le_of_ble_eq_true rfl, Nat.le_of_ble_eq_true rfl⟩) ob_X12 rfl rfl rfl rfl (Nat.le_of_ble_eq_true rfl) dX12_keep_54 ⟨Nat.zero_le _, Nat.zero_le _⟩ ?_
            refine g_if_ne (tgt := 62) C dX12_keep_57 (by decide) rfl (fun c110 => ?_) (fun c110 => ?_)
            · have hf := if_f c110 hf
              refine g_aload_n (i := 0) C dX12_keep_62 rfl rfl ?_
              refine gg_X12_kept (i := 2) C hiX12_keep_X12 rfl dX12_keep_63 ?_
              refine g_iload_n (i := 1) C dX12_keep_66 rfl rfl ?_
              refine g_iload_n (i := 2) C dX12_keep_67 rfl rfl ?_
              obtain ⟨hb111, hf⟩ := if_inv hf
              refine g_iastore (N := 8) C (by decide) dX12_keep_68 rfl hb111 ?_
              refine g_iload_n (i := 2) C dX12_keep_69 rfl rfl ?_
              refine g_if_ne (tgt := 75) C dX12_keep_70 (by decide) rfl (fun c113 => ?_) (fun c113 => ?_)
              · have hf := if_f c113 hf
                refine g_iconst C dX12_keep_75 ?_
                refine g_istore C dX12_keep_76 (by decide) rfl ?_
                refine g_iconst C dX12_keep_78 ?_
                refine g_istore C dX12_keep_79 (by decide) rfl ?_
                refine g_iconst C dX12_keep_81 ?_
                refine g_istore C dX12_keep_82 (by decide) rfl ?_
                obtain ⟨q114, hl115, hf⟩ := lb_inv hf
                refine g_mask [true, true, false, true, true, true, true, true] (w_X12_keep_84 C hr hlk hl115 ?_)
                · rintro y116 σ117 rfl
                  refine g_iconst C dX12_keep_122 ?_
                  refine g_istore C dX12_keep_123 (by decide) rfl ?_
                  obtain ⟨q118, hl119, hf⟩ := lb_inv hf
                  refine g_mask [true, true, false, true, true, true, true, true] (w_X12_keep_125 C hr hlk hl119 ?_)
                  · rintro y120 σ121 rfl
                    refine g_aload_n (i := 0) C dX12_keep_163 rfl rfl ?_
                    refine gg_X12_keptBreadth (i := 4) C hiX12_keep_X12 rfl dX12_keep_164 ?_
                    refine g_iload_n (i := 1) C dX12_keep_167 rfl rfl ?_
                    refine g_iload_n (i := 3) C dX12_keep_168 rfl rfl ?_
                    refine g_if_ne (tgt := 177) C dX12_keep_169 (by decide) rfl (fun c122 => ?_) (fun c122 => ?_)
                    · have hf := if_f c122 hf
                      refine g_iload_n (i := 3) C dX12_keep_177 rfl rfl ?_
                      refine g_iconst C dX12_keep_178 ?_
                      refine g_icmp_ne (b' := 1) (tgt := 189) C dX12_keep_179 (by decide) rfl (by decide) (fun c123 => ?_) (fun c123 => ?_)
                      · have hf := if_f c123 hf
                        refine g_iload_n (i := 3) C dX12_keep_189 rfl rfl ?_
                        refine g_iconst C dX12_keep_190 ?_
                        refine g_icmp_ne (b' := 2) (tgt := 201) C dX12_keep_191 (by decide) rfl (by decide) (fun c124 => ?_) (fun c124 => ?_)
                        · have hf := if_f c124 hf
                          refine g_iload_n (i := 3) C dX12_keep_201 rfl rfl ?_
                          refine g_iconst C dX12_keep_202 ?_
                          refine g_icmp_ne (b' := 3) (tgt := 214) C dX12_keep_203 (by decide) rfl (by decide) (fun c125 => ?_) (fun c125 => ?_)
                          · have hf := if_f c125 hf
                            refine g_iload_n (i := 3) C dX12_keep_214 rfl rfl ?_
                            refine g_iconst C dX12_keep_215 ?_
                            refine g_icmp_ne (b' := 4) (tgt := 228) C dX12_keep_216 (by decide) rfl (by decide) (fun c126 => ?_) (fun c126 => ?_)
                            · have hf := if_f c126 hf
                              refine g_iconst C dX12_keep_228 ?_
                              refine g_iload C dX12_keep_229 rfl ?_
                              refine g_iconst C dX12_keep_231 ?_
                              refine g_iadd C dX12_keep_232 ?_
                              refine g_imul C dX12_keep_233 ?_
                              obtain ⟨hb127, hf⟩ := if_inv hf
                              refine g_iastore (N := 8) C (by decide) dX12_keep_234 rfl hb127 ?_
                              refine g_aload_n (i := 0) C dX12_keep_235 rfl rfl ?_
                              refine gg_X12_keptToss (i := 5) C hiX12_keep_X12 rfl dX12_keep_236 ?_
                              refine g_iload_n (i := 1) C dX12_keep_239 rfl rfl ?_
                              refine g_iload_n (i := 3) C dX12_keep_240 rfl rfl ?_
                              refine g_iconst C dX12_keep_241 ?_
                              refine g_icmp_eq (b' := 3) (tgt := 250) C dX12_keep_242 (by decide) rfl (by decide) (fun c129 => ?_) (fun c129 => ?_)
                              · have hf := if_t c129 hf
                                refine g_bipush C dX12_keep_250 (by decide) ?_
                                refine g_goto (tgt := 281) C dX12_keep_252 (by decide) ?_
                                refine g_iastore (N := 8) C (by decide) dX12_keep_281 rfl hb127 ?_
                                refine g_iconst C dX12_keep_282 ?_
                                obtain ⟨e1, e2⟩ := some_inv hf
                                exact g_iret C hr hlk e1 e2 dX12_keep_283
                              · have hf := if_f c129 hf
                                refine g_iload C dX12_keep_245 rfl ?_
                                refine g_if_ne (tgt := 255) C dX12_keep_247 (by decide) rfl (fun c131 => ?_) (fun c131 => ?_)
                                · have hf := if_f c131 hf
                                  refine g_iload_n (i := 3) C dX12_keep_255 rfl rfl ?_
                                  refine g_iconst C dX12_keep_256 ?_
                                  refine g_icmp_ne (b' := 4) (tgt := 269) C dX12_keep_257 (by decide) rfl (by decide) (fun c132 => ?_) (fun c132 => ?_)
                                  · have hf := if_f c132 hf
                                    refine g_iload_n (i := 3) C dX12_keep_269 rfl rfl ?_
                                    refine g_iconst C dX12_keep_270 ?_
                                    refine g_icmp_ne (b' := 5) (tgt := 279) C dX12_keep_271 (by decide) rfl (by decide) (fun c133 => ?_) (fun c133 => ?_)
                                    · have hf := if_f c133 hf
                                      refine g_iload C dX12_keep_279 rfl ?_
                                      refine g_iastore (N := 8) C (by decide) dX12_keep_281 rfl hb127 ?_
                                      refine g_iconst C dX12_keep_282 ?_
                                      obtain ⟨e1, e2⟩ := some_inv hf
                                      exact g_iret C hr hlk e1 e2 dX12_keep_283
                                    · have hf := if_t c133 hf
                                      refine g_iload C dX12_keep_274 rfl ?_
                                      refine g_goto (tgt := 281) C dX12_keep_276 (by decide) ?_
                                      refine g_iastore (N := 8) C (by decide) dX12_keep_281 rfl hb127 ?_
                                      refine g_iconst C dX12_keep_282 ?_
                                      obtain ⟨e1, e2⟩ := some_inv hf
                                      exact g_iret C hr hlk e1 e2 dX12_keep_283
                                  · have hf := if_t c132 hf
                                    refine g_sipush C dX12_keep_260 (by decide) ?_
                                    refine g_iload C dX12_keep_263 rfl ?_
                                    refine g_iadd C dX12_keep_265 ?_
                                    refine g_goto (tgt := 281) C dX12_keep_266 (by decide) ?_
                                    refine g_iastore (N := 8) C (by decide) dX12_keep_281 rfl hb127 ?_
                                    refine g_iconst C dX12_keep_282 ?_
                                    obtain ⟨e1, e2⟩ := some_inv hf
                                    exact g_iret C hr hlk e1 e2 dX12_keep_283
                                · have hf := if_t c131 hf
                                  refine g_bipush C dX12_keep_250 (by decide) ?_
                                  refine g_goto (tgt := 281) C dX12_keep_252 (by decide) ?_
                                  refine g_iastore (N := 8) C (by decide) dX12_keep_281 rfl hb127 ?_
                                  refine g_iconst C dX12_keep_282 ?_
                                  obtain ⟨e1, e2⟩ := some_inv hf
                                  exact g_iret C hr hlk e1 e2 dX12_keep_283
                            · have hf := if_t c126 hf
                              refine g_iconst C dX12_keep_219 ?_
                              refine g_iload C dX12_keep_220 rfl ?_
                              refine g_imul C dX12_keep_222 ?_
                              refine g_iconst C dX12_keep_223 ?_
                              refine g_iadd C dX12_keep_224 ?_
                              refine g_goto (tgt := 234) C dX12_keep_225 (by decide) ?_
                              obtain ⟨hb138, hf⟩ := if_inv hf
                              refine g_iastore (N := 8) C (by decide) dX12_keep_234 rfl hb138 ?_
                              refine g_aload_n (i := 0) C dX12_keep_235 rfl rfl ?_
                              refine gg_X12_keptToss (i := 5) C hiX12_keep_X12 rfl dX12_keep_236 ?_
                              refine g_iload_n (i := 1) C dX12_keep_239 rfl rfl ?_
                              refine g_iload_n (i := 3) C dX12_keep_240 rfl rfl ?_
                              refine g_iconst C dX12_keep_241 ?_
                              refine g_icmp_eq (b' := 3) (tgt := 250) C dX12_keep_242 (by decide) rfl (by decide) (fun c140 => ?_) (fun c140 => ?_)
                              · have hf := if_t c140 hf
                                refine g_bipush C dX12_keep_250 (by decide) ?_
                                refine g_goto (tgt := 281) C dX12_keep_252 (by decide) ?_
                                refine g_iastore (N := 8) C (by decide) dX12_keep_281 rfl hb138 ?_
                                refine g_iconst C dX12_keep_282 ?_
                                obtain ⟨e1, e2⟩ := some_inv hf
                                exact g_iret C hr hlk e1 e2 dX12_keep_283
                              · have hf := if_f c140 hf
                                refine g_iload C dX12_keep_245 rfl ?_
                                refine g_if_ne (tgt := 255) C dX12_keep_247 (by decide) rfl (fun c142 => ?_) (fun c142 => ?_)
                                · have hf := if_f c142 hf
                                  refine g_iload_n (i := 3) C dX12_keep_255 rfl rfl ?_
                                  refine g_iconst C dX12_keep_256 ?_
                                  refine g_icmp_ne (b' := 4) (tgt := 269) C dX12_keep_257 (by decide) rfl (by decide) (fun c143 => ?_) (fun c143 => ?_)
                                  · have hf := if_f c143 hf
                                    refine g_iload_n (i := 3) C dX12_keep_269 rfl rfl ?_
                                    refine g_iconst C dX12_keep_270 ?_
                                    refine g_icmp_ne (b' := 5) (tgt := 279) C dX12_keep_271 (by decide) rfl (by decide) (fun c144 => ?_) (fun c144 => ?_)
                                    · have hf := if_f c144 hf
                                      refine g_iload C dX12_keep_279 rfl ?_
                                      refine g_iastore (N := 8) C (by decide) dX12_keep_281 rfl hb138 ?_
                                      refine g_iconst C dX12_keep_282 ?_
                                      obtain ⟨e1, e2⟩ := some_inv hf
                                      exact g_iret C hr hlk e1 e2 dX12_keep_283
                                    · have hf := if_t c144 hf
                                      refine g_iload C dX12_keep_274 rfl ?_
                                      refine g_goto (tgt := 281) C dX12_keep_276 (by decide) ?_
                                      refine g_iastore (N := 8) C (by decide) dX12_keep_281 rfl hb138 ?_
                                      refine g_iconst C dX12_keep_282 ?_
                                      obtain ⟨e1, e2⟩ := some_inv hf
                                      exact g_iret C hr hlk e1 e2 dX12_keep_283
                                  · have hf := if_t c143 hf
                                    refine g_sipush C dX12_keep_260 (by decide) ?_
                                    refine g_iload C dX12_keep_263 rfl ?_
                                    refine g_iadd C dX12_keep_265 ?_
                                    refine g_goto (tgt := 281) C dX12_keep_266 (by decide) ?_
                                    refine g_iastore (N := 8) C (by decide) dX12_keep_281 rfl hb138 ?_
                                    refine g_iconst C dX12_keep_282 ?_
                                    obtain ⟨e1, e2⟩ := some_inv hf
                                    exact g_iret C hr hlk e1 e2 dX12_keep_283
                                · have hf := if_t c142 hf
                                  refine g_bipush C dX12_keep_250 (by decide) ?_
                                  refine g_goto (tgt := 281) C dX12_keep_252 (by decide) ?_
                                  refine g_iastore (N := 8) C (by decide) dX12_keep_281 rfl hb138 ?_
                                  refine g_iconst C dX12_keep_282 ?_
                                  obtain ⟨e1, e2⟩ := some_inv hf
                                  exact g_iret C hr hlk e1 e2 dX12_keep_283
                          · have hf := if_t c125 hf
                            refine g_iload C dX12_keep_206 rfl ?_
                            refine g_iload C dX12_keep_208 rfl ?_
                            refine g_iadd C dX12_keep_210 ?_
                            refine g_goto (tgt := 234) C dX12_keep_211 (by decide) ?_
                            obtain ⟨hb149, hf⟩ := if_inv hf
                            refine g_iastore (N := 8) C (by decide) dX12_keep_234 rfl hb149 ?_
                            refine g_aload_n (i := 0) C dX12_keep_235 rfl rfl ?_
                            refine gg_X12_keptToss (i := 5) C hiX12_keep_X12 rfl dX12_keep_236 ?_
                            refine g_iload_n (i := 1) C dX12_keep_239 rfl rfl ?_
                            refine g_iload_n (i := 3) C dX12_keep_240 rfl rfl ?_
                            refine g_iconst C dX12_keep_241 ?_
                            refine g_icmp_eq (b' := 3) (tgt := 250) C dX12_keep_242 (by decide) rfl (by decide) (fun c151 => ?_) (fun c151 => ?_)
                            · have hf := if_t c151 hf
                              refine g_bipush C dX12_keep_250 (by decide) ?_
                              refine g_goto (tgt := 281) C dX12_keep_252 (by decide) ?_
                              refine g_iastore (N := 8) C (by decide) dX12_keep_281 rfl hb149 ?_
                              refine g_iconst C dX12_keep_282 ?_
                              obtain ⟨e1, e2⟩ := some_inv hf
                              exact g_iret C hr hlk e1 e2 dX12_keep_283
                            · have hf := if_f c151 hf
                              refine g_iload C dX12_keep_245 rfl ?_
                              refine g_if_ne (tgt := 255) C dX12_keep_247 (by decide) rfl (fun c153 => ?_) (fun c153 => ?_)
                              · have hf := if_f c153 hf
                                refine g_iload_n (i := 3) C dX12_keep_255 rfl rfl ?_
                                refine g_iconst C dX12_keep_256 ?_
                                refine g_icmp_ne (b' := 4) (tgt := 269) C dX12_keep_257 (by decide) rfl (by decide) (fun c154 => ?_) (fun c154 => ?_)
                                · have hf := if_f c154 hf
                                  refine g_iload_n (i := 3) C dX12_keep_269 rfl rfl ?_
                                  refine g_iconst C dX12_keep_270 ?_
                                  refine g_icmp_ne (b' := 5) (tgt := 279) C dX12_keep_271 (by decide) rfl (by decide) (fun c155 => ?_) (fun c155 => ?_)
                                  · have hf := if_f c155 hf
                                    refine g_iload C dX12_keep_279 rfl ?_
                                    refine g_iastore (N := 8) C (by decide) dX12_keep_281 rfl hb149 ?_
                                    refine g_iconst C dX12_keep_282 ?_
                                    obtain ⟨e1, e2⟩ := some_inv hf
                                    exact g_iret C hr hlk e1 e2 dX12_keep_283
                                  · have hf := if_t c155 hf
                                    refine g_iload C dX12_keep_274 rfl ?_
                                    refine g_goto (tgt := 281) C dX12_keep_276 (by decide) ?_
                                    refine g_iastore (N := 8) C (by decide) dX12_keep_281 rfl hb149 ?_
                                    refine g_iconst C dX12_keep_282 ?_
                                    obtain ⟨e1, e2⟩ := some_inv hf
                                    exact g_iret C hr hlk e1 e2 dX12_keep_283
                                · have hf := if_t c154 hf
                                  refine g_sipush C dX12_keep_260 (by decide) ?_
                                  refine g_iload C dX12_keep_263 rfl ?_
                                  refine g_iadd C dX12_keep_265 ?_
                                  refine g_goto (tgt := 281) C dX12_keep_266 (by decide) ?_
                                  refine g_iastore (N := 8) C (by decide) dX12_keep_281 rfl hb149 ?_
                                  refine g_iconst C dX12_keep_282 ?_
                                  obtain ⟨e1, e2⟩ := some_inv hf
                                  exact g_iret C hr hlk e1 e2 dX12_keep_283
                              · have hf := if_t c153 hf
                                refine g_bipush C dX12_keep_250 (by decide) ?_
                                refine g_goto (tgt := 281) C dX12_keep_252 (by decide) ?_
                                refine g_iastore (N := 8) C (by decide) dX12_keep_281 rfl hb149 ?_
                                refine g_iconst C dX12_keep_282 ?_
                                obtain ⟨e1, e2⟩ := some_inv hf
                                exact g_iret C hr hlk e1 e2 dX12_keep_283
                        · have hf := if_t c124 hf
                          refine g_iload C dX12_keep_194 rfl ?_
                          refine g_iconst C dX12_keep_196 ?_
                          refine g_iadd C dX12_keep_197 ?_
                          refine g_goto (tgt := 234) C dX12_keep_198 (by decide) ?_
                          obtain ⟨hb160, hf⟩ := if_inv hf
                          refine g_iastore (N := 8) C (by decide) dX12_keep_234 rfl hb160 ?_
                          refine g_aload_n (i := 0) C dX12_keep_235 rfl rfl ?_
                          refine gg_X12_keptToss (i := 5) C hiX12_keep_X12 rfl dX12_keep_236 ?_
                          refine g_iload_n (i := 1) C dX12_keep_239 rfl rfl ?_
                          refine g_iload_n (i := 3) C dX12_keep_240 rfl rfl ?_
                          refine g_iconst C dX12_keep_241 ?_
                          refine g_icmp_eq (b' := 3) (tgt := 250) C dX12_keep_242 (by decide) rfl (by decide) (fun c162 => ?_) (fun c162 => ?_)
                          · have hf := if_t c162 hf
                            refine g_bipush C dX12_keep_250 (by decide) ?_
                            refine g_goto (tgt := 281) C dX12_keep_252 (by decide) ?_
                            refine g_iastore (N := 8) C (by decide) dX12_keep_281 rfl hb160 ?_
                            refine g_iconst C dX12_keep_282 ?_
                            obtain ⟨e1, e2⟩ := some_inv hf
                            exact g_iret C hr hlk e1 e2 dX12_keep_283
                          · have hf := if_f c162 hf
                            refine g_iload C dX12_keep_245 rfl ?_
                            refine g_if_ne (tgt := 255) C dX12_keep_247 (by decide) rfl (fun c164 => ?_) (fun c164 => ?_)
                            · have hf := if_f c164 hf
                              refine g_iload_n (i := 3) C dX12_keep_255 rfl rfl ?_
                              refine g_iconst C dX12_keep_256 ?_
                              refine g_icmp_ne (b' := 4) (tgt := 269) C dX12_keep_257 (by decide) rfl (by decide) (fun c165 => ?_) (fun c165 => ?_)
                              · have hf := if_f c165 hf
                                refine g_iload_n (i := 3) C dX12_keep_269 rfl rfl ?_
                                refine g_iconst C dX12_keep_270 ?_
                                refine g_icmp_ne (b' := 5) (tgt := 279) C dX12_keep_271 (by decide) rfl (by decide) (fun c166 => ?_) (fun c166 => ?_)
                                · have hf := if_f c166 hf
                                  refine g_iload C dX12_keep_279 rfl ?_
                                  refine g_iastore (N := 8) C (by decide) dX12_keep_281 rfl hb160 ?_
                                  refine g_iconst C dX12_keep_282 ?_
                                  obtain ⟨e1, e2⟩ := some_inv hf
                                  exact g_iret C hr hlk e1 e2 dX12_keep_283
                                · have hf := if_t c166 hf
                                  refine g_iload C dX12_keep_274 rfl ?_
                                  refine g_goto (tgt := 281) C dX12_keep_276 (by decide) ?_
                                  refine g_iastore (N := 8) C (by decide) dX12_keep_281 rfl hb160 ?_
                                  refine g_iconst C dX12_keep_282 ?_
                                  obtain ⟨e1, e2⟩ := some_inv hf
                                  exact g_iret C hr hlk e1 e2 dX12_keep_283
                              · have hf := if_t c165 hf
                                refine g_sipush C dX12_keep_260 (by decide) ?_
                                refine g_iload C dX12_keep_263 rfl ?_
                                refine g_iadd C dX12_keep_265 ?_
                                refine g_goto (tgt := 281) C dX12_keep_266 (by decide) ?_
                                refine g_iastore (N := 8) C (by decide) dX12_keep_281 rfl hb160 ?_
                                refine g_iconst C dX12_keep_282 ?_
                                obtain ⟨e1, e2⟩ := some_inv hf
                                exact g_iret C hr hlk e1 e2 dX12_keep_283
                            · have hf := if_t c164 hf
                              refine g_bipush C dX12_keep_250 (by decide) ?_
                              refine g_goto (tgt := 281) C dX12_keep_252 (by decide) ?_
                              refine g_iastore (N := 8) C (by decide) dX12_keep_281 rfl hb160 ?_
                              refine g_iconst C dX12_keep_282 ?_
                              obtain ⟨e1, e2⟩ := some_inv hf
                              exact g_iret C hr hlk e1 e2 dX12_keep_283
                      · have hf := if_t c123 hf
                        refine g_iconst C dX12_keep_182 ?_
                        refine g_iload C dX12_keep_183 rfl ?_
                        refine g_imul C dX12_keep_185 ?_
                        refine g_goto (tgt := 234) C dX12_keep_186 (by decide) ?_
                        obtain ⟨hb171, hf⟩ := if_inv hf
                        refine g_iastore (N := 8) C (by decide) dX12_keep_234 rfl hb171 ?_
                        refine g_aload_n (i := 0) C dX12_keep_235 rfl rfl ?_
                        refine gg_X12_keptToss (i := 5) C hiX12_keep_X12 rfl dX12_keep_236 ?_
                        refine g_iload_n (i := 1) C dX12_keep_239 rfl rfl ?_
                        refine g_iload_n (i := 3) C dX12_keep_240 rfl rfl ?_
                        refine g_iconst C dX12_keep_241 ?_
                        refine g_icmp_eq (b' := 3) (tgt := 250) C dX12_keep_242 (by decide) rfl (by decide) (fun c173 => ?_) (fun c173 => ?_)
                        · have hf := if_t c173 hf
                          refine g_bipush C dX12_keep_250 (by decide) ?_
                          refine g_goto (tgt := 281) C dX12_keep_252 (by decide) ?_
                          refine g_iastore (N := 8) C (by decide) dX12_keep_281 rfl hb171 ?_
                          refine g_iconst C dX12_keep_282 ?_
                          obtain ⟨e1, e2⟩ := some_inv hf
                          exact g_iret C hr hlk e1 e2 dX12_keep_283
                        · have hf := if_f c173 hf
                          refine g_iload C dX12_keep_245 rfl ?_
                          refine g_if_ne (tgt := 255) C dX12_keep_247 (by decide) rfl (fun c175 => ?_) (fun c175 => ?_)
                          · have hf := if_f c175 hf
                            refine g_iload_n (i := 3) C dX12_keep_255 rfl rfl ?_
                            refine g_iconst C dX12_keep_256 ?_
                            refine g_icmp_ne (b' := 4) (tgt := 269) C dX12_keep_257 (by decide) rfl (by decide) (fun c176 => ?_) (fun c176 => ?_)
                            · have hf := if_f c176 hf
                              refine g_iload_n (i := 3) C dX12_keep_269 rfl rfl ?_
                              refine g_iconst C dX12_keep_270 ?_
                              refine g_icmp_ne (b' := 5) (tgt := 279) C dX12_keep_271 (by decide) rfl (by decide) (fun c177 => ?_) (fun c177 => ?_)
                              · have hf := if_f c177 hf
                                refine g_iload C dX12_keep_279 rfl ?_
                                refine g_iastore (N := 8) C (by decide) dX12_keep_281 rfl hb171 ?_
                                refine g_iconst C dX12_keep_282 ?_
                                obtain ⟨e1, e2⟩ := some_inv hf
                                exact g_iret C hr hlk e1 e2 dX12_keep_283
                              · have hf := if_t c177 hf
                                refine g_iload C dX12_keep_274 rfl ?_
                                refine g_goto (tgt := 281) C dX12_keep_276 (by decide) ?_
                                refine g_iastore (N := 8) C (by decide) dX12_keep_281 rfl hb171 ?_
                                refine g_iconst C dX12_keep_282 ?_
                                obtain ⟨e1, e2⟩ := some_inv hf
                                exact g_iret C hr hlk e1 e2 dX12_keep_283
                            · have hf := if_t c176 hf
                              refine g_sipush C dX12_keep_260 (by decide) ?_
                              refine g_iload C dX12_keep_263 rfl ?_
                              refine g_iadd C dX12_keep_265 ?_
                              refine g_goto (tgt := 281) C dX12_keep_266 (by decide) ?_
                              refine g_iastore (N := 8) C (by decide) dX12_keep_281 rfl hb171 ?_
                              refine g_iconst C dX12_keep_282 ?_
                              obtain ⟨e1, e2⟩ := some_inv hf
                              exact g_iret C hr hlk e1 e2 dX12_keep_283
                          · have hf := if_t c175 hf
                            refine g_bipush C dX12_keep_250 (by decide) ?_
                            refine g_goto (tgt := 281) C dX12_keep_252 (by decide) ?_
                            refine g_iastore (N := 8) C (by decide) dX12_keep_281 rfl hb171 ?_
                            refine g_iconst C dX12_keep_282 ?_
                            obtain ⟨e1, e2⟩ := some_inv hf
                            exact g_iret C hr hlk e1 e2 dX12_keep_283
                    · have hf := if_t c122 hf
                      refine g_iload C dX12_keep_172 rfl ?_
                      refine g_goto (tgt := 234) C dX12_keep_174 (by decide) ?_
                      obtain ⟨hb182, hf⟩ := if_inv hf
                      refine g_iastore (N := 8) C (by decide) dX12_keep_234 rfl hb182 ?_
                      refine g_aload_n (i := 0) C dX12_keep_235 rfl rfl ?_
                      refine gg_X12_keptToss (i := 5) C hiX12_keep_X12 rfl dX12_keep_236 ?_
                      refine g_iload_n (i := 1) C dX12_keep_239 rfl rfl ?_
                      refine g_iload_n (i := 3) C dX12_keep_240 rfl rfl ?_
                      refine g_iconst C dX12_keep_241 ?_
                      refine g_icmp_eq (b' := 3) (tgt := 250) C dX12_keep_242 (by decide) rfl (by decide) (fun c184 => ?_) (fun c184 => ?_)
                      · have hf := if_t c184 hf
                        refine g_bipush C dX12_keep_250 (by decide) ?_
                        refine g_goto (tgt := 281) C dX12_keep_252 (by decide) ?_
                        refine g_iastore (N := 8) C (by decide) dX12_keep_281 rfl hb182 ?_
                        refine g_iconst C dX12_keep_282 ?_
                        obtain ⟨e1, e2⟩ := some_inv hf
                        exact g_iret C hr hlk e1 e2 dX12_keep_283
                      · have hf := if_f c184 hf
                        refine g_iload C dX12_keep_245 rfl ?_
                        refine g_if_ne (tgt := 255) C dX12_keep_247 (by decide) rfl (fun c186 => ?_) (fun c186 => ?_)
                        · have hf := if_f c186 hf
                          refine g_iload_n (i := 3) C dX12_keep_255 rfl rfl ?_
                          refine g_iconst C dX12_keep_256 ?_
                          refine g_icmp_ne (b' := 4) (tgt := 269) C dX12_keep_257 (by decide) rfl (by decide) (fun c187 => ?_) (fun c187 => ?_)
                          · have hf := if_f c187 hf
                            refine g_iload_n (i := 3) C dX12_keep_269 rfl rfl ?_
                            refine g_iconst C dX12_keep_270 ?_
                            refine g_icmp_ne (b' := 5) (tgt := 279) C dX12_keep_271 (by decide) rfl (by decide) (fun c188 => ?_) (fun c188 => ?_)
                            · have hf := if_f c188 hf
                              refine g_iload C dX12_keep_279 rfl ?_
                              refine g_iastore (N := 8) C (by decide) dX12_keep_281 rfl hb182 ?_
                              refine g_iconst C dX12_keep_282 ?_
                              obtain ⟨e1, e2⟩ := some_inv hf
                              exact g_iret C hr hlk e1 e2 dX12_keep_283
                            · have hf := if_t c188 hf
                              refine g_iload C dX12_keep_274 rfl ?_
                              refine g_goto (tgt := 281) C dX12_keep_276 (by decide) ?_
                              refine g_iastore (N := 8) C (by decide) dX12_keep_281 rfl hb182 ?_
                              refine g_iconst C dX12_keep_282 ?_
                              obtain ⟨e1, e2⟩ := some_inv hf
                              exact g_iret C hr hlk e1 e2 dX12_keep_283
                          · have hf := if_t c187 hf
                            refine g_sipush C dX12_keep_260 (by decide) ?_
                            refine g_iload C dX12_keep_263 rfl ?_
                            refine g_iadd C dX12_keep_265 ?_
                            refine g_goto (tgt := 281) C dX12_keep_266 (by decide) ?_
                            refine g_iastore (N := 8) C (by decide) dX12_keep_281 rfl hb182 ?_
                            refine g_iconst C dX12_keep_282 ?_
                            obtain ⟨e1, e2⟩ := some_inv hf
                            exact g_iret C hr hlk e1 e2 dX12_keep_283
                        · have hf := if_t c186 hf
                          refine g_bipush C dX12_keep_250 (by decide) ?_
                          refine g_goto (tgt := 281) C dX12_keep_252 (by decide) ?_
                          refine g_iastore (N := 8) C (by decide) dX12_keep_281 rfl hb182 ?_
                          refine g_iconst C dX12_keep_282 ?_
                          obtain ⟨e1, e2⟩ := some_inv hf
                          exact g_iret C hr hlk e1 e2 dX12_keep_283
              · have hf := if_t c113 hf
                refine g_iconst C dX12_keep_73 ?_
                obtain ⟨e1, e2⟩ := some_inv hf
                exact g_iret C hr hlk e1 e2 dX12_keep_74
            · have hf := if_t c110 hf
              refine g_iconst C dX12_keep_60 ?_
              obtain ⟨e1, e2⟩ := some_inv hf
              exact g_iret C hr hlk e1 e2 dX12_keep_61
      · have hf := if_t c9 hf
        refine g_aload_n (i := 0) C dX12_keep_24 rfl rfl ?_
        obtain ⟨r194, σ193, h195, hf⟩ := ob_inv hf
        refine g_callVi C (c_X12_isOpen  h195) (cwV 0 C.2.2.2.2.1 gX12_keep_X12_isOpen rfl rfl rfl (by decide +kernel) ⟨Nat.le_of_ble_eq_true rfl, Nat.le_of_ble_eq_true rfl⟩) ob_X12 rfl rfl rfl rfl (Nat.le_of_ble_eq_true rfl) dX12_keep_25 ⟨Nat.zero_le _, Nat.zero_le _⟩ ?_
        refine g_if_ne (tgt := 34) C dX12_keep_28 (by decide) rfl (fun c196 => ?_) (fun c196 => ?_)
        · have hf := if_f c196 hf
          refine g_iload_n (i := 2) C dX12_keep_34 rfl rfl ?_
          refine g_iconst C dX12_keep_35 ?_
          refine g_icmp_ne (b' := 1) (tgt := 62) C dX12_keep_36 (by decide) rfl (by decide) (fun c197 => ?_) (fun c197 => ?_)
          · have hf := if_f c197 hf
            refine g_aload_n (i := 0) C dX12_keep_62 rfl rfl ?_
            refine gg_X12_kept (i := 2) C hiX12_keep_X12 rfl dX12_keep_63 ?_
            refine g_iload_n (i := 1) C dX12_keep_66 rfl rfl ?_
            refine g_iload_n (i := 2) C dX12_keep_67 rfl rfl ?_
            obtain ⟨hb198, hf⟩ := if_inv hf
            refine g_iastore (N := 8) C (by decide) dX12_keep_68 rfl hb198 ?_
            refine g_iload_n (i := 2) C dX12_keep_69 rfl rfl ?_
            refine g_if_ne (tgt := 75) C dX12_keep_70 (by decide) rfl (fun c200 => ?_) (fun c200 => ?_)
            · have hf := if_f c200 hf
              refine g_iconst C dX12_keep_75 ?_
              refine g_istore C dX12_keep_76 (by decide) rfl ?_
              refine g_iconst C dX12_keep_78 ?_
              refine g_istore C dX12_keep_79 (by decide) rfl ?_
              refine g_iconst C dX12_keep_81 ?_
              refine g_istore C dX12_keep_82 (by decide) rfl ?_
              obtain ⟨q201, hl202, hf⟩ := lb_inv hf
              refine g_mask [true, true, false, true, true, true, true, true] (w_X12_keep_84 C hr hlk hl202 ?_)
              · rintro y203 σ204 rfl
                refine g_iconst C dX12_keep_122 ?_
                refine g_istore C dX12_keep_123 (by decide) rfl ?_
                obtain ⟨q205, hl206, hf⟩ := lb_inv hf
                refine g_mask [true, true, false, true, true, true, true, true] (w_X12_keep_125 C hr hlk hl206 ?_)
                · rintro y207 σ208 rfl
                  refine g_aload_n (i := 0) C dX12_keep_163 rfl rfl ?_
                  refine gg_X12_keptBreadth (i := 4) C hiX12_keep_X12 rfl dX12_keep_164 ?_
                  refine g_iload_n (i := 1) C dX12_keep_167 rfl rfl ?_
                  refine g_iload_n (i := 3) C dX12_keep_168 rfl rfl ?_
                  refine g_if_ne (tgt := 177) C dX12_keep_169 (by decide) rfl (fun c209 => ?_) (fun c209 => ?_)
                  · have hf := if_f c209 hf
                    refine g_iload_n (i := 3) C dX12_keep_177 rfl rfl ?_
                    refine g_iconst C dX12_keep_178 ?_
                    refine g_icmp_ne (b' := 1) (tgt := 189) C dX12_keep_179 (by decide) rfl (by decide) (fun c210 => ?_) (fun c210 => ?_)
                    · have hf := if_f c210 hf
                      refine g_iload_n (i := 3) C dX12_keep_189 rfl rfl ?_
                      refine g_iconst C dX12_keep_190 ?_
                      refine g_icmp_ne (b' := 2) (tgt := 201) C dX12_keep_191 (by decide) rfl (by decide) (fun c211 => ?_) (fun c211 => ?_)
                      · have hf := if_f c211 hf
                        refine g_iload_n (i := 3) C dX12_keep_201 rfl rfl ?_
                        refine g_iconst C dX12_keep_202 ?_
                        refine g_icmp_ne (b' := 3) (tgt := 214) C dX12_keep_203 (by decide) rfl (by decide) (fun c212 => ?_) (fun c212 => ?_)
                        · have hf := if_f c212 hf
                          refine g_iload_n (i := 3) C dX12_keep_214 rfl rfl ?_
                          refine g_iconst C dX12_keep_215 ?_
                          refine g_icmp_ne (b' := 4) (tgt := 228) C dX12_keep_216 (by decide) rfl (by decide) (fun c213 => ?_) (fun c213 => ?_)
                          · have hf := if_f c213 hf
                            refine g_iconst C dX12_keep_228 ?_
                            refine g_iload C dX12_keep_229 rfl ?_
                            refine g_iconst C dX12_keep_231 ?_
                            refine g_iadd C dX12_keep_232 ?_
                            refine g_imul C dX12_keep_233 ?_
                            obtain ⟨hb214, hf⟩ := if_inv hf
                            refine g_iastore (N := 8) C (by decide) dX12_keep_234 rfl hb214 ?_
                            refine g_aload_n (i := 0) C dX12_keep_235 rfl rfl ?_
                            refine gg_X12_keptToss (i := 5) C hiX12_keep_X12 rfl dX12_keep_236 ?_
                            refine g_iload_n (i := 1) C dX12_keep_239 rfl rfl ?_
                            refine g_iload_n (i := 3) C dX12_keep_240 rfl rfl ?_
                            refine g_iconst C dX12_keep_241 ?_
                            refine g_icmp_eq (b' := 3) (tgt := 250) C dX12_keep_242 (by decide) rfl (by decide) (fun c216 => ?_) (fun c216 => ?_)
                            · have hf := if_t c216 hf
                              refine g_bipush C dX12_keep_250 (by decide) ?_
                              refine g_goto (tgt := 281) C dX12_keep_252 (by decide) ?_
                              refine g_iastore (N := 8) C (by decide) dX12_keep_281 rfl hb214 ?_
                              refine g_iconst C dX12_keep_282 ?_
                              obtain ⟨e1, e2⟩ := some_inv hf
                              exact g_iret C hr hlk e1 e2 dX12_keep_283
                            · have hf := if_f c216 hf
                              refine g_iload C dX12_keep_245 rfl ?_
                              refine g_if_ne (tgt := 255) C dX12_keep_247 (by decide) rfl (fun c218 => ?_) (fun c218 => ?_)
                              · have hf := if_f c218 hf
                                refine g_iload_n (i := 3) C dX12_keep_255 rfl rfl ?_
                                refine g_iconst C dX12_keep_256 ?_
                                refine g_icmp_ne (b' := 4) (tgt := 269) C dX12_keep_257 (by decide) rfl (by decide) (fun c219 => ?_) (fun c219 => ?_)
                                · have hf := if_f c219 hf
                                  refine g_iload_n (i := 3) C dX12_keep_269 rfl rfl ?_
                                  refine g_iconst C dX12_keep_270 ?_
                                  refine g_icmp_ne (b' := 5) (tgt := 279) C dX12_keep_271 (by decide) rfl (by decide) (fun c220 => ?_) (fun c220 => ?_)
                                  · have hf := if_f c220 hf
                                    refine g_iload C dX12_keep_279 rfl ?_
                                    refine g_iastore (N := 8) C (by decide) dX12_keep_281 rfl hb214 ?_
                                    refine g_iconst C dX12_keep_282 ?_
                                    obtain ⟨e1, e2⟩ := some_inv hf
                                    exact g_iret C hr hlk e1 e2 dX12_keep_283
                                  · have hf := if_t c220 hf
                                    refine g_iload C dX12_keep_274 rfl ?_
                                    refine g_goto (tgt := 281) C dX12_keep_276 (by decide) ?_
                                    refine g_iastore (N := 8) C (by decide) dX12_keep_281 rfl hb214 ?_
                                    refine g_iconst C dX12_keep_282 ?_
                                    obtain ⟨e1, e2⟩ := some_inv hf
                                    exact g_iret C hr hlk e1 e2 dX12_keep_283
                                · have hf := if_t c219 hf
                                  refine g_sipush C dX12_keep_260 (by decide) ?_
                                  refine g_iload C dX12_keep_263 rfl ?_
                                  refine g_iadd C dX12_keep_265 ?_
                                  refine g_goto (tgt := 281) C dX12_keep_266 (by decide) ?_
                                  refine g_iastore (N := 8) C (by decide) dX12_keep_281 rfl hb214 ?_
                                  refine g_iconst C dX12_keep_282 ?_
                                  obtain ⟨e1, e2⟩ := some_inv hf
                                  exact g_iret C hr hlk e1 e2 dX12_keep_283
                              · have hf := if_t c218 hf
                                refine g_bipush C dX12_keep_250 (by decide) ?_
                                refine g_goto (tgt := 281) C dX12_keep_252 (by decide) ?_
                                refine g_iastore (N := 8) C (by decide) dX12_keep_281 rfl hb214 ?_
                                refine g_iconst C dX12_keep_282 ?_
                                obtain ⟨e1, e2⟩ := some_inv hf
                                exact g_iret C hr hlk e1 e2 dX12_keep_283
                          · have hf := if_t c213 hf
                            refine g_iconst C dX12_keep_219 ?_
                            refine g_iload C dX12_keep_220 rfl ?_
                            refine g_imul C dX12_keep_222 ?_
                            refine g_iconst C dX12_keep_223 ?_
                            refine g_iadd C dX12_keep_224 ?_
                            refine g_goto (tgt := 234) C dX12_keep_225 (by decide) ?_
                            obtain ⟨hb225, hf⟩ := if_inv hf
                            refine g_iastore (N := 8) C (by decide) dX12_keep_234 rfl hb225 ?_
                            refine g_aload_n (i := 0) C dX12_keep_235 rfl rfl ?_
                            refine gg_X12_keptToss (i := 5) C hiX12_keep_X12 rfl dX12_keep_236 ?_
                            refine g_iload_n (i := 1) C dX12_keep_239 rfl rfl ?_
                            refine g_iload_n (i := 3) C dX12_keep_240 rfl rfl ?_
                            refine g_iconst C dX12_keep_241 ?_
                            refine g_icmp_eq (b' := 3) (tgt := 250) C dX12_keep_242 (by decide) rfl (by decide) (fun c227 => ?_) (fun c227 => ?_)
                            · have hf := if_t c227 hf
                              refine g_bipush C dX12_keep_250 (by decide) ?_
                              refine g_goto (tgt := 281) C dX12_keep_252 (by decide) ?_
                              refine g_iastore (N := 8) C (by decide) dX12_keep_281 rfl hb225 ?_
                              refine g_iconst C dX12_keep_282 ?_
                              obtain ⟨e1, e2⟩ := some_inv hf
                              exact g_iret C hr hlk e1 e2 dX12_keep_283
                            · have hf := if_f c227 hf
                              refine g_iload C dX12_keep_245 rfl ?_
                              refine g_if_ne (tgt := 255) C dX12_keep_247 (by decide) rfl (fun c229 => ?_) (fun c229 => ?_)
                              · have hf := if_f c229 hf
                                refine g_iload_n (i := 3) C dX12_keep_255 rfl rfl ?_
                                refine g_iconst C dX12_keep_256 ?_
                                refine g_icmp_ne (b' := 4) (tgt := 269) C dX12_keep_257 (by decide) rfl (by decide) (fun c230 => ?_) (fun c230 => ?_)
                                · have hf := if_f c230 hf
                                  refine g_iload_n (i := 3) C dX12_keep_269 rfl rfl ?_
                                  refine g_iconst C dX12_keep_270 ?_
                                  refine g_icmp_ne (b' := 5) (tgt := 279) C dX12_keep_271 (by decide) rfl (by decide) (fun c231 => ?_) (fun c231 => ?_)
                                  · have hf := if_f c231 hf
                                    refine g_iload C dX12_keep_279 rfl ?_
                                    refine g_iastore (N := 8) C (by decide) dX12_keep_281 rfl hb225 ?_
                                    refine g_iconst C dX12_keep_282 ?_
                                    obtain ⟨e1, e2⟩ := some_inv hf
                                    exact g_iret C hr hlk e1 e2 dX12_keep_283
                                  · have hf := if_t c231 hf
                                    refine g_iload C dX12_keep_274 rfl ?_
                                    refine g_goto (tgt := 281) C dX12_keep_276 (by decide) ?_
                                    refine g_iastore (N := 8) C (by decide) dX12_keep_281 rfl hb225 ?_
                                    refine g_iconst C dX12_keep_282 ?_
                                    obtain ⟨e1, e2⟩ := some_inv hf
                                    exact g_iret C hr hlk e1 e2 dX12_keep_283
                                · have hf := if_t c230 hf
                                  refine g_sipush C dX12_keep_260 (by decide) ?_
                                  refine g_iload C dX12_keep_263 rfl ?_
                                  refine g_iadd C dX12_keep_265 ?_
                                  refine g_goto (tgt := 281) C dX12_keep_266 (by decide) ?_
                                  refine g_iastore (N := 8) C (by decide) dX12_keep_281 rfl hb225 ?_
                                  refine g_iconst C dX12_keep_282 ?_
                                  obtain ⟨e1, e2⟩ := some_inv hf
                                  exact g_iret C hr hlk e1 e2 dX12_keep_283
                              · have hf := if_t c229 hf
                                refine g_bipush C dX12_keep_250 (by decide) ?_
                                refine g_goto (tgt := 281) C dX12_keep_252 (by decide) ?_
                                refine g_iastore (N := 8) C (by decide) dX12_keep_281 rfl hb225 ?_
                                refine g_iconst C dX12_keep_282 ?_
                                obtain ⟨e1, e2⟩ := some_inv hf
                                exact g_iret C hr hlk e1 e2 dX12_keep_283
                        · have hf := if_t c212 hf
                          refine g_iload C dX12_keep_206 rfl ?_
                          refine g_iload C dX12_keep_208 rfl ?_
                          refine g_iadd C dX12_keep_210 ?_
                          refine g_goto (tgt := 234) C dX12_keep_211 (by decide) ?_
                          obtain ⟨hb236, hf⟩ := if_inv hf
                          refine g_iastore (N := 8) C (by decide) dX12_keep_234 rfl hb236 ?_
                          refine g_aload_n (i := 0) C dX12_keep_235 rfl rfl ?_
                          refine gg_X12_keptToss (i := 5) C hiX12_keep_X12 rfl dX12_keep_236 ?_
                          refine g_iload_n (i := 1) C dX12_keep_239 rfl rfl ?_
                          refine g_iload_n (i := 3) C dX12_keep_240 rfl rfl ?_
                          refine g_iconst C dX12_keep_241 ?_
                          refine g_icmp_eq (b' := 3) (tgt := 250) C dX12_keep_242 (by decide) rfl (by decide) (fun c238 => ?_) (fun c238 => ?_)
                          · have hf := if_t c238 hf
                            refine g_bipush C dX12_keep_250 (by decide) ?_
                            refine g_goto (tgt := 281) C dX12_keep_252 (by decide) ?_
                            refine g_iastore (N := 8) C (by decide) dX12_keep_281 rfl hb236 ?_
                            refine g_iconst C dX12_keep_282 ?_
                            obtain ⟨e1, e2⟩ := some_inv hf
                            exact g_iret C hr hlk e1 e2 dX12_keep_283
                          · have hf := if_f c238 hf
                            refine g_iload C dX12_keep_245 rfl ?_
                            refine g_if_ne (tgt := 255) C dX12_keep_247 (by decide) rfl (fun c240 => ?_) (fun c240 => ?_)
                            · have hf := if_f c240 hf
                              refine g_iload_n (i := 3) C dX12_keep_255 rfl rfl ?_
                              refine g_iconst C dX12_keep_256 ?_
                              refine g_icmp_ne (b' := 4) (tgt := 269) C dX12_keep_257 (by decide) rfl (by decide) (fun c241 => ?_) (fun c241 => ?_)
                              · have hf := if_f c241 hf
                                refine g_iload_n (i := 3) C dX12_keep_269 rfl rfl ?_
                                refine g_iconst C dX12_keep_270 ?_
                                refine g_icmp_ne (b' := 5) (tgt := 279) C dX12_keep_271 (by decide) rfl (by decide) (fun c242 => ?_) (fun c242 => ?_)
                                · have hf := if_f c242 hf
                                  refine g_iload C dX12_keep_279 rfl ?_
                                  refine g_iastore (N := 8) C (by decide) dX12_keep_281 rfl hb236 ?_
                                  refine g_iconst C dX12_keep_282 ?_
                                  obtain ⟨e1, e2⟩ := some_inv hf
                                  exact g_iret C hr hlk e1 e2 dX12_keep_283
                                · have hf := if_t c242 hf
                                  refine g_iload C dX12_keep_274 rfl ?_
                                  refine g_goto (tgt := 281) C dX12_keep_276 (by decide) ?_
                                  refine g_iastore (N := 8) C (by decide) dX12_keep_281 rfl hb236 ?_
                                  refine g_iconst C dX12_keep_282 ?_
                                  obtain ⟨e1, e2⟩ := some_inv hf
                                  exact g_iret C hr hlk e1 e2 dX12_keep_283
                              · have hf := if_t c241 hf
                                refine g_sipush C dX12_keep_260 (by decide) ?_
                                refine g_iload C dX12_keep_263 rfl ?_
                                refine g_iadd C dX12_keep_265 ?_
                                refine g_goto (tgt := 281) C dX12_keep_266 (by decide) ?_
                                refine g_iastore (N := 8) C (by decide) dX12_keep_281 rfl hb236 ?_
                                refine g_iconst C dX12_keep_282 ?_
                                obtain ⟨e1, e2⟩ := some_inv hf
                                exact g_iret C hr hlk e1 e2 dX12_keep_283
                            · have hf := if_t c240 hf
                              refine g_bipush C dX12_keep_250 (by decide) ?_
                              refine g_goto (tgt := 281) C dX12_keep_252 (by decide) ?_
                              refine g_iastore (N := 8) C (by decide) dX12_keep_281 rfl hb236 ?_
                              refine g_iconst C dX12_keep_282 ?_
                              obtain ⟨e1, e2⟩ := some_inv hf
                              exact g_iret C hr hlk e1 e2 dX12_keep_283
                      · have hf := if_t c211 hf
                        refine g_iload C dX12_keep_194 rfl ?_
                        refine g_iconst C dX12_keep_196 ?_
                        refine g_iadd C dX12_keep_197 ?_
                        refine g_goto (tgt := 234) C dX12_keep_198 (by decide) ?_
                        obtain ⟨hb247, hf⟩ := if_inv hf
                        refine g_iastore (N := 8) C (by decide) dX12_keep_234 rfl hb247 ?_
                        refine g_aload_n (i := 0) C dX12_keep_235 rfl rfl ?_
                        refine gg_X12_keptToss (i := 5) C hiX12_keep_X12 rfl dX12_keep_236 ?_
                        refine g_iload_n (i := 1) C dX12_keep_239 rfl rfl ?_
                        refine g_iload_n (i := 3) C dX12_keep_240 rfl rfl ?_
                        refine g_iconst C dX12_keep_241 ?_
                        refine g_icmp_eq (b' := 3) (tgt := 250) C dX12_keep_242 (by decide) rfl (by decide) (fun c249 => ?_) (fun c249 => ?_)
                        · have hf := if_t c249 hf
                          refine g_bipush C dX12_keep_250 (by decide) ?_
                          refine g_goto (tgt := 281) C dX12_keep_252 (by decide) ?_
                          refine g_iastore (N := 8) C (by decide) dX12_keep_281 rfl hb247 ?_
                          refine g_iconst C dX12_keep_282 ?_
                          obtain ⟨e1, e2⟩ := some_inv hf
                          exact g_iret C hr hlk e1 e2 dX12_keep_283
                        · have hf := if_f c249 hf
                          refine g_iload C dX12_keep_245 rfl ?_
                          refine g_if_ne (tgt := 255) C dX12_keep_247 (by decide) rfl (fun c251 => ?_) (fun c251 => ?_)
                          · have hf := if_f c251 hf
                            refine g_iload_n (i := 3) C dX12_keep_255 rfl rfl ?_
                            refine g_iconst C dX12_keep_256 ?_
                            refine g_icmp_ne (b' := 4) (tgt := 269) C dX12_keep_257 (by decide) rfl (by decide) (fun c252 => ?_) (fun c252 => ?_)
                            · have hf := if_f c252 hf
                              refine g_iload_n (i := 3) C dX12_keep_269 rfl rfl ?_
                              refine g_iconst C dX12_keep_270 ?_
                              refine g_icmp_ne (b' := 5) (tgt := 279) C dX12_keep_271 (by decide) rfl (by decide) (fun c253 => ?_) (fun c253 => ?_)
                              · have hf := if_f c253 hf
                                refine g_iload C dX12_keep_279 rfl ?_
                                refine g_iastore (N := 8) C (by decide) dX12_keep_281 rfl hb247 ?_
                                refine g_iconst C dX12_keep_282 ?_
                                obtain ⟨e1, e2⟩ := some_inv hf
                                exact g_iret C hr hlk e1 e2 dX12_keep_283
                              · have hf := if_t c253 hf
                                refine g_iload C dX12_keep_274 rfl ?_
                                refine g_goto (tgt := 281) C dX12_keep_276 (by decide) ?_
                                refine g_iastore (N := 8) C (by decide) dX12_keep_281 rfl hb247 ?_
                                refine g_iconst C dX12_keep_282 ?_
                                obtain ⟨e1, e2⟩ := some_inv hf
                                exact g_iret C hr hlk e1 e2 dX12_keep_283
                            · have hf := if_t c252 hf
                              refine g_sipush C dX12_keep_260 (by decide) ?_
                              refine g_iload C dX12_keep_263 rfl ?_
                              refine g_iadd C dX12_keep_265 ?_
                              refine g_goto (tgt := 281) C dX12_keep_266 (by decide) ?_
                              refine g_iastore (N := 8) C (by decide) dX12_keep_281 rfl hb247 ?_
                              refine g_iconst C dX12_keep_282 ?_
                              obtain ⟨e1, e2⟩ := some_inv hf
                              exact g_iret C hr hlk e1 e2 dX12_keep_283
                          · have hf := if_t c251 hf
                            refine g_bipush C dX12_keep_250 (by decide) ?_
                            refine g_goto (tgt := 281) C dX12_keep_252 (by decide) ?_
                            refine g_iastore (N := 8) C (by decide) dX12_keep_281 rfl hb247 ?_
                            refine g_iconst C dX12_keep_282 ?_
                            obtain ⟨e1, e2⟩ := some_inv hf
                            exact g_iret C hr hlk e1 e2 dX12_keep_283
                    · have hf := if_t c210 hf
                      refine g_iconst C dX12_keep_182 ?_
                      refine g_iload C dX12_keep_183 rfl ?_
                      refine g_imul C dX12_keep_185 ?_
                      refine g_goto (tgt := 234) C dX12_keep_186 (by decide) ?_
                      obtain ⟨hb258, hf⟩ := if_inv hf
                      refine g_iastore (N := 8) C (by decide) dX12_keep_234 rfl hb258 ?_
                      refine g_aload_n (i := 0) C dX12_keep_235 rfl rfl ?_
                      refine gg_X12_keptToss (i := 5) C hiX12_keep_X12 rfl dX12_keep_236 ?_
                      refine g_iload_n (i := 1) C dX12_keep_239 rfl rfl ?_
                      refine g_iload_n (i := 3) C dX12_keep_240 rfl rfl ?_
                      refine g_iconst C dX12_keep_241 ?_
                      refine g_icmp_eq (b' := 3) (tgt := 250) C dX12_keep_242 (by decide) rfl (by decide) (fun c260 => ?_) (fun c260 => ?_)
                      · have hf := if_t c260 hf
                        refine g_bipush C dX12_keep_250 (by decide) ?_
                        refine g_goto (tgt := 281) C dX12_keep_252 (by decide) ?_
                        refine g_iastore (N := 8) C (by decide) dX12_keep_281 rfl hb258 ?_
                        refine g_iconst C dX12_keep_282 ?_
                        obtain ⟨e1, e2⟩ := some_inv hf
                        exact g_iret C hr hlk e1 e2 dX12_keep_283
                      · have hf := if_f c260 hf
                        refine g_iload C dX12_keep_245 rfl ?_
                        refine g_if_ne (tgt := 255) C dX12_keep_247 (by decide) rfl (fun c262 => ?_) (fun c262 => ?_)
                        · have hf := if_f c262 hf
                          refine g_iload_n (i := 3) C dX12_keep_255 rfl rfl ?_
                          refine g_iconst C dX12_keep_256 ?_
                          refine g_icmp_ne (b' := 4) (tgt := 269) C dX12_keep_257 (by decide) rfl (by decide) (fun c263 => ?_) (fun c263 => ?_)
                          · have hf := if_f c263 hf
                            refine g_iload_n (i := 3) C dX12_keep_269 rfl rfl ?_
                            refine g_iconst C dX12_keep_270 ?_
                            refine g_icmp_ne (b' := 5) (tgt := 279) C dX12_keep_271 (by decide) rfl (by decide) (fun c264 => ?_) (fun c264 => ?_)
                            · have hf := if_f c264 hf
                              refine g_iload C dX12_keep_279 rfl ?_
                              refine g_iastore (N := 8) C (by decide) dX12_keep_281 rfl hb258 ?_
                              refine g_iconst C dX12_keep_282 ?_
                              obtain ⟨e1, e2⟩ := some_inv hf
                              exact g_iret C hr hlk e1 e2 dX12_keep_283
                            · have hf := if_t c264 hf
                              refine g_iload C dX12_keep_274 rfl ?_
                              refine g_goto (tgt := 281) C dX12_keep_276 (by decide) ?_
                              refine g_iastore (N := 8) C (by decide) dX12_keep_281 rfl hb258 ?_
                              refine g_iconst C dX12_keep_282 ?_
                              obtain ⟨e1, e2⟩ := some_inv hf
                              exact g_iret C hr hlk e1 e2 dX12_keep_283
                          · have hf := if_t c263 hf
                            refine g_sipush C dX12_keep_260 (by decide) ?_
                            refine g_iload C dX12_keep_263 rfl ?_
                            refine g_iadd C dX12_keep_265 ?_
                            refine g_goto (tgt := 281) C dX12_keep_266 (by decide) ?_
                            refine g_iastore (N := 8) C (by decide) dX12_keep_281 rfl hb258 ?_
                            refine g_iconst C dX12_keep_282 ?_
                            obtain ⟨e1, e2⟩ := some_inv hf
                            exact g_iret C hr hlk e1 e2 dX12_keep_283
                        · have hf := if_t c262 hf
                          refine g_bipush C dX12_keep_250 (by decide) ?_
                          refine g_goto (tgt := 281) C dX12_keep_252 (by decide) ?_
                          refine g_iastore (N := 8) C (by decide) dX12_keep_281 rfl hb258 ?_
                          refine g_iconst C dX12_keep_282 ?_
                          obtain ⟨e1, e2⟩ := some_inv hf
                          exact g_iret C hr hlk e1 e2 dX12_keep_283
                  · have hf := if_t c209 hf
                    refine g_iload C dX12_keep_172 rfl ?_
                    refine g_goto (tgt := 234) C dX12_keep_174 (by decide) ?_
                    obtain ⟨hb269, hf⟩ := if_inv hf
                    refine g_iastore (N := 8) C (by decide) dX12_keep_234 rfl hb269 ?_
                    refine g_aload_n (i := 0) C dX12_keep_235 rfl rfl ?_
                    refine gg_X12_keptToss (i := 5) C hiX12_keep_X12 rfl dX12_keep_236 ?_
                    refine g_iload_n (i := 1) C dX12_keep_239 rfl rfl ?_
                    refine g_iload_n (i := 3) C dX12_keep_240 rfl rfl ?_
                    refine g_iconst C dX12_keep_241 ?_
                    refine g_icmp_eq (b' := 3) (tgt := 250) C dX12_keep_242 (by decide) rfl (by decide) (fun c271 => ?_) (fun c271 => ?_)
                    · have hf := if_t c271 hf
                      refine g_bipush C dX12_keep_250 (by decide) ?_
                      refine g_goto (tgt := 281) C dX12_keep_252 (by decide) ?_
                      refine g_iastore (N := 8) C (by decide) dX12_keep_281 rfl hb269 ?_
                      refine g_iconst C dX12_keep_282 ?_
                      obtain ⟨e1, e2⟩ := some_inv hf
                      exact g_iret C hr hlk e1 e2 dX12_keep_283
                    · have hf := if_f c271 hf
                      refine g_iload C dX12_keep_245 rfl ?_
                      refine g_if_ne (tgt := 255) C dX12_keep_247 (by decide) rfl (fun c273 => ?_) (fun c273 => ?_)
                      · have hf := if_f c273 hf
                        refine g_iload_n (i := 3) C dX12_keep_255 rfl rfl ?_
                        refine g_iconst C dX12_keep_256 ?_
                        refine g_icmp_ne (b' := 4) (tgt := 269) C dX12_keep_257 (by decide) rfl (by decide) (fun c274 => ?_) (fun c274 => ?_)
                        · have hf := if_f c274 hf
                          refine g_iload_n (i := 3) C dX12_keep_269 rfl rfl ?_
                          refine g_iconst C dX12_keep_270 ?_
                          refine g_icmp_ne (b' := 5) (tgt := 279) C dX12_keep_271 (by decide) rfl (by decide) (fun c275 => ?_) (fun c275 => ?_)
                          · have hf := if_f c275 hf
                            refine g_iload C dX12_keep_279 rfl ?_
                            refine g_iastore (N := 8) C (by decide) dX12_keep_281 rfl hb269 ?_
                            refine g_iconst C dX12_keep_282 ?_
                            obtain ⟨e1, e2⟩ := some_inv hf
                            exact g_iret C hr hlk e1 e2 dX12_keep_283
                          · have hf := if_t c275 hf
                            refine g_iload C dX12_keep_274 rfl ?_
                            refine g_goto (tgt := 281) C dX12_keep_276 (by decide) ?_
                            refine g_iastore (N := 8) C (by decide) dX12_keep_281 rfl hb269 ?_
                            refine g_iconst C dX12_keep_282 ?_
                            obtain ⟨e1, e2⟩ := some_inv hf
                            exact g_iret C hr hlk e1 e2 dX12_keep_283
                        · have hf := if_t c274 hf
                          refine g_sipush C dX12_keep_260 (by decide) ?_
                          refine g_iload C dX12_keep_263 rfl ?_
                          refine g_iadd C dX12_keep_265 ?_
                          refine g_goto (tgt := 281) C dX12_keep_266 (by decide) ?_
                          refine g_iastore (N := 8) C (by decide) dX12_keep_281 rfl hb269 ?_
                          refine g_iconst C dX12_keep_282 ?_
                          obtain ⟨e1, e2⟩ := some_inv hf
                          exact g_iret C hr hlk e1 e2 dX12_keep_283
                      · have hf := if_t c273 hf
                        refine g_bipush C dX12_keep_250 (by decide) ?_
                        refine g_goto (tgt := 281) C dX12_keep_252 (by decide) ?_
                        refine g_iastore (N := 8) C (by decide) dX12_keep_281 rfl hb269 ?_
                        refine g_iconst C dX12_keep_282 ?_
                        obtain ⟨e1, e2⟩ := some_inv hf
                        exact g_iret C hr hlk e1 e2 dX12_keep_283
            · have hf := if_t c200 hf
              refine g_iconst C dX12_keep_73 ?_
              obtain ⟨e1, e2⟩ := some_inv hf
              exact g_iret C hr hlk e1 e2 dX12_keep_74
          · have hf := if_t c197 hf
            refine g_iload_n (i := 3) C dX12_keep_39 rfl rfl ?_
            refine g_i2l C dX12_keep_40 rfl ?_
            refine g_lconst (z := 0) C dX12_keep_41 (by decide) ?_
            refine g_ldc2 (i := 1) (z := 5) C dX12_keep_42 rfl (by decide) ?_
            obtain ⟨r281, σ280, h282, hf⟩ := ob_inv hf
            refine g_callSi C (c_X12_isIn  h282) (va_cwS 3 C.2.2.2.2.1 gX12_keep_X12_isIn rfl rfl rfl (by decide +kernel) ⟨Nat.le_of_ble_eq_true rfl, Nat.le_of_ble_eq_true rfl⟩) rfl rfl (Nat.le_of_ble_eq_true rfl) dX12_keep_45 ⟨Nat.zero_le _, Nat.zero_le _⟩ ?_
            refine g_if_eq (tgt := 60) C dX12_keep_48 (by decide) rfl (fun c283 => ?_) (fun c283 => ?_)
            · have hf := if_t c283 hf
              refine g_iconst C dX12_keep_60 ?_
              obtain ⟨e1, e2⟩ := some_inv hf
              exact g_iret C hr hlk e1 e2 dX12_keep_61
            · have hf := if_f c283 hf
              refine g_aload_n (i := 0) C dX12_keep_51 rfl rfl ?_
              refine g_iload C dX12_keep_52 rfl ?_
              obtain ⟨r285, σ284, h286, hf⟩ := ob_inv hf
              refine g_callVi C (c_X12_isFit  h286) (cwV 1 C.2.2.2.2.1 gX12_keep_X12_isFit rfl rfl rfl (by decide +kernel) ⟨Nat.le_of_ble_eq_true rfl, Nat.le_of_ble_eq_true rfl⟩) ob_X12 rfl rfl rfl rfl (Nat.le_of_ble_eq_true rfl) dX12_keep_54 ⟨Nat.zero_le _, Nat.zero_le _⟩ ?_
              refine g_if_ne (tgt := 62) C dX12_keep_57 (by decide) rfl (fun c287 => ?_) (fun c287 => ?_)
              · have hf := if_f c287 hf
                refine g_aload_n (i := 0) C dX12_keep_62 rfl rfl ?_
                refine gg_X12_kept (i := 2) C hiX12_keep_X12 rfl dX12_keep_63 ?_
                refine g_iload_n (i := 1) C dX12_keep_66 rfl rfl ?_
                refine g_iload_n (i := 2) C dX12_keep_67 rfl rfl ?_
                obtain ⟨hb288, hf⟩ := if_inv hf
                refine g_iastore (N := 8) C (by decide) dX12_keep_68 rfl hb288 ?_
                refine g_iload_n (i := 2) C dX12_keep_69 rfl rfl ?_
                refine g_if_ne (tgt := 75) C dX12_keep_70 (by decide) rfl (fun c290 => ?_) (fun c290 => ?_)
                · have hf := if_f c290 hf
                  refine g_iconst C dX12_keep_75 ?_
                  refine g_istore C dX12_keep_76 (by decide) rfl ?_
                  refine g_iconst C dX12_keep_78 ?_
                  refine g_istore C dX12_keep_79 (by decide) rfl ?_
                  refine g_iconst C dX12_keep_81 ?_
                  refine g_istore C dX12_keep_82 (by decide) rfl ?_
                  obtain ⟨q291, hl292, hf⟩ := lb_inv hf
                  refine g_mask [true, true, false, true, true, true, true, true] (w_X12_keep_84 C hr hlk hl292 ?_)
                  · rintro y293 σ294 rfl
                    refine g_iconst C dX12_keep_122 ?_
                    refine g_istore C dX12_keep_123 (by decide) rfl ?_
                    obtain ⟨q295, hl296, hf⟩ := lb_inv hf
                    refine g_mask [true, true, false, true, true, true, true, true] (w_X12_keep_125 C hr hlk hl296 ?_)
                    · rintro y297 σ298 rfl
                      refine g_aload_n (i := 0) C dX12_keep_163 rfl rfl ?_
                      refine gg_X12_keptBreadth (i := 4) C hiX12_keep_X12 rfl dX12_keep_164 ?_
                      refine g_iload_n (i := 1) C dX12_keep_167 rfl rfl ?_
                      refine g_iload_n (i := 3) C dX12_keep_168 rfl rfl ?_
                      refine g_if_ne (tgt := 177) C dX12_keep_169 (by decide) rfl (fun c299 => ?_) (fun c299 => ?_)
                      · have hf := if_f c299 hf
                        refine g_iload_n (i := 3) C dX12_keep_177 rfl rfl ?_
                        refine g_iconst C dX12_keep_178 ?_
                        refine g_icmp_ne (b' := 1) (tgt := 189) C dX12_keep_179 (by decide) rfl (by decide) (fun c300 => ?_) (fun c300 => ?_)
                        · have hf := if_f c300 hf
                          refine g_iload_n (i := 3) C dX12_keep_189 rfl rfl ?_
                          refine g_iconst C dX12_keep_190 ?_
                          refine g_icmp_ne (b' := 2) (tgt := 201) C dX12_keep_191 (by decide) rfl (by decide) (fun c301 => ?_) (fun c301 => ?_)
                          · have hf := if_f c301 hf
                            refine g_iload_n (i := 3) C dX12_keep_201 rfl rfl ?_
                            refine g_iconst C dX12_keep_202 ?_
                            refine g_icmp_ne (b' := 3) (tgt := 214) C dX12_keep_203 (by decide) rfl (by decide) (fun c302 => ?_) (fun c302 => ?_)
                            · have hf := if_f c302 hf
                              refine g_iload_n (i := 3) C dX12_keep_214 rfl rfl ?_
                              refine g_iconst C dX12_keep_215 ?_
                              refine g_icmp_ne (b' := 4) (tgt := 228) C dX12_keep_216 (by decide) rfl (by decide) (fun c303 => ?_) (fun c303 => ?_)
                              · have hf := if_f c303 hf
                                refine g_iconst C dX12_keep_228 ?_
                                refine g_iload C dX12_keep_229 rfl ?_
                                refine g_iconst C dX12_keep_231 ?_
                                refine g_iadd C dX12_keep_232 ?_
                                refine g_imul C dX12_keep_233 ?_
                                obtain ⟨hb304, hf⟩ := if_inv hf
                                refine g_iastore (N := 8) C (by decide) dX12_keep_234 rfl hb304 ?_
                                refine g_aload_n (i := 0) C dX12_keep_235 rfl rfl ?_
                                refine gg_X12_keptToss (i := 5) C hiX12_keep_X12 rfl dX12_keep_236 ?_
                                refine g_iload_n (i := 1) C dX12_keep_239 rfl rfl ?_
                                refine g_iload_n (i := 3) C dX12_keep_240 rfl rfl ?_
                                refine g_iconst C dX12_keep_241 ?_
                                refine g_icmp_eq (b' := 3) (tgt := 250) C dX12_keep_242 (by decide) rfl (by decide) (fun c306 => ?_) (fun c306 => ?_)
                                · have hf := if_t c306 hf
                                  refine g_bipush C dX12_keep_250 (by decide) ?_
                                  refine g_goto (tgt := 281) C dX12_keep_252 (by decide) ?_
                                  refine g_iastore (N := 8) C (by decide) dX12_keep_281 rfl hb304 ?_
                                  refine g_iconst C dX12_keep_282 ?_
                                  obtain ⟨e1, e2⟩ := some_inv hf
                                  exact g_iret C hr hlk e1 e2 dX12_keep_283
                                · have hf := if_f c306 hf
                                  refine g_iload C dX12_keep_245 rfl ?_
                                  refine g_if_ne (tgt := 255) C dX12_keep_247 (by decide) rfl (fun c308 => ?_) (fun c308 => ?_)
                                  · have hf := if_f c308 hf
                                    refine g_iload_n (i := 3) C dX12_keep_255 rfl rfl ?_
                                    refine g_iconst C dX12_keep_256 ?_
                                    refine g_icmp_ne (b' := 4) (tgt := 269) C dX12_keep_257 (by decide) rfl (by decide) (fun c309 => ?_) (fun c309 => ?_)
                                    · have hf := if_f c309 hf
                                      refine g_iload_n (i := 3) C dX12_keep_269 rfl rfl ?_
                                      refine g_iconst C dX12_keep_270 ?_
                                      refine g_icmp_ne (b' := 5) (tgt := 279) C dX12_keep_271 (by decide) rfl (by decide) (fun c310 => ?_) (fun c310 => ?_)
                                      · have hf := if_f c310 hf
                                        refine g_iload C dX12_keep_279 rfl ?_
                                        refine g_iastore (N := 8) C (by decide) dX12_keep_281 rfl hb304 ?_
                                        refine g_iconst C dX12_keep_282 ?_
                                        obtain ⟨e1, e2⟩ := some_inv hf
                                        exact g_iret C hr hlk e1 e2 dX12_keep_283
                                      · have hf := if_t c310 hf
                                        refine g_iload C dX12_keep_274 rfl ?_
                                        refine g_goto (tgt := 281) C dX12_keep_276 (by decide) ?_
                                        refine g_iastore (N := 8) C (by decide) dX12_keep_281 rfl hb304 ?_
                                        refine g_iconst C dX12_keep_282 ?_
                                        obtain ⟨e1, e2⟩ := some_inv hf
                                        exact g_iret C hr hlk e1 e2 dX12_keep_283
                                    · have hf := if_t c309 hf
                                      refine g_sipush C dX12_keep_260 (by decide) ?_
                                      refine g_iload C dX12_keep_263 rfl ?_
                                      refine g_iadd C dX12_keep_265 ?_
                                      refine g_goto (tgt := 281) C dX12_keep_266 (by decide) ?_
                                      refine g_iastore (N := 8) C (by decide) dX12_keep_281 rfl hb304 ?_
                                      refine g_iconst C dX12_keep_282 ?_
                                      obtain ⟨e1, e2⟩ := some_inv hf
                                      exact g_iret C hr hlk e1 e2 dX12_keep_283
                                  · have hf := if_t c308 hf
                                    refine g_bipush C dX12_keep_250 (by decide) ?_
                                    refine g_goto (tgt := 281) C dX12_keep_252 (by decide) ?_
                                    refine g_iastore (N := 8) C (by decide) dX12_keep_281 rfl hb304 ?_
                                    refine g_iconst C dX12_keep_282 ?_
                                    obtain ⟨e1, e2⟩ := some_inv hf
                                    exact g_iret C hr hlk e1 e2 dX12_keep_283
                              · have hf := if_t c303 hf
                                refine g_iconst C dX12_keep_219 ?_
                                refine g_iload C dX12_keep_220 rfl ?_
                                refine g_imul C dX12_keep_222 ?_
                                refine g_iconst C dX12_keep_223 ?_
                                refine g_iadd C dX12_keep_224 ?_
                                refine g_goto (tgt := 234) C dX12_keep_225 (by decide) ?_
                                obtain ⟨hb315, hf⟩ := if_inv hf
                                refine g_iastore (N := 8) C (by decide) dX12_keep_234 rfl hb315 ?_
                                refine g_aload_n (i := 0) C dX12_keep_235 rfl rfl ?_
                                refine gg_X12_keptToss (i := 5) C hiX12_keep_X12 rfl dX12_keep_236 ?_
                                refine g_iload_n (i := 1) C dX12_keep_239 rfl rfl ?_
                                refine g_iload_n (i := 3) C dX12_keep_240 rfl rfl ?_
                                refine g_iconst C dX12_keep_241 ?_
                                refine g_icmp_eq (b' := 3) (tgt := 250) C dX12_keep_242 (by decide) rfl (by decide) (fun c317 => ?_) (fun c317 => ?_)
                                · have hf := if_t c317 hf
                                  refine g_bipush C dX12_keep_250 (by decide) ?_
                                  refine g_goto (tgt := 281) C dX12_keep_252 (by decide) ?_
                                  refine g_iastore (N := 8) C (by decide) dX12_keep_281 rfl hb315 ?_
                                  refine g_iconst C dX12_keep_282 ?_
                                  obtain ⟨e1, e2⟩ := some_inv hf
                                  exact g_iret C hr hlk e1 e2 dX12_keep_283
                                · have hf := if_f c317 hf
                                  refine g_iload C dX12_keep_245 rfl ?_
                                  refine g_if_ne (tgt := 255) C dX12_keep_247 (by decide) rfl (fun c319 => ?_) (fun c319 => ?_)
                                  · have hf := if_f c319 hf
                                    refine g_iload_n (i := 3) C dX12_keep_255 rfl rfl ?_
                                    refine g_iconst C dX12_keep_256 ?_
                                    refine g_icmp_ne (b' := 4) (tgt := 269) C dX12_keep_257 (by decide) rfl (by decide) (fun c320 => ?_) (fun c320 => ?_)
                                    · have hf := if_f c320 hf
                                      refine g_iload_n (i := 3) C dX12_keep_269 rfl rfl ?_
                                      refine g_iconst C dX12_keep_270 ?_
                                      refine g_icmp_ne (b' := 5) (tgt := 279) C dX12_keep_271 (by decide) rfl (by decide) (fun c321 => ?_) (fun c321 => ?_)
                                      · have hf := if_f c321 hf
                                        refine g_iload C dX12_keep_279 rfl ?_
                                        refine g_iastore (N := 8) C (by decide) dX12_keep_281 rfl hb315 ?_
                                        refine g_iconst C dX12_keep_282 ?_
                                        obtain ⟨e1, e2⟩ := some_inv hf
                                        exact g_iret C hr hlk e1 e2 dX12_keep_283
                                      · have hf := if_t c321 hf
                                        refine g_iload C dX12_keep_274 rfl ?_
                                        refine g_goto (tgt := 281) C dX12_keep_276 (by decide) ?_
                                        refine g_iastore (N := 8) C (by decide) dX12_keep_281 rfl hb315 ?_
                                        refine g_iconst C dX12_keep_282 ?_
                                        obtain ⟨e1, e2⟩ := some_inv hf
                                        exact g_iret C hr hlk e1 e2 dX12_keep_283
                                    · have hf := if_t c320 hf
                                      refine g_sipush C dX12_keep_260 (by decide) ?_
                                      refine g_iload C dX12_keep_263 rfl ?_
                                      refine g_iadd C dX12_keep_265 ?_
                                      refine g_goto (tgt := 281) C dX12_keep_266 (by decide) ?_
                                      refine g_iastore (N := 8) C (by decide) dX12_keep_281 rfl hb315 ?_
                                      refine g_iconst C dX12_keep_282 ?_
                                      obtain ⟨e1, e2⟩ := some_inv hf
                                      exact g_iret C hr hlk e1 e2 dX12_keep_283
                                  · have hf := if_t c319 hf
                                    refine g_bipush C dX12_keep_250 (by decide) ?_
                                    refine g_goto (tgt := 281) C dX12_keep_252 (by decide) ?_
                                    refine g_iastore (N := 8) C (by decide) dX12_keep_281 rfl hb315 ?_
                                    refine g_iconst C dX12_keep_282 ?_
                                    obtain ⟨e1, e2⟩ := some_inv hf
                                    exact g_iret C hr hlk e1 e2 dX12_keep_283
                            · have hf := if_t c302 hf
                              refine g_iload C dX12_keep_206 rfl ?_
                              refine g_iload C dX12_keep_208 rfl ?_
                              refine g_iadd C dX12_keep_210 ?_
                              refine g_goto (tgt := 234) C dX12_keep_211 (by decide) ?_
                              obtain ⟨hb326, hf⟩ := if_inv hf
                              refine g_iastore (N := 8) C (by decide) dX12_keep_234 rfl hb326 ?_
                              refine g_aload_n (i := 0) C dX12_keep_235 rfl rfl ?_
                              refine gg_X12_keptToss (i := 5) C hiX12_keep_X12 rfl dX12_keep_236 ?_
                              refine g_iload_n (i := 1) C dX12_keep_239 rfl rfl ?_
                              refine g_iload_n (i := 3) C dX12_keep_240 rfl rfl ?_
                              refine g_iconst C dX12_keep_241 ?_
                              refine g_icmp_eq (b' := 3) (tgt := 250) C dX12_keep_242 (by decide) rfl (by decide) (fun c328 => ?_) (fun c328 => ?_)
                              · have hf := if_t c328 hf
                                refine g_bipush C dX12_keep_250 (by decide) ?_
                                refine g_goto (tgt := 281) C dX12_keep_252 (by decide) ?_
                                refine g_iastore (N := 8) C (by decide) dX12_keep_281 rfl hb326 ?_
                                refine g_iconst C dX12_keep_282 ?_
                                obtain ⟨e1, e2⟩ := some_inv hf
                                exact g_iret C hr hlk e1 e2 dX12_keep_283
                              · have hf := if_f c328 hf
                                refine g_iload C dX12_keep_245 rfl ?_
                                refine g_if_ne (tgt := 255) C dX12_keep_247 (by decide) rfl (fun c330 => ?_) (fun c330 => ?_)
                                · have hf := if_f c330 hf
                                  refine g_iload_n (i := 3) C dX12_keep_255 rfl rfl ?_
                                  refine g_iconst C dX12_keep_256 ?_
                                  refine g_icmp_ne (b' := 4) (tgt := 269) C dX12_keep_257 (by decide) rfl (by decide) (fun c331 => ?_) (fun c331 => ?_)
                                  · have hf := if_f c331 hf
                                    refine g_iload_n (i := 3) C dX12_keep_269 rfl rfl ?_
                                    refine g_iconst C dX12_keep_270 ?_
                                    refine g_icmp_ne (b' := 5) (tgt := 279) C dX12_keep_271 (by decide) rfl (by decide) (fun c332 => ?_) (fun c332 => ?_)
                                    · have hf := if_f c332 hf
                                      refine g_iload C dX12_keep_279 rfl ?_
                                      refine g_iastore (N := 8) C (by decide) dX12_keep_281 rfl hb326 ?_
                                      refine g_iconst C dX12_keep_282 ?_
                                      obtain ⟨e1, e2⟩ := some_inv hf
                                      exact g_iret C hr hlk e1 e2 dX12_keep_283
                                    · have hf := if_t c332 hf
                                      refine g_iload C dX12_keep_274 rfl ?_
                                      refine g_goto (tgt := 281) C dX12_keep_276 (by decide) ?_
                                      refine g_iastore (N := 8) C (by decide) dX12_keep_281 rfl hb326 ?_
                                      refine g_iconst C dX12_keep_282 ?_
                                      obtain ⟨e1, e2⟩ := some_inv hf
                                      exact g_iret C hr hlk e1 e2 dX12_keep_283
                                  · have hf := if_t c331 hf
                                    refine g_sipush C dX12_keep_260 (by decide) ?_
                                    refine g_iload C dX12_keep_263 rfl ?_
                                    refine g_iadd C dX12_keep_265 ?_
                                    refine g_goto (tgt := 281) C dX12_keep_266 (by decide) ?_
                                    refine g_iastore (N := 8) C (by decide) dX12_keep_281 rfl hb326 ?_
                                    refine g_iconst C dX12_keep_282 ?_
                                    obtain ⟨e1, e2⟩ := some_inv hf
                                    exact g_iret C hr hlk e1 e2 dX12_keep_283
                                · have hf := if_t c330 hf
                                  refine g_bipush C dX12_keep_250 (by decide) ?_
                                  refine g_goto (tgt := 281) C dX12_keep_252 (by decide) ?_
                                  refine g_iastore (N := 8) C (by decide) dX12_keep_281 rfl hb326 ?_
                                  refine g_iconst C dX12_keep_282 ?_
                                  obtain ⟨e1, e2⟩ := some_inv hf
                                  exact g_iret C hr hlk e1 e2 dX12_keep_283
                          · have hf := if_t c301 hf
                            refine g_iload C dX12_keep_194 rfl ?_
                            refine g_iconst C dX12_keep_196 ?_
                            refine g_iadd C dX12_keep_197 ?_
                            refine g_goto (tgt := 234) C dX12_keep_198 (by decide) ?_
                            obtain ⟨hb337, hf⟩ := if_inv hf
                            refine g_iastore (N := 8) C (by decide) dX12_keep_234 rfl hb337 ?_
                            refine g_aload_n (i := 0) C dX12_keep_235 rfl rfl ?_
                            refine gg_X12_keptToss (i := 5) C hiX12_keep_X12 rfl dX12_keep_236 ?_
                            refine g_iload_n (i := 1) C dX12_keep_239 rfl rfl ?_
                            refine g_iload_n (i := 3) C dX12_keep_240 rfl rfl ?_
                            refine g_iconst C dX12_keep_241 ?_
                            refine g_icmp_eq (b' := 3) (tgt := 250) C dX12_keep_242 (by decide) rfl (by decide) (fun c339 => ?_) (fun c339 => ?_)
                            · have hf := if_t c339 hf
                              refine g_bipush C dX12_keep_250 (by decide) ?_
                              refine g_goto (tgt := 281) C dX12_keep_252 (by decide) ?_
                              refine g_iastore (N := 8) C (by decide) dX12_keep_281 rfl hb337 ?_
                              refine g_iconst C dX12_keep_282 ?_
                              obtain ⟨e1, e2⟩ := some_inv hf
                              exact g_iret C hr hlk e1 e2 dX12_keep_283
                            · have hf := if_f c339 hf
                              refine g_iload C dX12_keep_245 rfl ?_
                              refine g_if_ne (tgt := 255) C dX12_keep_247 (by decide) rfl (fun c341 => ?_) (fun c341 => ?_)
                              · have hf := if_f c341 hf
                                refine g_iload_n (i := 3) C dX12_keep_255 rfl rfl ?_
                                refine g_iconst C dX12_keep_256 ?_
                                refine g_icmp_ne (b' := 4) (tgt := 269) C dX12_keep_257 (by decide) rfl (by decide) (fun c342 => ?_) (fun c342 => ?_)
                                · have hf := if_f c342 hf
                                  refine g_iload_n (i := 3) C dX12_keep_269 rfl rfl ?_
                                  refine g_iconst C dX12_keep_270 ?_
                                  refine g_icmp_ne (b' := 5) (tgt := 279) C dX12_keep_271 (by decide) rfl (by decide) (fun c343 => ?_) (fun c343 => ?_)
                                  · have hf := if_f c343 hf
                                    refine g_iload C dX12_keep_279 rfl ?_
                                    refine g_iastore (N := 8) C (by decide) dX12_keep_281 rfl hb337 ?_
                                    refine g_iconst C dX12_keep_282 ?_
                                    obtain ⟨e1, e2⟩ := some_inv hf
                                    exact g_iret C hr hlk e1 e2 dX12_keep_283
                                  · have hf := if_t c343 hf
                                    refine g_iload C dX12_keep_274 rfl ?_
                                    refine g_goto (tgt := 281) C dX12_keep_276 (by decide) ?_
                                    refine g_iastore (N := 8) C (by decide) dX12_keep_281 rfl hb337 ?_
                                    refine g_iconst C dX12_keep_282 ?_
                                    obtain ⟨e1, e2⟩ := some_inv hf
                                    exact g_iret C hr hlk e1 e2 dX12_keep_283
                                · have hf := if_t c342 hf
                                  refine g_sipush C dX12_keep_260 (by decide) ?_
                                  refine g_iload C dX12_keep_263 rfl ?_
                                  refine g_iadd C dX12_keep_265 ?_
                                  refine g_goto (tgt := 281) C dX12_keep_266 (by decide) ?_
                                  refine g_iastore (N := 8) C (by decide) dX12_keep_281 rfl hb337 ?_
                                  refine g_iconst C dX12_keep_282 ?_
                                  obtain ⟨e1, e2⟩ := some_inv hf
                                  exact g_iret C hr hlk e1 e2 dX12_keep_283
                              · have hf := if_t c341 hf
                                refine g_bipush C dX12_keep_250 (by decide) ?_
                                refine g_goto (tgt := 281) C dX12_keep_252 (by decide) ?_
                                refine g_iastore (N := 8) C (by decide) dX12_keep_281 rfl hb337 ?_
                                refine g_iconst C dX12_keep_282 ?_
                                obtain ⟨e1, e2⟩ := some_inv hf
                                exact g_iret C hr hlk e1 e2 dX12_keep_283
                        · have hf := if_t c300 hf
                          refine g_iconst C dX12_keep_182 ?_
                          refine g_iload C dX12_keep_183 rfl ?_
                          refine g_imul C dX12_keep_185 ?_
                          refine g_goto (tgt := 234) C dX12_keep_186 (by decide) ?_
                          obtain ⟨hb348, hf⟩ := if_inv hf
                          refine g_iastore (N := 8) C (by decide) dX12_keep_234 rfl hb348 ?_
                          refine g_aload_n (i := 0) C dX12_keep_235 rfl rfl ?_
                          refine gg_X12_keptToss (i := 5) C hiX12_keep_X12 rfl dX12_keep_236 ?_
                          refine g_iload_n (i := 1) C dX12_keep_239 rfl rfl ?_
                          refine g_iload_n (i := 3) C dX12_keep_240 rfl rfl ?_
                          refine g_iconst C dX12_keep_241 ?_
                          refine g_icmp_eq (b' := 3) (tgt := 250) C dX12_keep_242 (by decide) rfl (by decide) (fun c350 => ?_) (fun c350 => ?_)
                          · have hf := if_t c350 hf
                            refine g_bipush C dX12_keep_250 (by decide) ?_
                            refine g_goto (tgt := 281) C dX12_keep_252 (by decide) ?_
                            refine g_iastore (N := 8) C (by decide) dX12_keep_281 rfl hb348 ?_
                            refine g_iconst C dX12_keep_282 ?_
                            obtain ⟨e1, e2⟩ := some_inv hf
                            exact g_iret C hr hlk e1 e2 dX12_keep_283
                          · have hf := if_f c350 hf
                            refine g_iload C dX12_keep_245 rfl ?_
                            refine g_if_ne (tgt := 255) C dX12_keep_247 (by decide) rfl (fun c352 => ?_) (fun c352 => ?_)
                            · have hf := if_f c352 hf
                              refine g_iload_n (i := 3) C dX12_keep_255 rfl rfl ?_
                              refine g_iconst C dX12_keep_256 ?_
                              refine g_icmp_ne (b' := 4) (tgt := 269) C dX12_keep_257 (by decide) rfl (by decide) (fun c353 => ?_) (fun c353 => ?_)
                              · have hf := if_f c353 hf
                                refine g_iload_n (i := 3) C dX12_keep_269 rfl rfl ?_
                                refine g_iconst C dX12_keep_270 ?_
                                refine g_icmp_ne (b' := 5) (tgt := 279) C dX12_keep_271 (by decide) rfl (by decide) (fun c354 => ?_) (fun c354 => ?_)
                                · have hf := if_f c354 hf
                                  refine g_iload C dX12_keep_279 rfl ?_
                                  refine g_iastore (N := 8) C (by decide) dX12_keep_281 rfl hb348 ?_
                                  refine g_iconst C dX12_keep_282 ?_
                                  obtain ⟨e1, e2⟩ := some_inv hf
                                  exact g_iret C hr hlk e1 e2 dX12_keep_283
                                · have hf := if_t c354 hf
                                  refine g_iload C dX12_keep_274 rfl ?_
                                  refine g_goto (tgt := 281) C dX12_keep_276 (by decide) ?_
                                  refine g_iastore (N := 8) C (by decide) dX12_keep_281 rfl hb348 ?_
                                  refine g_iconst C dX12_keep_282 ?_
                                  obtain ⟨e1, e2⟩ := some_inv hf
                                  exact g_iret C hr hlk e1 e2 dX12_keep_283
                              · have hf := if_t c353 hf
                                refine g_sipush C dX12_keep_260 (by decide) ?_
                                refine g_iload C dX12_keep_263 rfl ?_
                                refine g_iadd C dX12_keep_265 ?_
                                refine g_goto (tgt := 281) C dX12_keep_266 (by decide) ?_
                                refine g_iastore (N := 8) C (by decide) dX12_keep_281 rfl hb348 ?_
                                refine g_iconst C dX12_keep_282 ?_
                                obtain ⟨e1, e2⟩ := some_inv hf
                                exact g_iret C hr hlk e1 e2 dX12_keep_283
                            · have hf := if_t c352 hf
                              refine g_bipush C dX12_keep_250 (by decide) ?_
                              refine g_goto (tgt := 281) C dX12_keep_252 (by decide) ?_
                              refine g_iastore (N := 8) C (by decide) dX12_keep_281 rfl hb348 ?_
                              refine g_iconst C dX12_keep_282 ?_
                              obtain ⟨e1, e2⟩ := some_inv hf
                              exact g_iret C hr hlk e1 e2 dX12_keep_283
                      · have hf := if_t c299 hf
                        refine g_iload C dX12_keep_172 rfl ?_
                        refine g_goto (tgt := 234) C dX12_keep_174 (by decide) ?_
                        obtain ⟨hb359, hf⟩ := if_inv hf
                        refine g_iastore (N := 8) C (by decide) dX12_keep_234 rfl hb359 ?_
                        refine g_aload_n (i := 0) C dX12_keep_235 rfl rfl ?_
                        refine gg_X12_keptToss (i := 5) C hiX12_keep_X12 rfl dX12_keep_236 ?_
                        refine g_iload_n (i := 1) C dX12_keep_239 rfl rfl ?_
                        refine g_iload_n (i := 3) C dX12_keep_240 rfl rfl ?_
                        refine g_iconst C dX12_keep_241 ?_
                        refine g_icmp_eq (b' := 3) (tgt := 250) C dX12_keep_242 (by decide) rfl (by decide) (fun c361 => ?_) (fun c361 => ?_)
                        · have hf := if_t c361 hf
                          refine g_bipush C dX12_keep_250 (by decide) ?_
                          refine g_goto (tgt := 281) C dX12_keep_252 (by decide) ?_
                          refine g_iastore (N := 8) C (by decide) dX12_keep_281 rfl hb359 ?_
                          refine g_iconst C dX12_keep_282 ?_
                          obtain ⟨e1, e2⟩ := some_inv hf
                          exact g_iret C hr hlk e1 e2 dX12_keep_283
                        · have hf := if_f c361 hf
                          refine g_iload C dX12_keep_245 rfl ?_
                          refine g_if_ne (tgt := 255) C dX12_keep_247 (by decide) rfl (fun c363 => ?_) (fun c363 => ?_)
                          · have hf := if_f c363 hf
                            refine g_iload_n (i := 3) C dX12_keep_255 rfl rfl ?_
                            refine g_iconst C dX12_keep_256 ?_
                            refine g_icmp_ne (b' := 4) (tgt := 269) C dX12_keep_257 (by decide) rfl (by decide) (fun c364 => ?_) (fun c364 => ?_)
                            · have hf := if_f c364 hf
                              refine g_iload_n (i := 3) C dX12_keep_269 rfl rfl ?_
                              refine g_iconst C dX12_keep_270 ?_
                              refine g_icmp_ne (b' := 5) (tgt := 279) C dX12_keep_271 (by decide) rfl (by decide) (fun c365 => ?_) (fun c365 => ?_)
                              · have hf := if_f c365 hf
                                refine g_iload C dX12_keep_279 rfl ?_
                                refine g_iastore (N := 8) C (by decide) dX12_keep_281 rfl hb359 ?_
                                refine g_iconst C dX12_keep_282 ?_
                                obtain ⟨e1, e2⟩ := some_inv hf
                                exact g_iret C hr hlk e1 e2 dX12_keep_283
                              · have hf := if_t c365 hf
                                refine g_iload C dX12_keep_274 rfl ?_
                                refine g_goto (tgt := 281) C dX12_keep_276 (by decide) ?_
                                refine g_iastore (N := 8) C (by decide) dX12_keep_281 rfl hb359 ?_
                                refine g_iconst C dX12_keep_282 ?_
                                obtain ⟨e1, e2⟩ := some_inv hf
                                exact g_iret C hr hlk e1 e2 dX12_keep_283
                            · have hf := if_t c364 hf
                              refine g_sipush C dX12_keep_260 (by decide) ?_
                              refine g_iload C dX12_keep_263 rfl ?_
                              refine g_iadd C dX12_keep_265 ?_
                              refine g_goto (tgt := 281) C dX12_keep_266 (by decide) ?_
                              refine g_iastore (N := 8) C (by decide) dX12_keep_281 rfl hb359 ?_
                              refine g_iconst C dX12_keep_282 ?_
                              obtain ⟨e1, e2⟩ := some_inv hf
                              exact g_iret C hr hlk e1 e2 dX12_keep_283
                          · have hf := if_t c363 hf
                            refine g_bipush C dX12_keep_250 (by decide) ?_
                            refine g_goto (tgt := 281) C dX12_keep_252 (by decide) ?_
                            refine g_iastore (N := 8) C (by decide) dX12_keep_281 rfl hb359 ?_
                            refine g_iconst C dX12_keep_282 ?_
                            obtain ⟨e1, e2⟩ := some_inv hf
                            exact g_iret C hr hlk e1 e2 dX12_keep_283
                · have hf := if_t c290 hf
                  refine g_iconst C dX12_keep_73 ?_
                  obtain ⟨e1, e2⟩ := some_inv hf
                  exact g_iret C hr hlk e1 e2 dX12_keep_74
              · have hf := if_t c287 hf
                refine g_iconst C dX12_keep_60 ?_
                obtain ⟨e1, e2⟩ := some_inv hf
                exact g_iret C hr hlk e1 e2 dX12_keep_61
        · have hf := if_t c196 hf
          refine g_bipush C dX12_keep_31 (by decide) ?_
          obtain ⟨e1, e2⟩ := some_inv hf
          exact g_iret C hr hlk e1 e2 dX12_keep_33
    · have hf := if_t c8 hf
      refine g_iconst C dX12_keep_17 ?_
      obtain ⟨e1, e2⟩ := some_inv hf
      exact g_iret C hr hlk e1 e2 dX12_keep_18
/-! X12_row -/
abbrev rm_X12_row : Room := { frames := 2, cells := 0, slots := 0, locals := 45 }
theorem hiX12_row_X12 : ∀ w ∈ u_ws RX12 TX12 24, w ∈ wsX12_row := fun _ h => (List.mem_cons_of_mem _ (List.mem_append_right _ h))
set_option maxHeartbeats 4000000 in
set_option maxRecDepth 100000 in
theorem it_X12_row_58 (C : Cx p s m args c cX12_row 5 RX12 wsX12_row D ca A) (hr : meth.sig.returnType = (some .int)) (hlk : meth.locks = false) {p1 : Int} {o : (Int × Mem) ⊕ (Mem)} (hc : ∀ (x4 : Int) (σ : Mem), o = .inl (x4, σ) → G p l e rm_X12_row s m args below meth c 5 D ca ad A 0 0 (MQ below (Qi D ca ad A r0 σ0) args s 0 0 A) σ 58 [some (.ref (ad 120)), some (.int (iI p1)), none, none, some (.int (iI x4))] []) (he : ∀ (σ : Mem), o = .inr σ → G p l e rm_X12_row s m args below meth c 5 D ca ad A 0 0 (MQ below (Qi D ca ad A r0 σ0) args s 0 0 A) σ 84 [none, none, none, none, none] []) {x4 : Int} {σ : Mem} (hf : f_X12_row_58 p1 x4 σ = some o) : G p l e rm_X12_row s m args below meth c 5 D ca ad A 0 0 (MQ below (Qi D ca ad A r0 σ0) args s 0 0 A) σ 58 [some (.ref (ad 120)), some (.int (iI p1)), none, none, some (.int (iI x4))] [] := by
  unfold f_X12_row_58 at hf
  refine g_iload C dX12_row_58 rfl ?_
  refine g_bipush C dX12_row_60 (by decide) ?_
  refine g_icmp_ge (b' := 120) (tgt := 84) C dX12_row_62 (by decide) rfl (by decide) (fun c15 => ?_) (fun c15 => ?_)
  · have hf := if_t c15 hf
    exact g_mask [false, false, false, false, false] (he _ (Option.some.inj hf).symm)
  · have hf := if_f c15 hf
    refine g_aload_n (i := 0) C dX12_row_65 rfl rfl ?_
    refine gg_X12_element (i := 5) C hiX12_row_X12 rfl dX12_row_66 ?_
    refine g_bipush C dX12_row_69 (by decide) ?_
    refine g_iload_n (i := 1) C dX12_row_71 rfl rfl ?_
    refine g_imul C dX12_row_72 ?_
    refine g_iload C dX12_row_73 rfl ?_
    refine g_iadd C dX12_row_75 ?_
    refine g_iconst C dX12_row_76 ?_
    obtain ⟨hb16, hf⟩ := if_inv hf
    refine g_iastore (N := 960) C (by decide) dX12_row_77 rfl hb16 ?_
    refine g_iinc C dX12_row_78 rfl (by decide) rfl ?_
    refine g_goto (tgt := 58) C dX12_row_81 (by decide) ?_
    exact g_mask [true, true, false, false, true] (hc _ _ (Option.some.inj hf).symm)
set_option maxHeartbeats 4000000 in
set_option maxRecDepth 100000 in
theorem w_X12_row_58 (C : Cx p s m args c cX12_row 5 RX12 wsX12_row D ca A) (hr : meth.sig.returnType = (some .int)) (hlk : meth.locks = false) {p1 : Int} {n : Nat} {x4 : Int} {σ : Mem} {b : (Mem)} (h : itr (fun z : Int × Mem => f_X12_row_58 p1 z.1 z.2) n (x4, σ) = some b) (he : ∀ (σ : Mem), b = σ → G p l e rm_X12_row s m args below meth c 5 D ca ad A 0 0 (MQ below (Qi D ca ad A r0 σ0) args s 0 0 A) σ 84 [none, none, none, none, none] []) : G p l e rm_X12_row s m args below meth c 5 D ca ad A 0 0 (MQ below (Qi D ca ad A r0 σ0) args s 0 0 A) σ 58 [some (.ref (ad 120)), some (.int (iI p1)), none, none, some (.int (iI x4))] [] :=
  itr_rule (P := fun z : Int × Mem => G p l e rm_X12_row s m args below meth c 5 D ca ad A 0 0 (MQ below (Qi D ca ad A r0 σ0) args s 0 0 A) z.2 58 [some (.ref (ad 120)), some (.int (iI p1)), none, none, some (.int (iI z.1))] []) (E := fun b => ∀ (σ : Mem), b = σ → G p l e rm_X12_row s m args below meth c 5 D ca ad A 0 0 (MQ below (Qi D ca ad A r0 σ0) args s 0 0 A) σ 84 [none, none, none, none, none] []) (fun z o hb hc he => it_X12_row_58 C hr hlk (fun _ _ e => hc _ e) (fun _ e => (he _ e) _ rfl) hb) n _ _ h he
set_option maxHeartbeats 4000000 in
set_option maxRecDepth 100000 in
theorem c_X12_row {v1 v2 v3 : Int} {σ : Mem} (hf : f_X12_row v1 v2 v3 σ = some (r0, σ0)) : CTi l D ca ad A yX12_row wsX12_row rm_X12_row [.ref (ad 120), .int (iI v1), .int (iI v2), .int (iI v3)] σ r0 σ0 := by
  refine ct_i (cc := cX12_row) (own := RX12) (maxL := 5) (ret := (some .int)) (lv0 := [some (.ref (ad 120)), some (.int (iI v1)), some (.int (iI v2)), some (.int (iI v3)), none]) (by decide) rfl rfl rfl (Nat.le_of_ble_eq_true rfl) ?_
  intro p e s m below meth c C hr hlk hnm
  unfold f_X12_row at hf
  refine g_iload_n (i := 1) C dX12_row_0 rfl rfl ?_
  obtain ⟨r2, σ1, h3, hf⟩ := ob_inv hf
  refine g_callSi C (c_X12_isShelf  h3) (va_cwS 1 C.2.2.2.2.1 gX12_row_X12_isShelf rfl rfl rfl (by decide +kernel) ⟨Nat.le_of_ble_eq_true rfl, Nat.le_of_ble_eq_true rfl⟩) rfl rfl (Nat.le_of_ble_eq_true rfl) dX12_row_1 ⟨Nat.zero_le _, Nat.zero_le _⟩ ?_
  refine g_if_eq (tgt := 25) C dX12_row_4 (by decide) rfl (fun c4 => ?_) (fun c4 => ?_)
  · have hf := if_t c4 hf
    refine g_iconst C dX12_row_25 ?_
    obtain ⟨e1, e2⟩ := some_inv hf
    exact g_iret C hr hlk e1 e2 dX12_row_26
  · have hf := if_f c4 hf
    refine g_iload_n (i := 2) C dX12_row_7 rfl rfl ?_
    refine g_i2l C dX12_row_8 rfl ?_
    refine g_lconst (z := 0) C dX12_row_9 (by decide) ?_
    refine g_ldc2 (i := 1) (z := 2) C dX12_row_10 rfl (by decide) ?_
    obtain ⟨r6, σ5, h7, hf⟩ := ob_inv hf
    refine g_callSi C (c_X12_isIn  h7) (va_cwS 3 C.2.2.2.2.1 gX12_row_X12_isIn rfl rfl rfl (by decide +kernel) ⟨Nat.le_of_ble_eq_true rfl, Nat.le_of_ble_eq_true rfl⟩) rfl rfl (Nat.le_of_ble_eq_true rfl) dX12_row_13 ⟨Nat.zero_le _, Nat.zero_le _⟩ ?_
    refine g_if_eq (tgt := 25) C dX12_row_16 (by decide) rfl (fun c8 => ?_) (fun c8 => ?_)
    · have hf := if_t c8 hf
      refine g_iconst C dX12_row_25 ?_
      obtain ⟨e1, e2⟩ := some_inv hf
      exact g_iret C hr hlk e1 e2 dX12_row_26
    · have hf := if_f c8 hf
      refine g_iload_n (i := 3) C dX12_row_19 rfl rfl ?_
      refine g_bipush C dX12_row_20 (by decide) ?_
      refine g_icmp_le (b' := 120) (tgt := 27) C dX12_row_22 (by decide) rfl (by decide) (fun c9 => ?_) (fun c9 => ?_)
      · have hf := if_t c9 hf
        refine g_iload_n (i := 3) C dX12_row_27 rfl rfl ?_
        refine g_if_ge (tgt := 34) C dX12_row_28 (by decide) rfl (fun c10 => ?_) (fun c10 => ?_)
        · have hf := if_t c10 hf
          refine g_aload_n (i := 0) C dX12_row_34 rfl rfl ?_
          refine gg_X12_kept (i := 2) C hiX12_row_X12 rfl dX12_row_35 ?_
          refine g_iload_n (i := 1) C dX12_row_38 rfl rfl ?_
          refine g_iconst C dX12_row_39 ?_
          obtain ⟨hb11, hf⟩ := if_inv hf
          refine g_iastore (N := 8) C (by decide) dX12_row_40 rfl hb11 ?_
          refine g_aload_n (i := 0) C dX12_row_41 rfl rfl ?_
          refine gg_X12_sort (i := 3) C hiX12_row_X12 rfl dX12_row_42 ?_
          refine g_iload_n (i := 1) C dX12_row_45 rfl rfl ?_
          refine g_iload_n (i := 2) C dX12_row_46 rfl rfl ?_
          refine g_iastore (N := 8) C (by decide) dX12_row_47 rfl hb11 ?_
          refine g_aload_n (i := 0) C dX12_row_48 rfl rfl ?_
          refine gg_X12_size (i := 4) C hiX12_row_X12 rfl dX12_row_49 ?_
          refine g_iload_n (i := 1) C dX12_row_52 rfl rfl ?_
          refine g_iload_n (i := 3) C dX12_row_53 rfl rfl ?_
          refine g_iastore (N := 8) C (by decide) dX12_row_54 rfl hb11 ?_
          refine g_iconst C dX12_row_55 ?_
          refine g_istore C dX12_row_56 (by decide) rfl ?_
          obtain ⟨q18, hl19, hf⟩ := lb_inv hf
          refine g_mask [true, true, false, false, true] (w_X12_row_58 C hr hlk hl19 ?_)
          · rintro σ20 rfl
            refine g_iconst C dX12_row_84 ?_
            obtain ⟨e1, e2⟩ := some_inv hf
            exact g_iret C hr hlk e1 e2 dX12_row_85
        · have hf := if_f c10 hf
          refine g_bipush C dX12_row_31 (by decide) ?_
          obtain ⟨e1, e2⟩ := some_inv hf
          exact g_iret C hr hlk e1 e2 dX12_row_33
      · have hf := if_f c9 hf
        refine g_iconst C dX12_row_25 ?_
        obtain ⟨e1, e2⟩ := some_inv hf
        exact g_iret C hr hlk e1 e2 dX12_row_26
/-! X12_put -/
abbrev rm_X12_put : Room := { frames := 3, cells := 0, slots := 0, locals := 67 }
theorem hiX12_put_X12 : ∀ w ∈ u_ws RX12 TX12 24, w ∈ wsX12_put := fun _ h => (List.mem_cons_of_mem _ (List.mem_append_right _ h))
set_option maxHeartbeats 4000000 in
set_option maxRecDepth 100000 in
theorem c_X12_put {v1 v2 v3 : Int} {σ : Mem} (hf : f_X12_put v1 v2 v3 σ = some (r0, σ0)) : CTi l D ca ad A yX12_put wsX12_put rm_X12_put [.ref (ad 120), .int (iI v1), .int (iI v2), .int (iI v3)] σ r0 σ0 := by
  refine ct_i (cc := cX12_put) (own := RX12) (maxL := 5) (ret := (some .int)) (lv0 := [some (.ref (ad 120)), some (.int (iI v1)), some (.int (iI v2)), some (.int (iI v3)), none]) (by decide) rfl rfl rfl (Nat.le_of_ble_eq_true rfl) ?_
  intro p e s m below meth c C hr hlk hnm
  unfold f_X12_put at hf
  refine g_aload_n (i := 0) C dX12_put_0 rfl rfl ?_
  refine g_iload_n (i := 1) C dX12_put_1 rfl rfl ?_
  refine g_iconst C dX12_put_2 ?_
  obtain ⟨r2, σ1, h3, hf⟩ := ob_inv hf
  refine g_callVi C (c_X12_wrongRow  h3) (cwV 2 C.2.2.2.2.1 gX12_put_X12_wrongRow rfl rfl rfl (by decide +kernel) ⟨Nat.le_of_ble_eq_true rfl, Nat.le_of_ble_eq_true rfl⟩) ob_X12 rfl rfl rfl rfl (Nat.le_of_ble_eq_true rfl) dX12_put_3 ⟨Nat.zero_le _, Nat.zero_le _⟩ ?_
  refine g_istore C dX12_put_6 (by decide) rfl ?_
  refine g_iload C dX12_put_8 rfl ?_
  refine g_if_eq (tgt := 16) C dX12_put_10 (by decide) rfl (fun c4 => ?_) (fun c4 => ?_)
  · have hf := if_t c4 hf
    refine g_iload_n (i := 2) C dX12_put_16 rfl rfl ?_
    refine g_i2l C dX12_put_17 rfl ?_
    refine g_lconst (z := 0) C dX12_put_18 (by decide) ?_
    refine g_aload_n (i := 0) C dX12_put_19 rfl rfl ?_
    refine gg_X12_size (i := 1) C hiX12_put_X12 rfl dX12_put_20 ?_
    refine g_iload_n (i := 1) C dX12_put_23 rfl rfl ?_
    obtain ⟨hb5, hf⟩ := if_inv hf
    refine g_iaload (N := 8) C (by decide) dX12_put_24 rfl hb5 ?_
    refine g_iconst C dX12_put_25 ?_
    refine g_isub C dX12_put_26 ?_
    refine g_i2l C dX12_put_27 rfl ?_
    obtain ⟨r7, σ6, h8, hf⟩ := ob_inv hf
    refine g_callSi C (c_X12_isIn  h8) (va_cwS 3 C.2.2.2.2.1 gX12_put_X12_isIn rfl rfl rfl (by decide +kernel) ⟨Nat.le_of_ble_eq_true rfl, Nat.le_of_ble_eq_true rfl⟩) rfl rfl (Nat.le_of_ble_eq_true rfl) dX12_put_28 ⟨Nat.zero_le _, Nat.zero_le _⟩ ?_
    refine g_if_ne (tgt := 37) C dX12_put_31 (by decide) rfl (fun c9 => ?_) (fun c9 => ?_)
    · have hf := if_f c9 hf
      refine g_aload_n (i := 0) C dX12_put_37 rfl rfl ?_
      refine gg_X12_element (i := 2) C hiX12_put_X12 rfl dX12_put_38 ?_
      refine g_bipush C dX12_put_41 (by decide) ?_
      refine g_iload_n (i := 1) C dX12_put_43 rfl rfl ?_
      refine g_imul C dX12_put_44 ?_
      refine g_iload_n (i := 2) C dX12_put_45 rfl rfl ?_
      refine g_iadd C dX12_put_46 ?_
      refine g_aload_n (i := 0) C dX12_put_47 rfl rfl ?_
      refine gg_X12_sort (i := 3) C hiX12_put_X12 rfl dX12_put_48 ?_
      refine g_iload_n (i := 1) C dX12_put_51 rfl rfl ?_
      refine g_iaload (N := 8) C (by decide) dX12_put_52 rfl hb5 ?_
      refine g_if_ne (tgt := 61) C dX12_put_53 (by decide) rfl (fun c10 => ?_) (fun c10 => ?_)
      · have hf := if_f c10 hf
        refine g_aload_n (i := 0) C dX12_put_61 rfl rfl ?_
        refine gg_X12_sort (i := 3) C hiX12_put_X12 rfl dX12_put_62 ?_
        refine g_iload_n (i := 1) C dX12_put_65 rfl rfl ?_
        refine g_iaload (N := 8) C (by decide) dX12_put_66 rfl hb5 ?_
        refine g_iconst C dX12_put_67 ?_
        refine g_icmp_ne (b' := 1) (tgt := 76) C dX12_put_68 (by decide) rfl (by decide) (fun c11 => ?_) (fun c11 => ?_)
        · have hf := if_f c11 hf
          refine g_iload_n (i := 3) C dX12_put_76 rfl rfl ?_
          obtain ⟨hb12, hf⟩ := if_inv hf
          refine g_iastore (N := 960) C (by decide) dX12_put_77 rfl hb12 ?_
          refine g_iconst C dX12_put_78 ?_
          obtain ⟨e1, e2⟩ := some_inv hf
          exact g_iret C hr hlk e1 e2 dX12_put_79
        · have hf := if_t c11 hf
          refine g_iload_n (i := 3) C dX12_put_71 rfl rfl ?_
          refine g_i2s C dX12_put_72 ?_
          refine g_goto (tgt := 77) C dX12_put_73 (by decide) ?_
          obtain ⟨hb14, hf⟩ := if_inv hf
          refine g_iastore (N := 960) C (by decide) dX12_put_77 rfl hb14 ?_
          refine g_iconst C dX12_put_78 ?_
          obtain ⟨e1, e2⟩ := some_inv hf
          exact g_iret C hr hlk e1 e2 dX12_put_79
      · have hf := if_t c10 hf
        refine g_iload_n (i := 3) C dX12_put_56 rfl rfl ?_
        refine g_i2b C dX12_put_57 ?_
        refine g_goto (tgt := 77) C dX12_put_58 (by decide) ?_
        obtain ⟨hb16, hf⟩ := if_inv hf
        refine g_iastore (N := 960) C (by decide) dX12_put_77 rfl hb16 ?_
        refine g_iconst C dX12_put_78 ?_
        obtain ⟨e1, e2⟩ := some_inv hf
        exact g_iret C hr hlk e1 e2 dX12_put_79
    · have hf := if_t c9 hf
      refine g_bipush C dX12_put_34 (by decide) ?_
      obtain ⟨e1, e2⟩ := some_inv hf
      exact g_iret C hr hlk e1 e2 dX12_put_36
  · have hf := if_f c4 hf
    refine g_iload C dX12_put_13 rfl ?_
    obtain ⟨e1, e2⟩ := some_inv hf
    exact g_iret C hr hlk e1 e2 dX12_put_15
/-! X12_element -/
abbrev rm_X12_element : Room := { frames := 2, cells := 0, slots := 0, locals := 45 }
theorem hiX12_element_X12 : ∀ w ∈ u_ws RX12 TX12 24, w ∈ wsX12_element := fun _ h => (List.mem_cons_of_mem _ (List.mem_append_right _ h))
set_option maxHeartbeats 4000000 in
set_option maxRecDepth 100000 in
theorem c_X12_element {v1 v2 : Int} {σ : Mem} (hf : f_X12_element v1 v2 σ = some (r0, σ0)) : CTl l D ca ad A yX12_element wsX12_element rm_X12_element [.ref (ad 120), .int (iI v1), .int (iI v2)] σ r0 σ0 := by
  refine ct_l (cc := cX12_element) (own := RX12) (maxL := 3) (ret := (some .long)) (lv0 := [some (.ref (ad 120)), some (.int (iI v1)), some (.int (iI v2))]) (by decide) rfl rfl rfl (Nat.le_of_ble_eq_true rfl) ?_
  intro p e s m below meth c C hr hlk hnm
  unfold f_X12_element at hf
  refine g_aload_n (i := 0) C dX12_element_0 rfl rfl ?_
  refine g_iload_n (i := 1) C dX12_element_1 rfl rfl ?_
  obtain ⟨r2, σ1, h3, hf⟩ := ob_inv hf
  refine g_callSi C (c_X12_isShelf  h3) (va_cwS 1 C.2.2.2.2.1 gX12_element_X12_isShelf rfl rfl rfl (by decide +kernel) ⟨Nat.le_of_ble_eq_true rfl, Nat.le_of_ble_eq_true rfl⟩) rfl rfl (Nat.le_of_ble_eq_true rfl) dX12_element_2 ⟨Nat.zero_le _, Nat.zero_le _⟩ ?_
  refine g_if_ne (tgt := 12) C dX12_element_5 (by decide) rfl (fun c4 => ?_) (fun c4 => ?_)
  · have hf := if_f c4 hf
    refine g_aload_n (i := 0) C dX12_element_12 rfl rfl ?_
    refine gg_X12_kept (i := 1) C hiX12_element_X12 rfl dX12_element_13 ?_
    refine g_iload_n (i := 1) C dX12_element_16 rfl rfl ?_
    obtain ⟨hb5, hf⟩ := if_inv hf
    refine g_iaload (N := 8) C (by decide) dX12_element_17 rfl hb5 ?_
    refine g_iconst C dX12_element_18 ?_
    refine g_icmp_ne (b' := 2) (tgt := 40) C dX12_element_19 (by decide) rfl (by decide) (fun c6 => ?_) (fun c6 => ?_)
    · have hf := if_f c6 hf
      refine g_iconst C dX12_element_40 ?_
      refine g_goto (tgt := 45) C dX12_element_41 (by decide) ?_
      refine gp_X12_thrown (i := 3) C hiX12_element_X12 rfl dX12_element_45 ?_
      refine g_aload_n (i := 0) C dX12_element_48 rfl rfl ?_
      refine gg_X12_thrown (i := 3) C hiX12_element_X12 rfl dX12_element_49 ?_
      refine g_if_ne (tgt := 70) C dX12_element_52 (by decide) rfl (fun c8 => ?_) (fun c8 => ?_)
      · have hf := if_f c8 hf
        refine g_lconst (z := 0) C dX12_element_70 (by decide) ?_
        obtain ⟨e1, e2⟩ := some_inv hf
        exact g_lret C hr hlk e1 e2 dX12_element_71
      · have hf := if_t c8 hf
        refine g_aload_n (i := 0) C dX12_element_55 rfl rfl ?_
        refine gg_X12_element (i := 4) C hiX12_element_X12 rfl dX12_element_56 ?_
        refine g_bipush C dX12_element_59 (by decide) ?_
        refine g_iload_n (i := 1) C dX12_element_61 rfl rfl ?_
        refine g_imul C dX12_element_62 ?_
        refine g_iload_n (i := 2) C dX12_element_63 rfl rfl ?_
        refine g_iadd C dX12_element_64 ?_
        obtain ⟨hb9, hf⟩ := if_inv hf
        refine g_iaload (N := 960) C (by decide) dX12_element_65 rfl hb9 ?_
        refine g_i2l C dX12_element_66 rfl ?_
        refine g_goto (tgt := 71) C dX12_element_67 (by decide) ?_
        obtain ⟨e1, e2⟩ := some_inv hf
        exact g_lret C hr hlk e1 e2 dX12_element_71
    · have hf := if_t c6 hf
      refine g_iload_n (i := 2) C dX12_element_22 rfl rfl ?_
      refine g_i2l C dX12_element_23 rfl ?_
      refine g_lconst (z := 0) C dX12_element_24 (by decide) ?_
      refine g_aload_n (i := 0) C dX12_element_25 rfl rfl ?_
      refine gg_X12_size (i := 2) C hiX12_element_X12 rfl dX12_element_26 ?_
      refine g_iload_n (i := 1) C dX12_element_29 rfl rfl ?_
      refine g_iaload (N := 8) C (by decide) dX12_element_30 rfl hb5 ?_
      refine g_iconst C dX12_element_31 ?_
      refine g_isub C dX12_element_32 ?_
      refine g_i2l C dX12_element_33 rfl ?_
      obtain ⟨r11, σ10, h12, hf⟩ := ob_inv hf
      refine g_callSi C (c_X12_isIn  h12) (va_cwS 3 C.2.2.2.2.1 gX12_element_X12_isIn rfl rfl rfl (by decide +kernel) ⟨Nat.le_of_ble_eq_true rfl, Nat.le_of_ble_eq_true rfl⟩) rfl rfl (Nat.le_of_ble_eq_true rfl) dX12_element_34 ⟨Nat.zero_le _, Nat.zero_le _⟩ ?_
      refine g_if_ne (tgt := 44) C dX12_element_37 (by decide) rfl (fun c13 => ?_) (fun c13 => ?_)
      · have hf := if_f c13 hf
        refine g_iconst C dX12_element_44 ?_
        refine gp_X12_thrown (i := 3) C hiX12_element_X12 rfl dX12_element_45 ?_
        refine g_aload_n (i := 0) C dX12_element_48 rfl rfl ?_
        refine gg_X12_thrown (i := 3) C hiX12_element_X12 rfl dX12_element_49 ?_
        refine g_if_ne (tgt := 70) C dX12_element_52 (by decide) rfl (fun c15 => ?_) (fun c15 => ?_)
        · have hf := if_f c15 hf
          refine g_lconst (z := 0) C dX12_element_70 (by decide) ?_
          obtain ⟨e1, e2⟩ := some_inv hf
          exact g_lret C hr hlk e1 e2 dX12_element_71
        · have hf := if_t c15 hf
          refine g_aload_n (i := 0) C dX12_element_55 rfl rfl ?_
          refine gg_X12_element (i := 4) C hiX12_element_X12 rfl dX12_element_56 ?_
          refine g_bipush C dX12_element_59 (by decide) ?_
          refine g_iload_n (i := 1) C dX12_element_61 rfl rfl ?_
          refine g_imul C dX12_element_62 ?_
          refine g_iload_n (i := 2) C dX12_element_63 rfl rfl ?_
          refine g_iadd C dX12_element_64 ?_
          obtain ⟨hb16, hf⟩ := if_inv hf
          refine g_iaload (N := 960) C (by decide) dX12_element_65 rfl hb16 ?_
          refine g_i2l C dX12_element_66 rfl ?_
          refine g_goto (tgt := 71) C dX12_element_67 (by decide) ?_
          obtain ⟨e1, e2⟩ := some_inv hf
          exact g_lret C hr hlk e1 e2 dX12_element_71
      · have hf := if_t c13 hf
        refine g_iconst C dX12_element_40 ?_
        refine g_goto (tgt := 45) C dX12_element_41 (by decide) ?_
        refine gp_X12_thrown (i := 3) C hiX12_element_X12 rfl dX12_element_45 ?_
        refine g_aload_n (i := 0) C dX12_element_48 rfl rfl ?_
        refine gg_X12_thrown (i := 3) C hiX12_element_X12 rfl dX12_element_49 ?_
        refine g_if_ne (tgt := 70) C dX12_element_52 (by decide) rfl (fun c18 => ?_) (fun c18 => ?_)
        · have hf := if_f c18 hf
          refine g_lconst (z := 0) C dX12_element_70 (by decide) ?_
          obtain ⟨e1, e2⟩ := some_inv hf
          exact g_lret C hr hlk e1 e2 dX12_element_71
        · have hf := if_t c18 hf
          refine g_aload_n (i := 0) C dX12_element_55 rfl rfl ?_
          refine gg_X12_element (i := 4) C hiX12_element_X12 rfl dX12_element_56 ?_
          refine g_bipush C dX12_element_59 (by decide) ?_
          refine g_iload_n (i := 1) C dX12_element_61 rfl rfl ?_
          refine g_imul C dX12_element_62 ?_
          refine g_iload_n (i := 2) C dX12_element_63 rfl rfl ?_
          refine g_iadd C dX12_element_64 ?_
          obtain ⟨hb19, hf⟩ := if_inv hf
          refine g_iaload (N := 960) C (by decide) dX12_element_65 rfl hb19 ?_
          refine g_i2l C dX12_element_66 rfl ?_
          refine g_goto (tgt := 71) C dX12_element_67 (by decide) ?_
          obtain ⟨e1, e2⟩ := some_inv hf
          exact g_lret C hr hlk e1 e2 dX12_element_71
  · have hf := if_t c4 hf
    refine g_iconst C dX12_element_8 ?_
    refine g_goto (tgt := 45) C dX12_element_9 (by decide) ?_
    refine gp_X12_thrown (i := 3) C hiX12_element_X12 rfl dX12_element_45 ?_
    refine g_aload_n (i := 0) C dX12_element_48 rfl rfl ?_
    refine gg_X12_thrown (i := 3) C hiX12_element_X12 rfl dX12_element_49 ?_
    refine g_if_ne (tgt := 70) C dX12_element_52 (by decide) rfl (fun c21 => ?_) (fun c21 => ?_)
    · have hf := if_f c21 hf
      refine g_lconst (z := 0) C dX12_element_70 (by decide) ?_
      obtain ⟨e1, e2⟩ := some_inv hf
      exact g_lret C hr hlk e1 e2 dX12_element_71
    · have hf := if_t c21 hf
      refine g_aload_n (i := 0) C dX12_element_55 rfl rfl ?_
      refine gg_X12_element (i := 4) C hiX12_element_X12 rfl dX12_element_56 ?_
      refine g_bipush C dX12_element_59 (by decide) ?_
      refine g_iload_n (i := 1) C dX12_element_61 rfl rfl ?_
      refine g_imul C dX12_element_62 ?_
      refine g_iload_n (i := 2) C dX12_element_63 rfl rfl ?_
      refine g_iadd C dX12_element_64 ?_
      obtain ⟨hb22, hf⟩ := if_inv hf
      refine g_iaload (N := 960) C (by decide) dX12_element_65 rfl hb22 ?_
      refine g_i2l C dX12_element_66 rfl ?_
      refine g_goto (tgt := 71) C dX12_element_67 (by decide) ?_
      obtain ⟨e1, e2⟩ := some_inv hf
      exact g_lret C hr hlk e1 e2 dX12_element_71
/-! X12_copy -/
abbrev rm_X12_copy : Room := { frames := 2, cells := 0, slots := 0, locals := 45 }
theorem hiX12_copy_X12 : ∀ w ∈ u_ws RX12 TX12 24, w ∈ wsX12_copy := fun _ h => (List.mem_cons_of_mem _ (List.mem_append_right _ h))
set_option maxHeartbeats 4000000 in
set_option maxRecDepth 100000 in
theorem it_X12_copy_122 (C : Cx p s m args c cX12_copy 8 RX12 wsX12_copy D ca A) (hr : meth.sig.returnType = (some .int)) (hlk : meth.locks = false) {p1 p2 p3 p4 p5 : Int} {o : (Int × Mem) ⊕ (Mem)} (hc : ∀ (x6 : Int) (σ : Mem), o = .inl (x6, σ) → G p l e rm_X12_copy s m args below meth c 8 D ca ad A 0 0 (MQ below (Qi D ca ad A r0 σ0) args s 0 0 A) σ 122 [some (.ref (ad 120)), some (.int (iI p1)), some (.int (iI p2)), some (.int (iI p3)), some (.int (iI p4)), some (.int (iI p5)), some (.int (iI x6)), none] []) (he : ∀ (σ : Mem), o = .inr σ → G p l e rm_X12_copy s m args below meth c 8 D ca ad A 0 0 (MQ below (Qi D ca ad A r0 σ0) args s 0 0 A) σ 184 [none, none, none, none, none, some (.int (iI p5)), none, none] []) {x6 : Int} {σ : Mem} (hf : f_X12_copy_122 p1 p2 p3 p4 p5 x6 σ = some o) : G p l e rm_X12_copy s m args below meth c 8 D ca ad A 0 0 (MQ below (Qi D ca ad A r0 σ0) args s 0 0 A) σ 122 [some (.ref (ad 120)), some (.int (iI p1)), some (.int (iI p2)), some (.int (iI p3)), some (.int (iI p4)), some (.int (iI p5)), some (.int (iI x6)), none] [] := by
  unfold f_X12_copy_122 at hf
  refine g_iload C dX12_copy_122 rfl ?_
  refine g_iload C dX12_copy_124 rfl ?_
  refine g_icmp_ge (tgt := 184) C dX12_copy_126 (by decide) rfl rfl (fun c21 => ?_) (fun c21 => ?_)
  · have hf := if_t c21 hf
    exact g_mask [false, false, false, false, false, true, false, false] (he _ (Option.some.inj hf).symm)
  · have hf := if_f c21 hf
    refine g_iload_n (i := 2) C dX12_copy_129 rfl rfl ?_
    refine g_iload C dX12_copy_130 rfl ?_
    refine g_icmp_le (tgt := 140) C dX12_copy_132 (by decide) rfl rfl (fun c22 => ?_) (fun c22 => ?_)
    · have hf := if_t c22 hf
      refine g_iload C dX12_copy_140 rfl ?_
      refine g_iconst C dX12_copy_142 ?_
      refine g_isub C dX12_copy_143 ?_
      refine g_iload C dX12_copy_144 rfl ?_
      refine g_isub C dX12_copy_146 ?_
      refine g_istore C dX12_copy_147 (by decide) rfl ?_
      refine g_aload_n (i := 0) C dX12_copy_149 rfl rfl ?_
      refine gg_X12_element (i := 4) C hiX12_copy_X12 rfl dX12_copy_150 ?_
      refine g_bipush C dX12_copy_153 (by decide) ?_
      refine g_iload_n (i := 3) C dX12_copy_155 rfl rfl ?_
      refine g_imul C dX12_copy_156 ?_
      refine g_iload C dX12_copy_157 rfl ?_
      refine g_iadd C dX12_copy_159 ?_
      refine g_iload C dX12_copy_160 rfl ?_
      refine g_iadd C dX12_copy_162 ?_
      refine g_aload_n (i := 0) C dX12_copy_163 rfl rfl ?_
      refine gg_X12_element (i := 4) C hiX12_copy_X12 rfl dX12_copy_164 ?_
      refine g_bipush C dX12_copy_167 (by decide) ?_
      refine g_iload_n (i := 1) C dX12_copy_169 rfl rfl ?_
      refine g_imul C dX12_copy_170 ?_
      refine g_iload_n (i := 2) C dX12_copy_171 rfl rfl ?_
      refine g_iadd C dX12_copy_172 ?_
      refine g_iload C dX12_copy_173 rfl ?_
      refine g_iadd C dX12_copy_175 ?_
      obtain ⟨hb24, hf⟩ := if_inv hf
      refine g_iaload (N := 960) C (by decide) dX12_copy_176 rfl hb24 ?_
      obtain ⟨hb25, hf⟩ := if_inv hf
      refine g_iastore (N := 960) C (by decide) dX12_copy_177 rfl hb25 ?_
      refine g_iinc C dX12_copy_178 rfl (by decide) rfl ?_
      refine g_goto (tgt := 122) C dX12_copy_181 (by decide) ?_
      exact g_mask [true, true, true, true, true, true, true, false] (hc _ _ (Option.some.inj hf).symm)
    · have hf := if_f c22 hf
      refine g_iload C dX12_copy_135 rfl ?_
      refine g_goto (tgt := 147) C dX12_copy_137 (by decide) ?_
      refine g_istore C dX12_copy_147 (by decide) rfl ?_
      refine g_aload_n (i := 0) C dX12_copy_149 rfl rfl ?_
      refine gg_X12_element (i := 4) C hiX12_copy_X12 rfl dX12_copy_150 ?_
      refine g_bipush C dX12_copy_153 (by decide) ?_
      refine g_iload_n (i := 3) C dX12_copy_155 rfl rfl ?_
      refine g_imul C dX12_copy_156 ?_
      refine g_iload C dX12_copy_157 rfl ?_
      refine g_iadd C dX12_copy_159 ?_
      refine g_iload C dX12_copy_160 rfl ?_
      refine g_iadd C dX12_copy_162 ?_
      refine g_aload_n (i := 0) C dX12_copy_163 rfl rfl ?_
      refine gg_X12_element (i := 4) C hiX12_copy_X12 rfl dX12_copy_164 ?_
      refine g_bipush C dX12_copy_167 (by decide) ?_
      refine g_iload_n (i := 1) C dX12_copy_169 rfl rfl ?_
      refine g_imul C dX12_copy_170 ?_
      refine g_iload_n (i := 2) C dX12_copy_171 rfl rfl ?_
      refine g_iadd C dX12_copy_172 ?_
      refine g_iload C dX12_copy_173 rfl ?_
      refine g_iadd C dX12_copy_175 ?_
      obtain ⟨hb27, hf⟩ := if_inv hf
      refine g_iaload (N := 960) C (by decide) dX12_copy_176 rfl hb27 ?_
      obtain ⟨hb28, hf⟩ := if_inv hf
      refine g_iastore (N := 960) C (by decide) dX12_copy_177 rfl hb28 ?_
      refine g_iinc C dX12_copy_178 rfl (by decide) rfl ?_
      refine g_goto (tgt := 122) C dX12_copy_181 (by decide) ?_
      exact g_mask [true, true, true, true, true, true, true, false] (hc _ _ (Option.some.inj hf).symm)
set_option maxHeartbeats 4000000 in
set_option maxRecDepth 100000 in
theorem w_X12_copy_122 (C : Cx p s m args c cX12_copy 8 RX12 wsX12_copy D ca A) (hr : meth.sig.returnType = (some .int)) (hlk : meth.locks = false) {p1 p2 p3 p4 p5 : Int} {n : Nat} {x6 : Int} {σ : Mem} {b : (Mem)} (h : itr (fun z : Int × Mem => f_X12_copy_122 p1 p2 p3 p4 p5 z.1 z.2) n (x6, σ) = some b) (he : ∀ (σ : Mem), b = σ → G p l e rm_X12_copy s m args below meth c 8 D ca ad A 0 0 (MQ below (Qi D ca ad A r0 σ0) args s 0 0 A) σ 184 [none, none, none, none, none, some (.int (iI p5)), none, none] []) : G p l e rm_X12_copy s m args below meth c 8 D ca ad A 0 0 (MQ below (Qi D ca ad A r0 σ0) args s 0 0 A) σ 122 [some (.ref (ad 120)), some (.int (iI p1)), some (.int (iI p2)), some (.int (iI p3)), some (.int (iI p4)), some (.int (iI p5)), some (.int (iI x6)), none] [] :=
  itr_rule (P := fun z : Int × Mem => G p l e rm_X12_copy s m args below meth c 8 D ca ad A 0 0 (MQ below (Qi D ca ad A r0 σ0) args s 0 0 A) z.2 122 [some (.ref (ad 120)), some (.int (iI p1)), some (.int (iI p2)), some (.int (iI p3)), some (.int (iI p4)), some (.int (iI p5)), some (.int (iI z.1)), none] []) (E := fun b => ∀ (σ : Mem), b = σ → G p l e rm_X12_copy s m args below meth c 8 D ca ad A 0 0 (MQ below (Qi D ca ad A r0 σ0) args s 0 0 A) σ 184 [none, none, none, none, none, some (.int (iI p5)), none, none] []) (fun z o hb hc he => it_X12_copy_122 C hr hlk (fun _ _ e => hc _ e) (fun _ e => (he _ e) _ rfl) hb) n _ _ h he
set_option maxHeartbeats 4000000 in
set_option maxRecDepth 100000 in
theorem c_X12_copy {v1 v2 v3 v4 v5 : Int} {σ : Mem} (hf : f_X12_copy v1 v2 v3 v4 v5 σ = some (r0, σ0)) : CTi l D ca ad A yX12_copy wsX12_copy rm_X12_copy [.ref (ad 120), .int (iI v1), .int (iI v2), .int (iI v3), .int (iI v4), .int (iI v5)] σ r0 σ0 := by
  refine ct_i (cc := cX12_copy) (own := RX12) (maxL := 8) (ret := (some .int)) (lv0 := [some (.ref (ad 120)), some (.int (iI v1)), some (.int (iI v2)), some (.int (iI v3)), some (.int (iI v4)), some (.int (iI v5)), none, none]) (by decide) rfl rfl rfl (Nat.le_of_ble_eq_true rfl) ?_
  intro p e s m below meth c C hr hlk hnm
  unfold f_X12_copy at hf
  refine g_iload_n (i := 1) C dX12_copy_0 rfl rfl ?_
  obtain ⟨r2, σ1, h3, hf⟩ := ob_inv hf
  refine g_callSi C (c_X12_isShelf  h3) (va_cwS 1 C.2.2.2.2.1 gX12_copy_X12_isShelf rfl rfl rfl (by decide +kernel) ⟨Nat.le_of_ble_eq_true rfl, Nat.le_of_ble_eq_true rfl⟩) rfl rfl (Nat.le_of_ble_eq_true rfl) dX12_copy_1 ⟨Nat.zero_le _, Nat.zero_le _⟩ ?_
  refine g_if_eq (tgt := 14) C dX12_copy_4 (by decide) rfl (fun c4 => ?_) (fun c4 => ?_)
  · have hf := if_t c4 hf
    refine g_iconst C dX12_copy_14 ?_
    obtain ⟨e1, e2⟩ := some_inv hf
    exact g_iret C hr hlk e1 e2 dX12_copy_15
  · have hf := if_f c4 hf
    refine g_iload_n (i := 3) C dX12_copy_7 rfl rfl ?_
    obtain ⟨r6, σ5, h7, hf⟩ := ob_inv hf
    refine g_callSi C (c_X12_isShelf  h7) (va_cwS 1 C.2.2.2.2.1 gX12_copy_X12_isShelf rfl rfl rfl (by decide +kernel) ⟨Nat.le_of_ble_eq_true rfl, Nat.le_of_ble_eq_true rfl⟩) rfl rfl (Nat.le_of_ble_eq_true rfl) dX12_copy_8 ⟨Nat.zero_le _, Nat.zero_le _⟩ ?_
    refine g_if_ne (tgt := 16) C dX12_copy_11 (by decide) rfl (fun c8 => ?_) (fun c8 => ?_)
    · have hf := if_f c8 hf
      refine g_aload_n (i := 0) C dX12_copy_16 rfl rfl ?_
      refine gg_X12_kept (i := 1) C hiX12_copy_X12 rfl dX12_copy_17 ?_
      refine g_iload_n (i := 1) C dX12_copy_20 rfl rfl ?_
      obtain ⟨hb9, hf⟩ := if_inv hf
      refine g_iaload (N := 8) C (by decide) dX12_copy_21 rfl hb9 ?_
      refine g_if_eq (tgt := 34) C dX12_copy_22 (by decide) rfl (fun c10 => ?_) (fun c10 => ?_)
      · have hf := if_t c10 hf
        refine g_bipush C dX12_copy_34 (by decide) ?_
        obtain ⟨e1, e2⟩ := some_inv hf
        exact g_iret C hr hlk e1 e2 dX12_copy_36
      · have hf := if_f c10 hf
        refine g_aload_n (i := 0) C dX12_copy_25 rfl rfl ?_
        refine gg_X12_kept (i := 1) C hiX12_copy_X12 rfl dX12_copy_26 ?_
        refine g_iload_n (i := 3) C dX12_copy_29 rfl rfl ?_
        obtain ⟨hb11, hf⟩ := if_inv hf
        refine g_iaload (N := 8) C (by decide) dX12_copy_30 rfl hb11 ?_
        refine g_if_ne (tgt := 37) C dX12_copy_31 (by decide) rfl (fun c12 => ?_) (fun c12 => ?_)
        · have hf := if_f c12 hf
          refine g_aload_n (i := 0) C dX12_copy_37 rfl rfl ?_
          refine gg_X12_kept (i := 1) C hiX12_copy_X12 rfl dX12_copy_38 ?_
          refine g_iload_n (i := 1) C dX12_copy_41 rfl rfl ?_
          refine g_iaload (N := 8) C (by decide) dX12_copy_42 rfl hb9 ?_
          refine g_iconst C dX12_copy_43 ?_
          refine g_icmp_ne (b' := 2) (tgt := 72) C dX12_copy_44 (by decide) rfl (by decide) (fun c13 => ?_) (fun c13 => ?_)
          · have hf := if_f c13 hf
            refine g_bipush C dX12_copy_72 (by decide) ?_
            obtain ⟨e1, e2⟩ := some_inv hf
            exact g_iret C hr hlk e1 e2 dX12_copy_74
          · have hf := if_t c13 hf
            refine g_aload_n (i := 0) C dX12_copy_47 rfl rfl ?_
            refine gg_X12_kept (i := 1) C hiX12_copy_X12 rfl dX12_copy_48 ?_
            refine g_iload_n (i := 3) C dX12_copy_51 rfl rfl ?_
            refine g_iaload (N := 8) C (by decide) dX12_copy_52 rfl hb11 ?_
            refine g_iconst C dX12_copy_53 ?_
            refine g_icmp_ne (b' := 2) (tgt := 72) C dX12_copy_54 (by decide) rfl (by decide) (fun c14 => ?_) (fun c14 => ?_)
            · have hf := if_f c14 hf
              refine g_bipush C dX12_copy_72 (by decide) ?_
              obtain ⟨e1, e2⟩ := some_inv hf
              exact g_iret C hr hlk e1 e2 dX12_copy_74
            · have hf := if_t c14 hf
              refine g_aload_n (i := 0) C dX12_copy_57 rfl rfl ?_
              refine gg_X12_sort (i := 2) C hiX12_copy_X12 rfl dX12_copy_58 ?_
              refine g_iload_n (i := 1) C dX12_copy_61 rfl rfl ?_
              refine g_iaload (N := 8) C (by decide) dX12_copy_62 rfl hb9 ?_
              refine g_aload_n (i := 0) C dX12_copy_63 rfl rfl ?_
              refine gg_X12_sort (i := 2) C hiX12_copy_X12 rfl dX12_copy_64 ?_
              refine g_iload_n (i := 3) C dX12_copy_67 rfl rfl ?_
              refine g_iaload (N := 8) C (by decide) dX12_copy_68 rfl hb11 ?_
              refine g_icmp_eq (tgt := 75) C dX12_copy_69 (by decide) rfl rfl (fun c15 => ?_) (fun c15 => ?_)
              · have hf := if_t c15 hf
                refine g_iload C dX12_copy_75 rfl ?_
                refine g_if_lt (tgt := 116) C dX12_copy_77 (by decide) rfl (fun c16 => ?_) (fun c16 => ?_)
                · have hf := if_t c16 hf
                  refine g_bipush C dX12_copy_116 (by decide) ?_
                  obtain ⟨e1, e2⟩ := some_inv hf
                  exact g_iret C hr hlk e1 e2 dX12_copy_118
                · have hf := if_f c16 hf
                  refine g_iload_n (i := 2) C dX12_copy_80 rfl rfl ?_
                  refine g_if_lt (tgt := 116) C dX12_copy_81 (by decide) rfl (fun c17 => ?_) (fun c17 => ?_)
                  · have hf := if_t c17 hf
                    refine g_bipush C dX12_copy_116 (by decide) ?_
                    obtain ⟨e1, e2⟩ := some_inv hf
                    exact g_iret C hr hlk e1 e2 dX12_copy_118
                  · have hf := if_f c17 hf
                    refine g_iload C dX12_copy_84 rfl ?_
                    refine g_if_lt (tgt := 116) C dX12_copy_86 (by decide) rfl (fun c18 => ?_) (fun c18 => ?_)
                    · have hf := if_t c18 hf
                      refine g_bipush C dX12_copy_116 (by decide) ?_
                      obtain ⟨e1, e2⟩ := some_inv hf
                      exact g_iret C hr hlk e1 e2 dX12_copy_118
                    · have hf := if_f c18 hf
                      refine g_iload C dX12_copy_89 rfl ?_
                      refine g_aload_n (i := 0) C dX12_copy_91 rfl rfl ?_
                      refine gg_X12_size (i := 3) C hiX12_copy_X12 rfl dX12_copy_92 ?_
                      refine g_iload_n (i := 1) C dX12_copy_95 rfl rfl ?_
                      refine g_iaload (N := 8) C (by decide) dX12_copy_96 rfl hb9 ?_
                      refine g_iload_n (i := 2) C dX12_copy_97 rfl rfl ?_
                      refine g_isub C dX12_copy_98 ?_
                      refine g_icmp_gt (tgt := 116) C dX12_copy_99 (by decide) rfl rfl (fun c19 => ?_) (fun c19 => ?_)
                      · have hf := if_t c19 hf
                        refine g_bipush C dX12_copy_116 (by decide) ?_
                        obtain ⟨e1, e2⟩ := some_inv hf
                        exact g_iret C hr hlk e1 e2 dX12_copy_118
                      · have hf := if_f c19 hf
                        refine g_iload C dX12_copy_102 rfl ?_
                        refine g_aload_n (i := 0) C dX12_copy_104 rfl rfl ?_
                        refine gg_X12_size (i := 3) C hiX12_copy_X12 rfl dX12_copy_105 ?_
                        refine g_iload_n (i := 3) C dX12_copy_108 rfl rfl ?_
                        refine g_iaload (N := 8) C (by decide) dX12_copy_109 rfl hb11 ?_
                        refine g_iload C dX12_copy_110 rfl ?_
                        refine g_isub C dX12_copy_112 ?_
                        refine g_icmp_le (tgt := 119) C dX12_copy_113 (by decide) rfl rfl (fun c20 => ?_) (fun c20 => ?_)
                        · have hf := if_t c20 hf
                          refine g_iconst C dX12_copy_119 ?_
                          refine g_istore C dX12_copy_120 (by decide) rfl ?_
                          obtain ⟨q30, hl31, hf⟩ := lb_inv hf
                          refine g_mask [true, true, true, true, true, true, true, false] (w_X12_copy_122 C hr hlk hl31 ?_)
                          · rintro σ32 rfl
                            refine g_iload C dX12_copy_184 rfl ?_
                            obtain ⟨e1, e2⟩ := some_inv hf
                            exact g_iret C hr hlk e1 e2 dX12_copy_186
                        · have hf := if_f c20 hf
                          refine g_bipush C dX12_copy_116 (by decide) ?_
                          obtain ⟨e1, e2⟩ := some_inv hf
                          exact g_iret C hr hlk e1 e2 dX12_copy_118
              · have hf := if_f c15 hf
                refine g_bipush C dX12_copy_72 (by decide) ?_
                obtain ⟨e1, e2⟩ := some_inv hf
                exact g_iret C hr hlk e1 e2 dX12_copy_74
        · have hf := if_t c12 hf
          refine g_bipush C dX12_copy_34 (by decide) ?_
          obtain ⟨e1, e2⟩ := some_inv hf
          exact g_iret C hr hlk e1 e2 dX12_copy_36
    · have hf := if_t c8 hf
      refine g_iconst C dX12_copy_14 ?_
      obtain ⟨e1, e2⟩ := some_inv hf
      exact g_iret C hr hlk e1 e2 dX12_copy_15
/-! X12_wrongKept -/
abbrev rm_X12_wrongKept : Room := { frames := 2, cells := 0, slots := 0, locals := 45 }
theorem hiX12_wrongKept_X12 : ∀ w ∈ u_ws RX12 TX12 24, w ∈ wsX12_wrongKept := fun _ h => (List.mem_cons_of_mem _ (List.mem_append_right _ h))
set_option maxHeartbeats 4000000 in
set_option maxRecDepth 100000 in
theorem c_X12_wrongKept {v1 : Int} {σ : Mem} (hf : f_X12_wrongKept v1 σ = some (r0, σ0)) : CTi l D ca ad A yX12_wrongKept wsX12_wrongKept rm_X12_wrongKept [.ref (ad 120), .int (iI v1)] σ r0 σ0 := by
  refine ct_i (cc := cX12_wrongKept) (own := RX12) (maxL := 2) (ret := (some .int)) (lv0 := [some (.ref (ad 120)), some (.int (iI v1))]) (by decide) rfl rfl rfl (Nat.le_of_ble_eq_true rfl) ?_
  intro p e s m below meth c C hr hlk hnm
  unfold f_X12_wrongKept at hf
  refine g_iload_n (i := 1) C dX12_wrongKept_0 rfl rfl ?_
  obtain ⟨r2, σ1, h3, hf⟩ := ob_inv hf
  refine g_callSi C (c_X12_isShelf  h3) (va_cwS 1 C.2.2.2.2.1 gX12_wrongKept_X12_isShelf rfl rfl rfl (by decide +kernel) ⟨Nat.le_of_ble_eq_true rfl, Nat.le_of_ble_eq_true rfl⟩) rfl rfl (Nat.le_of_ble_eq_true rfl) dX12_wrongKept_1 ⟨Nat.zero_le _, Nat.zero_le _⟩ ?_
  refine g_if_ne (tgt := 11) C dX12_wrongKept_4 (by decide) rfl (fun c4 => ?_) (fun c4 => ?_)
  · have hf := if_f c4 hf
    refine g_aload_n (i := 0) C dX12_wrongKept_11 rfl rfl ?_
    refine gg_X12_kept (i := 1) C hiX12_wrongKept_X12 rfl dX12_wrongKept_12 ?_
    refine g_iload_n (i := 1) C dX12_wrongKept_15 rfl rfl ?_
    obtain ⟨hb5, hf⟩ := if_inv hf
    refine g_iaload (N := 8) C (by decide) dX12_wrongKept_16 rfl hb5 ?_
    refine g_if_ne (tgt := 25) C dX12_wrongKept_17 (by decide) rfl (fun c6 => ?_) (fun c6 => ?_)
    · have hf := if_f c6 hf
      refine g_aload_n (i := 0) C dX12_wrongKept_25 rfl rfl ?_
      refine gg_X12_kept (i := 1) C hiX12_wrongKept_X12 rfl dX12_wrongKept_26 ?_
      refine g_iload_n (i := 1) C dX12_wrongKept_29 rfl rfl ?_
      refine g_iaload (N := 8) C (by decide) dX12_wrongKept_30 rfl hb5 ?_
      refine g_iconst C dX12_wrongKept_31 ?_
      refine g_icmp_ne (b' := 1) (tgt := 39) C dX12_wrongKept_32 (by decide) rfl (by decide) (fun c7 => ?_) (fun c7 => ?_)
      · have hf := if_f c7 hf
        refine g_bipush C dX12_wrongKept_39 (by decide) ?_
        obtain ⟨e1, e2⟩ := some_inv hf
        exact g_iret C hr hlk e1 e2 dX12_wrongKept_41
      · have hf := if_t c7 hf
        refine g_iconst C dX12_wrongKept_35 ?_
        refine g_goto (tgt := 41) C dX12_wrongKept_36 (by decide) ?_
        obtain ⟨e1, e2⟩ := some_inv hf
        exact g_iret C hr hlk e1 e2 dX12_wrongKept_41
    · have hf := if_t c6 hf
      refine g_bipush C dX12_wrongKept_20 (by decide) ?_
      refine g_goto (tgt := 41) C dX12_wrongKept_22 (by decide) ?_
      obtain ⟨e1, e2⟩ := some_inv hf
      exact g_iret C hr hlk e1 e2 dX12_wrongKept_41
  · have hf := if_t c4 hf
    refine g_iconst C dX12_wrongKept_7 ?_
    refine g_goto (tgt := 41) C dX12_wrongKept_8 (by decide) ?_
    obtain ⟨e1, e2⟩ := some_inv hf
    exact g_iret C hr hlk e1 e2 dX12_wrongKept_41
/-! X12_breadth -/
abbrev rm_X12_breadth : Room := { frames := 3, cells := 0, slots := 0, locals := 66 }
theorem hiX12_breadth_X12 : ∀ w ∈ u_ws RX12 TX12 24, w ∈ wsX12_breadth := fun _ h => (List.mem_cons_of_mem _ (List.mem_append_right _ h))
set_option maxHeartbeats 4000000 in
set_option maxRecDepth 100000 in
theorem c_X12_breadth {v1 : Int} {σ : Mem} (hf : f_X12_breadth v1 σ = some (r0, σ0)) : CTi l D ca ad A yX12_breadth wsX12_breadth rm_X12_breadth [.ref (ad 120), .int (iI v1)] σ r0 σ0 := by
  refine ct_i (cc := cX12_breadth) (own := RX12) (maxL := 3) (ret := (some .int)) (lv0 := [some (.ref (ad 120)), some (.int (iI v1)), none]) (by decide) rfl rfl rfl (Nat.le_of_ble_eq_true rfl) ?_
  intro p e s m below meth c C hr hlk hnm
  unfold f_X12_breadth at hf
  refine g_aload_n (i := 0) C dX12_breadth_0 rfl rfl ?_
  refine g_iload_n (i := 1) C dX12_breadth_1 rfl rfl ?_
  obtain ⟨r2, σ1, h3, hf⟩ := ob_inv hf
  refine g_callVi C (c_X12_wrongKept  h3) (cwV 1 C.2.2.2.2.1 gX12_breadth_X12_wrongKept rfl rfl rfl (by decide +kernel) ⟨Nat.le_of_ble_eq_true rfl, Nat.le_of_ble_eq_true rfl⟩) ob_X12 rfl rfl rfl rfl (Nat.le_of_ble_eq_true rfl) dX12_breadth_2 ⟨Nat.zero_le _, Nat.zero_le _⟩ ?_
  refine g_istore_n (i := 2) C dX12_breadth_5 rfl (by decide) rfl ?_
  refine g_iload_n (i := 2) C dX12_breadth_6 rfl rfl ?_
  refine g_if_eq (tgt := 14) C dX12_breadth_7 (by decide) rfl (fun c4 => ?_) (fun c4 => ?_)
  · have hf := if_t c4 hf
    refine g_aload_n (i := 0) C dX12_breadth_14 rfl rfl ?_
    refine gg_X12_keptBreadth (i := 1) C hiX12_breadth_X12 rfl dX12_breadth_15 ?_
    refine g_iload_n (i := 1) C dX12_breadth_18 rfl rfl ?_
    obtain ⟨hb5, hf⟩ := if_inv hf
    refine g_iaload (N := 8) C (by decide) dX12_breadth_19 rfl hb5 ?_
    obtain ⟨e1, e2⟩ := some_inv hf
    exact g_iret C hr hlk e1 e2 dX12_breadth_20
  · have hf := if_f c4 hf
    refine g_iload_n (i := 2) C dX12_breadth_10 rfl rfl ?_
    refine g_goto (tgt := 20) C dX12_breadth_11 (by decide) ?_
    obtain ⟨e1, e2⟩ := some_inv hf
    exact g_iret C hr hlk e1 e2 dX12_breadth_20
/-! X12_toss -/
abbrev rm_X12_toss : Room := { frames := 3, cells := 0, slots := 0, locals := 66 }
theorem hiX12_toss_X12 : ∀ w ∈ u_ws RX12 TX12 24, w ∈ wsX12_toss := fun _ h => (List.mem_cons_of_mem _ (List.mem_append_right _ h))
set_option maxHeartbeats 4000000 in
set_option maxRecDepth 100000 in
theorem c_X12_toss {v1 : Int} {σ : Mem} (hf : f_X12_toss v1 σ = some (r0, σ0)) : CTi l D ca ad A yX12_toss wsX12_toss rm_X12_toss [.ref (ad 120), .int (iI v1)] σ r0 σ0 := by
  refine ct_i (cc := cX12_toss) (own := RX12) (maxL := 3) (ret := (some .int)) (lv0 := [some (.ref (ad 120)), some (.int (iI v1)), none]) (by decide) rfl rfl rfl (Nat.le_of_ble_eq_true rfl) ?_
  intro p e s m below meth c C hr hlk hnm
  unfold f_X12_toss at hf
  refine g_aload_n (i := 0) C dX12_toss_0 rfl rfl ?_
  refine g_iload_n (i := 1) C dX12_toss_1 rfl rfl ?_
  obtain ⟨r2, σ1, h3, hf⟩ := ob_inv hf
  refine g_callVi C (c_X12_wrongKept  h3) (cwV 1 C.2.2.2.2.1 gX12_toss_X12_wrongKept rfl rfl rfl (by decide +kernel) ⟨Nat.le_of_ble_eq_true rfl, Nat.le_of_ble_eq_true rfl⟩) ob_X12 rfl rfl rfl rfl (Nat.le_of_ble_eq_true rfl) dX12_toss_2 ⟨Nat.zero_le _, Nat.zero_le _⟩ ?_
  refine g_istore_n (i := 2) C dX12_toss_5 rfl (by decide) rfl ?_
  refine g_iload_n (i := 2) C dX12_toss_6 rfl rfl ?_
  refine g_if_eq (tgt := 14) C dX12_toss_7 (by decide) rfl (fun c4 => ?_) (fun c4 => ?_)
  · have hf := if_t c4 hf
    refine g_aload_n (i := 0) C dX12_toss_14 rfl rfl ?_
    refine gg_X12_keptToss (i := 1) C hiX12_toss_X12 rfl dX12_toss_15 ?_
    refine g_iload_n (i := 1) C dX12_toss_18 rfl rfl ?_
    obtain ⟨hb5, hf⟩ := if_inv hf
    refine g_iaload (N := 8) C (by decide) dX12_toss_19 rfl hb5 ?_
    obtain ⟨e1, e2⟩ := some_inv hf
    exact g_iret C hr hlk e1 e2 dX12_toss_20
  · have hf := if_f c4 hf
    refine g_iload_n (i := 2) C dX12_toss_10 rfl rfl ?_
    refine g_goto (tgt := 20) C dX12_toss_11 (by decide) ?_
    obtain ⟨e1, e2⟩ := some_inv hf
    exact g_iret C hr hlk e1 e2 dX12_toss_20
end Wk
