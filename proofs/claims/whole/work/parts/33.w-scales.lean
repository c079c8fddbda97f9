section Wk
variable {p : Program} {l : Launch} {e : Env} {s : State} {m : MethodId} {args : Array Value} {below : List Frame} {meth : Method} {c : Code}
variable {D : va_G} {ca : Ca} {ad : Int → Nat} {A : Nat → Prop} {r0 : Int} {σ0 : Mem}
/-! X7_lay -/
abbrev rm_X7_lay : Room := { frames := 0, cells := 0, slots := 0, locals := 0 }
theorem hiX7_lay_X4 : ∀ w ∈ u_ws RX4 TX4 9, w ∈ wsX7_lay := fun _ h => (List.mem_cons_of_mem _ (List.mem_append_right _ h))
theorem hiX7_lay_X7 : ∀ w ∈ u_ws RX7 TX7 14, w ∈ wsX7_lay := fun _ h => (List.mem_cons_of_mem _ (List.mem_append_left _ (List.mem_append_right _ h)))
set_option maxHeartbeats 4000000 in
set_option maxRecDepth 100000 in
theorem it_X7_lay_9 (C : Cx p s m args c cX7_lay 4 RX7 wsX7_lay D ca A) (hr : meth.sig.returnType = none) (hlk : meth.locks = false) {o : (Int × Int × Mem) ⊕ (Mem)} (hc : ∀ (x2 x3 : Int) (σ : Mem), o = .inl (x2, x3, σ) → G p l e rm_X7_lay s m args below meth c 4 D ca ad A 0 0 (MQ below (Qv D ca ad A σ0) args s 0 0 A) σ 9 [some (.ref (ad 72)), none, some (.int (iI x2)), some (.int (iI x3))] []) (he : ∀ (σ : Mem), o = .inr σ → G p l e rm_X7_lay s m args below meth c 4 D ca ad A 0 0 (MQ below (Qv D ca ad A σ0) args s 0 0 A) σ 66 [none, none, none, none] []) {x2 x3 : Int} {σ : Mem} (hf : f_X7_lay_9  x2 x3 σ = some o) : G p l e rm_X7_lay s m args below meth c 4 D ca ad A 0 0 (MQ below (Qv D ca ad A σ0) args s 0 0 A) σ 9 [some (.ref (ad 72)), none, some (.int (iI x2)), some (.int (iI x3))] [] := by
  unfold f_X7_lay_9 at hf
  refine g_iload_n (i := 3) C dX7_lay_9 rfl rfl ?_
  refine g_aload_n (i := 0) C dX7_lay_10 rfl rfl ?_
  refine gg_X7_market (i := 2) C hiX7_lay_X7 rfl dX7_lay_11 ?_
  refine gg_X4_sorts (i := 3) C (by decide) hiX7_lay_X4 rfl dX7_lay_14 ?_
  refine g_icmp_ge (tgt := 66) C dX7_lay_17 (by decide) rfl rfl (fun c2 => ?_) (fun c2 => ?_)
  · have hf := if_t c2 hf
    exact g_mask [false, false, false, false] (he _ (Option.some.inj hf).symm)
  · have hf := if_f c2 hf
    refine g_aload_n (i := 0) C dX7_lay_20 rfl rfl ?_
    refine gg_X7_place (i := 4) C hiX7_lay_X7 rfl dX7_lay_21 ?_
    refine g_iload_n (i := 3) C dX7_lay_24 rfl rfl ?_
    refine g_iload_n (i := 2) C dX7_lay_25 rfl rfl ?_
    refine g_iconst C dX7_lay_26 ?_
    refine g_irem (b' := 5) C dX7_lay_27 rfl (by decide) (by decide) ?_
    obtain ⟨hb3, hf⟩ := if_inv hf
    refine g_iastore (N := 4) C (by decide) dX7_lay_28 rfl hb3 ?_
    refine g_iload_n (i := 2) C dX7_lay_29 rfl rfl ?_
    refine g_iconst C dX7_lay_30 ?_
    refine g_idiv (b' := 5) C dX7_lay_31 rfl (by decide) (by decide) ?_
    refine g_istore_n (i := 2) C dX7_lay_32 rfl (by decide) rfl ?_
    refine g_aload_n (i := 0) C dX7_lay_33 rfl rfl ?_
    refine gg_X7_place (i := 4) C hiX7_lay_X7 rfl dX7_lay_34 ?_
    refine g_iload_n (i := 3) C dX7_lay_37 rfl rfl ?_
    refine g_iaload (N := 4) C (by decide) dX7_lay_38 rfl hb3 ?_
    refine g_iconst C dX7_lay_39 ?_
    refine g_icmp_eq (b' := 4) (tgt := 60) C dX7_lay_40 (by decide) rfl (by decide) (fun c6 => ?_) (fun c6 => ?_)
    · have hf := if_t c6 hf
      refine g_iinc C dX7_lay_60 rfl (by decide) rfl ?_
      refine g_goto (tgt := 9) C dX7_lay_63 (by decide) ?_
      exact g_mask [true, false, true, true] (hc _ _ _ (Option.some.inj hf).symm)
    · have hf := if_f c6 hf
      refine g_aload_n (i := 0) C dX7_lay_43 rfl rfl ?_
      refine g_dup C dX7_lay_44 rfl ?_
      refine gg_X7_made (i := 1) C hiX7_lay_X7 rfl dX7_lay_45 ?_
      refine g_iconst C dX7_lay_48 ?_
      refine g_aload_n (i := 0) C dX7_lay_49 rfl rfl ?_
      refine gg_X7_place (i := 4) C hiX7_lay_X7 rfl dX7_lay_50 ?_
      refine g_iload_n (i := 3) C dX7_lay_53 rfl rfl ?_
      refine g_iaload (N := 4) C (by decide) dX7_lay_54 rfl hb3 ?_
      refine g_ishl C dX7_lay_55 ?_
      refine g_ior C dX7_lay_56 ?_
      refine gp_X7_made (i := 1) C hiX7_lay_X7 rfl dX7_lay_57 ?_
      refine g_iinc C dX7_lay_60 rfl (by decide) rfl ?_
      refine g_goto (tgt := 9) C dX7_lay_63 (by decide) ?_
      exact g_mask [true, false, true, true] (hc _ _ _ (Option.some.inj hf).symm)
set_option maxHeartbeats 4000000 in
set_option maxRecDepth 100000 in
theorem w_X7_lay_9 (C : Cx p s m args c cX7_lay 4 RX7 wsX7_lay D ca A) (hr : meth.sig.returnType = none) (hlk : meth.locks = false) {n : Nat} {x2 x3 : Int} {σ : Mem} {b : (Mem)} (h : itr (fun z : Int × Int × Mem => f_X7_lay_9  z.1 z.2.1 z.2.2) n (x2, x3, σ) = some b) (he : ∀ (σ : Mem), b = σ → G p l e rm_X7_lay s m args below meth c 4 D ca ad A 0 0 (MQ below (Qv D ca ad A σ0) args s 0 0 A) σ 66 [none, none, none, none] []) : G p l e rm_X7_lay s m args below meth c 4 D ca ad A 0 0 (MQ below (Qv D ca ad A σ0) args s 0 0 A) σ 9 [some (.ref (ad 72)), none, some (.int (iI x2)), some (.int (iI x3))] [] :=
  itr_rule (P := fun z : Int × Int × Mem => G p l e rm_X7_lay s m args below meth c 4 D ca ad A 0 0 (MQ below (Qv D ca ad A σ0) args s 0 0 A) z.2.2 9 [some (.ref (ad 72)), none, some (.int (iI z.1)), some (.int (iI z.2.1))] []) (E := fun b => ∀ (σ : Mem), b = σ → G p l e rm_X7_lay s m args below meth c 4 D ca ad A 0 0 (MQ below (Qv D ca ad A σ0) args s 0 0 A) σ 66 [none, none, none, none] []) (fun z o hb hc he => it_X7_lay_9 C hr hlk (fun _ _ _ e => hc _ e) (fun _ e => (he _ e) _ rfl) hb) n _ _ h he
set_option maxHeartbeats 4000000 in
set_option maxRecDepth 100000 in
theorem c_X7_lay {v1 : Int} {σ : Mem} (hf : f_X7_lay v1 σ = some (r0, σ0)) : CTv l D ca ad A yX7_lay wsX7_lay rm_X7_lay [.ref (ad 72), .int (iI v1)] σ σ0 := by
  refine ct_v (cc := cX7_lay) (own := RX7) (maxL := 4) (ret := none) (lv0 := [some (.ref (ad 72)), some (.int (iI v1)), none, none]) (by decide) rfl rfl rfl (Nat.le_of_ble_eq_true rfl) ?_
  intro p e s m below meth c C hr hlk hnm
  unfold f_X7_lay at hf
  refine g_iload_n (i := 1) C dX7_lay_0 rfl rfl ?_
  refine g_istore_n (i := 2) C dX7_lay_1 rfl (by decide) rfl ?_
  refine g_aload_n (i := 0) C dX7_lay_2 rfl rfl ?_
  refine g_iconst C dX7_lay_3 ?_
  refine gp_X7_made (i := 1) C hiX7_lay_X7 rfl dX7_lay_4 ?_
  refine g_iconst C dX7_lay_7 ?_
  refine g_istore_n (i := 3) C dX7_lay_8 rfl (by decide) rfl ?_
  obtain ⟨q8, hl9, hf⟩ := lb_inv hf
  refine g_mask [true, false, true, true] (w_X7_lay_9 C hr hlk hl9 ?_)
  · rintro σ10 rfl
    obtain ⟨e1, e2⟩ := some_inv hf
    exact g_vret C hr hlk e2 dX7_lay_66
/-! X7_isMade -/
abbrev rm_X7_isMade : Room := { frames := 0, cells := 0, slots := 0, locals := 0 }
theorem hiX7_isMade_X7 : ∀ w ∈ u_ws RX7 TX7 14, w ∈ wsX7_isMade := fun _ h => (List.mem_cons_of_mem _ (List.mem_append_right _ h))
set_option maxHeartbeats 4000000 in
set_option maxRecDepth 100000 in
theorem c_X7_isMade {v1 : Int} {σ : Mem} (hf : f_X7_isMade v1 σ = some (r0, σ0)) : CTi l D ca ad A yX7_isMade wsX7_isMade rm_X7_isMade [.ref (ad 72), .int (iI v1)] σ r0 σ0 := by
  refine ct_i (cc := cX7_isMade) (own := RX7) (maxL := 2) (ret := (some .boolean)) (lv0 := [some (.ref (ad 72)), some (.int (iI v1))]) (by decide) rfl rfl rfl (Nat.le_of_ble_eq_true rfl) ?_
  intro p e s m below meth c C hr hlk hnm
  unfold f_X7_isMade at hf
  refine g_aload_n (i := 0) C dX7_isMade_0 rfl rfl ?_
  refine gg_X7_made (i := 1) C hiX7_isMade_X7 rfl dX7_isMade_1 ?_
  refine g_iload_n (i := 1) C dX7_isMade_4 rfl rfl ?_
  refine g_ishr C dX7_isMade_5 ?_
  refine g_iconst C dX7_isMade_6 ?_
  refine g_iand C dX7_isMade_7 ?_
  refine g_iconst C dX7_isMade_8 ?_
  refine g_icmp_ne (b' := 1) (tgt := 16) C dX7_isMade_9 (by decide) rfl (by decide) (fun c1 => ?_) (fun c1 => ?_)
  · have hf := if_f c1 hf
    refine g_iconst C dX7_isMade_16 ?_
    obtain ⟨e1, e2⟩ := some_inv hf
    exact g_zret C hr hlk (by decide) e1 e2 dX7_isMade_17
  · have hf := if_t c1 hf
    refine g_iconst C dX7_isMade_12 ?_
    refine g_goto (tgt := 17) C dX7_isMade_13 (by decide) ?_
    obtain ⟨e1, e2⟩ := some_inv hf
    exact g_zret C hr hlk (by decide) e1 e2 dX7_isMade_17
/-! X7_thoughtWorth -/
abbrev rm_X7_thoughtWorth : Room := { frames := 2, cells := 0, slots := 0, locals := 35 }
theorem hiX7_thoughtWorth_X4 : ∀ w ∈ u_ws RX4 TX4 9, w ∈ wsX7_thoughtWorth := fun _ h => (List.mem_cons_of_mem _ (List.mem_append_right _ h))
theorem hiX7_thoughtWorth_X7 : ∀ w ∈ u_ws RX7 TX7 14, w ∈ wsX7_thoughtWorth := fun _ h => (List.mem_cons_of_mem _ (List.mem_append_left _ (List.mem_append_right _ h)))
set_option maxHeartbeats 4000000 in
set_option maxRecDepth 100000 in
theorem c_X7_thoughtWorth {v1 : Int} {σ : Mem} (hf : f_X7_thoughtWorth v1 σ = some (r0, σ0)) : CTi l D ca ad A yX7_thoughtWorth wsX7_thoughtWorth rm_X7_thoughtWorth [.ref (ad 72), .int (iI v1)] σ r0 σ0 := by
  refine ct_i (cc := cX7_thoughtWorth) (own := RX7) (maxL := 4) (ret := (some .int)) (lv0 := [some (.ref (ad 72)), some (.int (iI v1)), none, none]) (by decide) rfl rfl rfl (Nat.le_of_ble_eq_true rfl) ?_
  intro p e s m below meth c C hr hlk hnm
  unfold f_X7_thoughtWorth at hf
  refine g_aload_n (i := 0) C dX7_thoughtWorth_0 rfl rfl ?_
  refine gg_X7_market (i := 1) C hiX7_thoughtWorth_X7 rfl dX7_thoughtWorth_1 ?_
  refine gg_X4_told (i := 2) (b := 15)  C (by decide) (by decide) hiX7_thoughtWorth_X4 rfl dX7_thoughtWorth_4 ?_
  refine g_iload_n (i := 1) C dX7_thoughtWorth_7 rfl rfl ?_
  obtain ⟨hb1, hf⟩ := if_inv hf
  refine g_iaload (N := 4) C (by decide) dX7_thoughtWorth_8 rfl hb1 ?_
  refine g_istore_n (i := 2) C dX7_thoughtWorth_9 rfl (by decide) rfl ?_
  refine g_aload_n (i := 0) C dX7_thoughtWorth_10 rfl rfl ?_
  refine gg_X7_allOpen (i := 3) C hiX7_thoughtWorth_X7 rfl dX7_thoughtWorth_11 ?_
  refine g_if_ne (tgt := 32) C dX7_thoughtWorth_14 (by decide) rfl (fun c3 => ?_) (fun c3 => ?_)
  · have hf := if_f c3 hf
    refine g_iconst C dX7_thoughtWorth_32 ?_
    refine g_istore_n (i := 3) C dX7_thoughtWorth_33 rfl (by decide) rfl ?_
    refine g_iload_n (i := 3) C dX7_thoughtWorth_34 rfl rfl ?_
    refine g_if_eq (a' := 0) (tgt := 50) C dX7_thoughtWorth_35 (by decide) (by decide) (fun c4 => ?_) (fun c4 => absurd c4 (by decide))
    refine g_aload_n (i := 0) C dX7_thoughtWorth_50 rfl rfl ?_
    refine gg_X7_market (i := 1) C hiX7_thoughtWorth_X7 rfl dX7_thoughtWorth_51 ?_
    obtain ⟨r6, σ5, h7, hf⟩ := ob_inv hf
    refine g_callVi C (c_X4_leastWorth (by decide) h7) (cwV 0 C.2.2.2.2.1 gX7_thoughtWorth_X4_leastWorth rfl rfl rfl (by decide +kernel) ⟨Nat.le_of_ble_eq_true rfl, Nat.le_of_ble_eq_true rfl⟩) (ob_X4 (by decide)) rfl rfl rfl rfl (Nat.le_of_ble_eq_true rfl) dX7_thoughtWorth_54 ⟨Nat.zero_le _, Nat.zero_le _⟩ ?_
    obtain ⟨e1, e2⟩ := some_inv hf
    exact g_iret C hr hlk e1 e2 dX7_thoughtWorth_57
  · have hf := if_t c3 hf
    refine g_aload_n (i := 0) C dX7_thoughtWorth_17 rfl rfl ?_
    refine gg_X7_market (i := 1) C hiX7_thoughtWorth_X7 rfl dX7_thoughtWorth_18 ?_
    refine g_iload_n (i := 2) C dX7_thoughtWorth_21 rfl rfl ?_
    obtain ⟨r9, σ8, h10, hf⟩ := ob_inv hf
    refine g_callVi C (c_X4_hasSort (by decide) h10) (cwV 1 C.2.2.2.2.1 gX7_thoughtWorth_X4_hasSort rfl rfl rfl (by decide +kernel) ⟨Nat.le_of_ble_eq_true rfl, Nat.le_of_ble_eq_true rfl⟩) (ob_X4 (by decide)) rfl rfl rfl rfl (Nat.le_of_ble_eq_true rfl) dX7_thoughtWorth_22 ⟨Nat.zero_le _, Nat.zero_le _⟩ ?_
    refine g_if_eq (tgt := 32) C dX7_thoughtWorth_25 (by decide) rfl (fun c11 => ?_) (fun c11 => ?_)
    · have hf := if_t c11 hf
      refine g_iconst C dX7_thoughtWorth_32 ?_
      refine g_istore_n (i := 3) C dX7_thoughtWorth_33 rfl (by decide) rfl ?_
      refine g_iload_n (i := 3) C dX7_thoughtWorth_34 rfl rfl ?_
      refine g_if_eq (a' := 0) (tgt := 50) C dX7_thoughtWorth_35 (by decide) (by decide) (fun c12 => ?_) (fun c12 => absurd c12 (by decide))
      refine g_aload_n (i := 0) C dX7_thoughtWorth_50 rfl rfl ?_
      refine gg_X7_market (i := 1) C hiX7_thoughtWorth_X7 rfl dX7_thoughtWorth_51 ?_
      obtain ⟨r14, σ13, h15, hf⟩ := ob_inv hf
      refine g_callVi C (c_X4_leastWorth (by decide) h15) (cwV 0 C.2.2.2.2.1 gX7_thoughtWorth_X4_leastWorth rfl rfl rfl (by decide +kernel) ⟨Nat.le_of_ble_eq_true rfl, Nat.le_of_ble_eq_true rfl⟩) (ob_X4 (by decide)) rfl rfl rfl rfl (Nat.le_of_ble_eq_true rfl) dX7_thoughtWorth_54 ⟨Nat.zero_le _, Nat.zero_le _⟩ ?_
      obtain ⟨e1, e2⟩ := some_inv hf
      exact g_iret C hr hlk e1 e2 dX7_thoughtWorth_57
    · have hf := if_f c11 hf
      refine g_iconst C dX7_thoughtWorth_28 ?_
      refine g_goto (tgt := 33) C dX7_thoughtWorth_29 (by decide) ?_
      refine g_istore_n (i := 3) C dX7_thoughtWorth_33 rfl (by decide) rfl ?_
      refine g_iload_n (i := 3) C dX7_thoughtWorth_34 rfl rfl ?_
      refine g_if_eq (a' := 1) (tgt := 50) C dX7_thoughtWorth_35 (by decide) (by decide) (fun c16 => absurd c16 (by decide)) (fun c16 => ?_)
      refine g_aload_n (i := 0) C dX7_thoughtWorth_38 rfl rfl ?_
      refine gg_X7_market (i := 1) C hiX7_thoughtWorth_X7 rfl dX7_thoughtWorth_39 ?_
      refine gg_X4_worth (i := 4) (b := 12)  C (by decide) (by decide) hiX7_thoughtWorth_X4 rfl dX7_thoughtWorth_42 ?_
      refine g_iload_n (i := 2) C dX7_thoughtWorth_45 rfl rfl ?_
      obtain ⟨hb17, hf⟩ := if_inv hf
      refine g_iaload (N := 4) C (by decide) dX7_thoughtWorth_46 rfl hb17 ?_
      refine g_goto (tgt := 57) C dX7_thoughtWorth_47 (by decide) ?_
      obtain ⟨e1, e2⟩ := some_inv hf
      exact g_iret C hr hlk e1 e2 dX7_thoughtWorth_57
/-! X7_payMakers -/
abbrev rm_X7_payMakers : Room := { frames := 0, cells := 0, slots := 0, locals := 0 }
theorem hiX7_payMakers_X4 : ∀ w ∈ u_ws RX4 TX4 9, w ∈ wsX7_payMakers := fun _ h => (List.mem_cons_of_mem _ (List.mem_append_right _ h))
theorem hiX7_payMakers_X7 : ∀ w ∈ u_ws RX7 TX7 14, w ∈ wsX7_payMakers := fun _ h => (List.mem_cons_of_mem _ (List.mem_append_left _ (List.mem_append_right _ h)))
set_option maxHeartbeats 4000000 in
set_option maxRecDepth 100000 in
theorem it_X7_payMakers_8 (C : Cx p s m args c cX7_payMakers 7 RX7 wsX7_payMakers D ca A) (hr : meth.sig.returnType = none) (hlk : meth.locks = false) {p1 : Int} {o : (Int × Int × Int × Mem) ⊕ (Int × Int × Mem)} (hc : ∀ (x2 x4 x6 : Int) (σ : Mem), o = .inl (x2, x4, x6, σ) → G p l e rm_X7_payMakers s m args below meth c 7 D ca ad A 0 0 (MQ below (Qv D ca ad A σ0) args s 0 0 A) σ 8 [some (.ref (ad 72)), some (.int (iI p1)), some (.long (lI x2)), none, some (.long (lI x4)), none, some (.int (iI x6))] []) (he : ∀ (y2 y4 : Int) (σ : Mem), o = .inr (y2, y4, σ) → G p l e rm_X7_payMakers s m args below meth c 7 D ca ad A 0 0 (MQ below (Qv D ca ad A σ0) args s 0 0 A) σ 78 [some (.ref (ad 72)), some (.int (iI p1)), some (.long (lI y2)), none, some (.long (lI y4)), none, none] []) {x2 x4 x6 : Int} {σ : Mem} (hf : f_X7_payMakers_8 p1 x2 x4 x6 σ = some o) : G p l e rm_X7_payMakers s m args below meth c 7 D ca ad A 0 0 (MQ below (Qv D ca ad A σ0) args s 0 0 A) σ 8 [some (.ref (ad 72)), some (.int (iI p1)), some (.long (lI x2)), none, some (.long (lI x4)), none, some (.int (iI x6))] [] := by
  unfold f_X7_payMakers_8 at hf
  refine g_iload C dX7_payMakers_8 rfl ?_
  refine g_aload_n (i := 0) C dX7_payMakers_10 rfl rfl ?_
  refine gg_X7_market (i := 1) C hiX7_payMakers_X7 rfl dX7_payMakers_11 ?_
  refine gg_X4_sorts (i := 2) C (by decide) hiX7_payMakers_X4 rfl dX7_payMakers_14 ?_
  refine g_icmp_ge (tgt := 78) C dX7_payMakers_17 (by decide) rfl rfl (fun c1 => ?_) (fun c1 => ?_)
  · have hf := if_t c1 hf
    exact g_mask [true, true, true, false, true, false, false] (he _ _ _ (Option.some.inj hf).symm)
  · have hf := if_f c1 hf
    refine g_aload_n (i := 0) C dX7_payMakers_20 rfl rfl ?_
    refine gg_X7_place (i := 3) C hiX7_payMakers_X7 rfl dX7_payMakers_21 ?_
    refine g_iload C dX7_payMakers_24 rfl ?_
    obtain ⟨hb2, hf⟩ := if_inv hf
    refine g_iaload (N := 4) C (by decide) dX7_payMakers_26 rfl hb2 ?_
    refine g_iload_n (i := 1) C dX7_payMakers_27 rfl rfl ?_
    refine g_icmp_ne (tgt := 72) C dX7_payMakers_28 (by decide) rfl rfl (fun c3 => ?_) (fun c3 => ?_)
    · have hf := if_f c3 hf
      refine g_iinc C dX7_payMakers_72 rfl (by decide) rfl ?_
      refine g_goto (tgt := 8) C dX7_payMakers_75 (by decide) ?_
      exact g_mask [true, true, true, false, true, false, true] (hc _ _ _ _ (Option.some.inj hf).symm)
    · have hf := if_t c3 hf
      refine g_lload_n (i := 2) C dX7_payMakers_31 rfl rfl ?_
      refine g_aload_n (i := 0) C dX7_payMakers_32 rfl rfl ?_
      refine gg_X7_market (i := 1) C hiX7_payMakers_X7 rfl dX7_payMakers_33 ?_
      refine gg_X4_chance (i := 4) (b := 11)  C (by decide) (by decide) hiX7_payMakers_X4 rfl dX7_payMakers_36 ?_
      refine g_iload C dX7_payMakers_39 rfl ?_
      refine g_iaload (N := 4) C (by decide) dX7_payMakers_41 rfl hb2 ?_
      refine g_i2l C dX7_payMakers_42 rfl ?_
      refine g_ladd C dX7_payMakers_43 ?_
      refine g_lstore_n (i := 2) C dX7_payMakers_44 rfl (by decide) rfl ?_
      refine g_lload C dX7_payMakers_45 rfl ?_
      refine g_aload_n (i := 0) C dX7_payMakers_47 rfl rfl ?_
      refine gg_X7_market (i := 1) C hiX7_payMakers_X7 rfl dX7_payMakers_48 ?_
      refine gg_X4_chance (i := 4) (b := 11)  C (by decide) (by decide) hiX7_payMakers_X4 rfl dX7_payMakers_51 ?_
      refine g_iload C dX7_payMakers_54 rfl ?_
      refine g_iaload (N := 4) C (by decide) dX7_payMakers_56 rfl hb2 ?_
      refine g_aload_n (i := 0) C dX7_payMakers_57 rfl rfl ?_
      refine gg_X7_market (i := 1) C hiX7_payMakers_X7 rfl dX7_payMakers_58 ?_
      refine gg_X4_worth (i := 5) (b := 12)  C (by decide) (by decide) hiX7_payMakers_X4 rfl dX7_payMakers_61 ?_
      refine g_iload C dX7_payMakers_64 rfl ?_
      refine g_iaload (N := 4) C (by decide) dX7_payMakers_66 rfl hb2 ?_
      refine g_imul C dX7_payMakers_67 ?_
      refine g_i2l C dX7_payMakers_68 rfl ?_
      refine g_ladd C dX7_payMakers_69 ?_
      refine g_lstore C dX7_payMakers_70 (by decide) rfl ?_
      refine g_iinc C dX7_payMakers_72 rfl (by decide) rfl ?_
      refine g_goto (tgt := 8) C dX7_payMakers_75 (by decide) ?_
      exact g_mask [true, true, true, false, true, false, true] (hc _ _ _ _ (Option.some.inj hf).symm)
set_option maxHeartbeats 4000000 in
set_option maxRecDepth 100000 in
theorem w_X7_payMakers_8 (C : Cx p s m args c cX7_payMakers 7 RX7 wsX7_payMakers D ca A) (hr : meth.sig.returnType = none) (hlk : meth.locks = false) {p1 : Int} {n : Nat} {x2 x4 x6 : Int} {σ : Mem} {b : (Int × Int × Mem)} (h : itr (fun z : Int × Int × Int × Mem => f_X7_payMakers_8 p1 z.1 z.2.1 z.2.2.1 z.2.2.2) n (x2, x4, x6, σ) = some b) (he : ∀ (y2 y4 : Int) (σ : Mem), b = (y2, y4, σ) → G p l e rm_X7_payMakers s m args below meth c 7 D ca ad A 0 0 (MQ below (Qv D ca ad A σ0) args s 0 0 A) σ 78 [some (.ref (ad 72)), some (.int (iI p1)), some (.long (lI y2)), none, some (.long (lI y4)), none, none] []) : G p l e rm_X7_payMakers s m args below meth c 7 D ca ad A 0 0 (MQ below (Qv D ca ad A σ0) args s 0 0 A) σ 8 [some (.ref (ad 72)), some (.int (iI p1)), some (.long (lI x2)), none, some (.long (lI x4)), none, some (.int (iI x6))] [] :=
  itr_rule (P := fun z : Int × Int × Int × Mem => G p l e rm_X7_payMakers s m args below meth c 7 D ca ad A 0 0 (MQ below (Qv D ca ad A σ0) args s 0 0 A) z.2.2.2 8 [some (.ref (ad 72)), some (.int (iI p1)), some (.long (lI z.1)), none, some (.long (lI z.2.1)), none, some (.int (iI z.2.2.1))] []) (E := fun b => ∀ (y2 y4 : Int) (σ : Mem), b = (y2, y4, σ) → G p l e rm_X7_payMakers s m args below meth c 7 D ca ad A 0 0 (MQ below (Qv D ca ad A σ0) args s 0 0 A) σ 78 [some (.ref (ad 72)), some (.int (iI p1)), some (.long (lI y2)), none, some (.long (lI y4)), none, none] []) (fun z o hb hc he => it_X7_payMakers_8 C hr hlk (fun _ _ _ _ e => hc _ e) (fun _ _ _ e => (he _ e) _ _ _ rfl) hb) n _ _ h he
set_option maxHeartbeats 4000000 in
set_option maxRecDepth 100000 in
theorem c_X7_payMakers {v1 : Int} {σ : Mem} (hf : f_X7_payMakers v1 σ = some (r0, σ0)) : CTv l D ca ad A yX7_payMakers wsX7_payMakers rm_X7_payMakers [.ref (ad 72), .int (iI v1)] σ σ0 := by
  refine ct_v (cc := cX7_payMakers) (own := RX7) (maxL := 7) (ret := none) (lv0 := [some (.ref (ad 72)), some (.int (iI v1)), none, none, none, none, none]) (by decide) rfl rfl rfl (Nat.le_of_ble_eq_true rfl) ?_
  intro p e s m below meth c C hr hlk hnm
  unfold f_X7_payMakers at hf
  refine g_lconst (z := 0) C dX7_payMakers_0 (by decide) ?_
  refine g_lstore_n (i := 2) C dX7_payMakers_1 rfl (by decide) rfl ?_
  refine g_lconst (z := 0) C dX7_payMakers_2 (by decide) ?_
  refine g_lstore C dX7_payMakers_3 (by decide) rfl ?_
  refine g_iconst C dX7_payMakers_5 ?_
  refine g_istore C dX7_payMakers_6 (by decide) rfl ?_
  obtain ⟨q6, hl7, hf⟩ := lb_inv hf
  refine g_mask [true, true, true, false, true, false, true] (w_X7_payMakers_8 C hr hlk hl7 ?_)
  · rintro y8 y9 σ10 rfl
    refine g_aload_n (i := 0) C dX7_payMakers_78 rfl rfl ?_
    refine gg_X7_payTop (i := 6) C hiX7_payMakers_X7 rfl dX7_payMakers_79 ?_
    refine g_iload_n (i := 1) C dX7_payMakers_82 rfl rfl ?_
    refine g_lload C dX7_payMakers_83 rfl ?_
    refine g_lload_n (i := 2) C dX7_payMakers_85 rfl rfl ?_
    refine g_aload_n (i := 0) C dX7_payMakers_86 rfl rfl ?_
    refine gg_X7_market (i := 1) C hiX7_payMakers_X7 rfl dX7_payMakers_87 ?_
    refine gg_X4_use (i := 7) (b := 14)  C (by decide) (by decide) hiX7_payMakers_X4 rfl dX7_payMakers_90 ?_
    refine g_iload_n (i := 1) C dX7_payMakers_93 rfl rfl ?_
    obtain ⟨hb11, hf⟩ := if_inv hf
    refine g_iaload (N := 4) C (by decide) dX7_payMakers_94 rfl hb11 ?_
    refine g_i2l C dX7_payMakers_95 rfl ?_
    refine g_lmul C dX7_payMakers_96 ?_
    refine g_ladd C dX7_payMakers_97 ?_
    refine g_lastore (N := 4) C (by decide) dX7_payMakers_98 rfl hb11 ?_
    refine g_aload_n (i := 0) C dX7_payMakers_99 rfl rfl ?_
    refine gg_X7_payUnder (i := 8) C hiX7_payMakers_X7 rfl dX7_payMakers_100 ?_
    refine g_iload_n (i := 1) C dX7_payMakers_103 rfl rfl ?_
    refine g_lload_n (i := 2) C dX7_payMakers_104 rfl rfl ?_
    refine g_lastore (N := 4) C (by decide) dX7_payMakers_105 rfl hb11 ?_
    obtain ⟨e1, e2⟩ := some_inv hf
    exact g_vret C hr hlk e2 dX7_payMakers_106
/-! X7_weigh -/
abbrev rm_X7_weigh : Room := { frames := 3, cells := 0, slots := 0, locals := 58 }
theorem hiX7_weigh_X4 : ∀ w ∈ u_ws RX4 TX4 9, w ∈ wsX7_weigh := fun _ h => (List.mem_cons_of_mem _ (List.mem_append_right _ h))
theorem hiX7_weigh_X7 : ∀ w ∈ u_ws RX7 TX7 14, w ∈ wsX7_weigh := fun _ h => (List.mem_cons_of_mem _ (List.mem_append_left _ (List.mem_append_right _ h)))
set_option maxHeartbeats 4000000 in
set_option maxRecDepth 100000 in
theorem it_X7_weigh_7 (C : Cx p s m args c cX7_weigh 3 RX7 wsX7_weigh D ca A) (hr : meth.sig.returnType = none) (hlk : meth.locks = false) {o : (Int × Mem) ⊕ (Mem)} (hc : ∀ (x2 : Int) (σ : Mem), o = .inl (x2, σ) → G p l e rm_X7_weigh s m args below meth c 3 D ca ad A 0 0 (MQ below (Qv D ca ad A σ0) args s 0 0 A) σ 7 [some (.ref (ad 72)), none, some (.int (iI x2))] []) (he : ∀ (σ : Mem), o = .inr σ → G p l e rm_X7_weigh s m args below meth c 3 D ca ad A 0 0 (MQ below (Qv D ca ad A σ0) args s 0 0 A) σ 69 [none, none, none] []) {x2 : Int} {σ : Mem} (hf : f_X7_weigh_7  x2 σ = some o) : G p l e rm_X7_weigh s m args below meth c 3 D ca ad A 0 0 (MQ below (Qv D ca ad A σ0) args s 0 0 A) σ 7 [some (.ref (ad 72)), none, some (.int (iI x2))] [] := by
  unfold f_X7_weigh_7 at hf
  refine g_iload_n (i := 2) C dX7_weigh_7 rfl rfl ?_
  refine g_aload_n (i := 0) C dX7_weigh_8 rfl rfl ?_
  refine gg_X7_market (i := 1) C hiX7_weigh_X7 rfl dX7_weigh_9 ?_
  refine gg_X4_marks (i := 2) C (by decide) hiX7_weigh_X4 rfl dX7_weigh_12 ?_
  refine g_icmp_ge (tgt := 69) C dX7_weigh_15 (by decide) rfl rfl (fun c4 => ?_) (fun c4 => ?_)
  · have hf := if_t c4 hf
    exact g_mask [false, false, false] (he _ (Option.some.inj hf).symm)
  · have hf := if_f c4 hf
    refine g_aload_n (i := 0) C dX7_weigh_18 rfl rfl ?_
    refine g_iload_n (i := 2) C dX7_weigh_19 rfl rfl ?_
    obtain ⟨r6, σ5, h7, hf⟩ := ob_inv hf
    refine g_callVi C (c_X7_isMade  h7) (cwV 1 C.2.2.2.2.1 gX7_weigh_X7_isMade rfl rfl rfl (by decide +kernel) ⟨Nat.le_of_ble_eq_true rfl, Nat.le_of_ble_eq_true rfl⟩) ob_X7 rfl rfl rfl rfl (Nat.le_of_ble_eq_true rfl) dX7_weigh_20 ⟨Nat.zero_le _, Nat.zero_le _⟩ ?_
    refine g_if_eq (tgt := 34) C dX7_weigh_23 (by decide) rfl (fun c8 => ?_) (fun c8 => ?_)
    · have hf := if_t c8 hf
      refine g_aload_n (i := 0) C dX7_weigh_34 rfl rfl ?_
      refine gg_X7_payTop (i := 3) C hiX7_weigh_X7 rfl dX7_weigh_35 ?_
      refine g_iload_n (i := 2) C dX7_weigh_38 rfl rfl ?_
      refine g_aload_n (i := 0) C dX7_weigh_39 rfl rfl ?_
      refine g_iload_n (i := 2) C dX7_weigh_40 rfl rfl ?_
      obtain ⟨r10, σ9, h11, hf⟩ := ob_inv hf
      refine g_callVi C (c_X7_thoughtWorth  h11) (cwV 1 C.2.2.2.2.1 gX7_weigh_X7_thoughtWorth rfl rfl rfl (by decide +kernel) ⟨Nat.le_of_ble_eq_true rfl, Nat.le_of_ble_eq_true rfl⟩) ob_X7 rfl rfl rfl rfl (Nat.le_of_ble_eq_true rfl) dX7_weigh_41 ⟨Nat.zero_le _, Nat.zero_le _⟩ ?_
      refine g_aload_n (i := 0) C dX7_weigh_44 rfl rfl ?_
      refine gg_X7_market (i := 1) C hiX7_weigh_X7 rfl dX7_weigh_45 ?_
      refine gg_X4_use (i := 4) (b := 14)  C (by decide) (by decide) hiX7_weigh_X4 rfl dX7_weigh_48 ?_
      refine g_iload_n (i := 2) C dX7_weigh_51 rfl rfl ?_
      obtain ⟨hb12, hf⟩ := if_inv hf
      refine g_iaload (N := 4) C (by decide) dX7_weigh_52 rfl hb12 ?_
      refine g_iadd C dX7_weigh_53 ?_
      refine g_i2l C dX7_weigh_54 rfl ?_
      refine g_lastore (N := 4) C (by decide) dX7_weigh_55 rfl hb12 ?_
      refine g_aload_n (i := 0) C dX7_weigh_56 rfl rfl ?_
      refine gg_X7_payUnder (i := 5) C hiX7_weigh_X7 rfl dX7_weigh_57 ?_
      refine g_iload_n (i := 2) C dX7_weigh_60 rfl rfl ?_
      refine g_lconst (z := 1) C dX7_weigh_61 (by decide) ?_
      refine g_lastore (N := 4) C (by decide) dX7_weigh_62 rfl hb12 ?_
      refine g_iinc C dX7_weigh_63 rfl (by decide) rfl ?_
      refine g_goto (tgt := 7) C dX7_weigh_66 (by decide) ?_
      exact g_mask [true, false, true] (hc _ _ (Option.some.inj hf).symm)
    · have hf := if_f c8 hf
      refine g_aload_n (i := 0) C dX7_weigh_26 rfl rfl ?_
      refine g_iload_n (i := 2) C dX7_weigh_27 rfl rfl ?_
      obtain ⟨r16, σ15, h17, hf⟩ := ob_inv hf
      refine g_callVv C (c_X7_payMakers  h17) (cwV 1 C.2.2.2.2.1 gX7_weigh_X7_payMakers rfl rfl rfl (by decide +kernel) ⟨Nat.le_of_ble_eq_true rfl, Nat.le_of_ble_eq_true rfl⟩) ob_X7 rfl rfl rfl rfl (Nat.le_of_ble_eq_true rfl) dX7_weigh_28 ⟨Nat.zero_le _, Nat.zero_le _⟩ ?_
      refine g_goto (tgt := 63) C dX7_weigh_31 (by decide) ?_
      refine g_iinc C dX7_weigh_63 rfl (by decide) rfl ?_
      refine g_goto (tgt := 7) C dX7_weigh_66 (by decide) ?_
      exact g_mask [true, false, true] (hc _ _ (Option.some.inj hf).symm)
set_option maxHeartbeats 4000000 in
set_option maxRecDepth 100000 in
theorem w_X7_weigh_7 (C : Cx p s m args c cX7_weigh 3 RX7 wsX7_weigh D ca A) (hr : meth.sig.returnType = none) (hlk : meth.locks = false) {n : Nat} {x2 : Int} {σ : Mem} {b : (Mem)} (h : itr (fun z : Int × Mem => f_X7_weigh_7  z.1 z.2) n (x2, σ) = some b) (he : ∀ (σ : Mem), b = σ → G p l e rm_X7_weigh s m args below meth c 3 D ca ad A 0 0 (MQ below (Qv D ca ad A σ0) args s 0 0 A) σ 69 [none, none, none] []) : G p l e rm_X7_weigh s m args below meth c 3 D ca ad A 0 0 (MQ below (Qv D ca ad A σ0) args s 0 0 A) σ 7 [some (.ref (ad 72)), none, some (.int (iI x2))] [] :=
  itr_rule (P := fun z : Int × Mem => G p l e rm_X7_weigh s m args below meth c 3 D ca ad A 0 0 (MQ below (Qv D ca ad A σ0) args s 0 0 A) z.2 7 [some (.ref (ad 72)), none, some (.int (iI z.1))] []) (E := fun b => ∀ (σ : Mem), b = σ → G p l e rm_X7_weigh s m args below meth c 3 D ca ad A 0 0 (MQ below (Qv D ca ad A σ0) args s 0 0 A) σ 69 [none, none, none] []) (fun z o hb hc he => it_X7_weigh_7 C hr hlk (fun _ _ e => hc _ e) (fun _ e => (he _ e) _ rfl) hb) n _ _ h he
set_option maxHeartbeats 4000000 in
set_option maxRecDepth 100000 in
theorem c_X7_weigh {v1 : Int} {σ : Mem} (hf : f_X7_weigh v1 σ = some (r0, σ0)) : CTv l D ca ad A yX7_weigh wsX7_weigh rm_X7_weigh [.ref (ad 72), .int (iI v1)] σ σ0 := by
  refine ct_v (cc := cX7_weigh) (own := RX7) (maxL := 3) (ret := none) (lv0 := [some (.ref (ad 72)), some (.int (iI v1)), none]) (by decide) rfl rfl rfl (Nat.le_of_ble_eq_true rfl) ?_
  intro p e s m below meth c C hr hlk hnm
  unfold f_X7_weigh at hf
  refine g_aload_n (i := 0) C dX7_weigh_0 rfl rfl ?_
  refine g_iload_n (i := 1) C dX7_weigh_1 rfl rfl ?_
  obtain ⟨r2, σ1, h3, hf⟩ := ob_inv hf
  refine g_callVv C (c_X7_lay  h3) (cwV 1 C.2.2.2.2.1 gX7_weigh_X7_lay rfl rfl rfl (by decide +kernel) ⟨Nat.le_of_ble_eq_true rfl, Nat.le_of_ble_eq_true rfl⟩) ob_X7 rfl rfl rfl rfl (Nat.le_of_ble_eq_true rfl) dX7_weigh_2 ⟨Nat.zero_le _, Nat.zero_le _⟩ ?_
  refine g_iconst C dX7_weigh_5 ?_
  refine g_istore_n (i := 2) C dX7_weigh_6 rfl (by decide) rfl ?_
  obtain ⟨q18, hl19, hf⟩ := lb_inv hf
  refine g_mask [true, false, true] (w_X7_weigh_7 C hr hlk hl19 ?_)
  · rintro σ20 rfl
    obtain ⟨e1, e2⟩ := some_inv hf
    exact g_vret C hr hlk e2 dX7_weigh_69
/-! X7_lookOver -/
abbrev rm_X7_lookOver : Room := { frames := 1, cells := 0, slots := 0, locals := 16 }
theorem hiX7_lookOver_X4 : ∀ w ∈ u_ws RX4 TX4 9, w ∈ wsX7_lookOver := fun _ h => (List.mem_cons_of_mem _ (List.mem_append_right _ h))
theorem hiX7_lookOver_X7 : ∀ w ∈ u_ws RX7 TX7 14, w ∈ wsX7_lookOver := fun _ h => (List.mem_cons_of_mem _ (List.mem_append_left _ (List.mem_append_right _ h)))
set_option maxHeartbeats 4000000 in
set_option maxRecDepth 100000 in
theorem it_X7_lookOver_20 (C : Cx p s m args c cX7_lookOver 3 RX7 wsX7_lookOver D ca A) (hr : meth.sig.returnType = none) (hlk : meth.locks = false) {p1 : Int} {o : (Int × Mem) ⊕ (Mem)} (hc : ∀ (x2 : Int) (σ : Mem), o = .inl (x2, σ) → G p l e rm_X7_lookOver s m args below meth c 3 D ca ad A 0 0 (MQ below (Qv D ca ad A σ0) args s 0 0 A) σ 20 [some (.ref (ad 72)), some (.int (iI p1)), some (.int (iI x2))] []) (he : ∀ (σ : Mem), o = .inr σ → G p l e rm_X7_lookOver s m args below meth c 3 D ca ad A 0 0 (MQ below (Qv D ca ad A σ0) args s 0 0 A) σ 55 [none, none, none] []) {x2 : Int} {σ : Mem} (hf : f_X7_lookOver_20 p1 x2 σ = some o) : G p l e rm_X7_lookOver s m args below meth c 3 D ca ad A 0 0 (MQ below (Qv D ca ad A σ0) args s 0 0 A) σ 20 [some (.ref (ad 72)), some (.int (iI p1)), some (.int (iI x2))] [] := by
  unfold f_X7_lookOver_20 at hf
  refine g_iload_n (i := 2) C dX7_lookOver_20 rfl rfl ?_
  refine g_iload_n (i := 1) C dX7_lookOver_21 rfl rfl ?_
  refine g_icmp_ge (tgt := 55) C dX7_lookOver_22 (by decide) rfl rfl (fun c4 => ?_) (fun c4 => ?_)
  · have hf := if_t c4 hf
    exact g_mask [false, false, false] (he _ (Option.some.inj hf).symm)
  · have hf := if_f c4 hf
    refine g_aload_n (i := 0) C dX7_lookOver_25 rfl rfl ?_
    refine g_dup C dX7_lookOver_26 rfl ?_
    refine gg_X7_known (i := 4) C hiX7_lookOver_X7 rfl dX7_lookOver_27 ?_
    refine g_bipush C dX7_lookOver_30 (by decide) ?_
    refine g_aload_n (i := 0) C dX7_lookOver_32 rfl rfl ?_
    refine gg_X7_market (i := 5) C hiX7_lookOver_X7 rfl dX7_lookOver_33 ?_
    refine gg_X4_rate (i := 6) C (by decide) hiX7_lookOver_X4 rfl dX7_lookOver_36 ?_
    refine g_iload_n (i := 2) C dX7_lookOver_39 rfl rfl ?_
    refine g_imul C dX7_lookOver_40 ?_
    refine g_min (i1 := 7) (i2 := 8) (i3 := 9) (i4 := 10) C rfl rfl rfl rfl (by decide) (Nat.le_of_ble_eq_true rfl) ⟨Nat.zero_le _, Nat.zero_le _⟩ dX7_lookOver_41 ?_
    refine g_i2l C dX7_lookOver_44 rfl ?_
    refine g_ladd C dX7_lookOver_45 ?_
    refine gp_X7_known (i := 4) C hiX7_lookOver_X7 rfl dX7_lookOver_46 ?_
    refine g_iinc C dX7_lookOver_49 rfl (by decide) rfl ?_
    refine g_goto (tgt := 20) C dX7_lookOver_52 (by decide) ?_
    exact g_mask [true, true, true] (hc _ _ (Option.some.inj hf).symm)
set_option maxHeartbeats 4000000 in
set_option maxRecDepth 100000 in
theorem w_X7_lookOver_20 (C : Cx p s m args c cX7_lookOver 3 RX7 wsX7_lookOver D ca A) (hr : meth.sig.returnType = none) (hlk : meth.locks = false) {p1 : Int} {n : Nat} {x2 : Int} {σ : Mem} {b : (Mem)} (h : itr (fun z : Int × Mem => f_X7_lookOver_20 p1 z.1 z.2) n (x2, σ) = some b) (he : ∀ (σ : Mem), b = σ → G p l e rm_X7_lookOver s m args below meth c 3 D ca ad A 0 0 (MQ below (Qv D ca ad A σ0) args s 0 0 A) σ 55 [none, none, none] []) : G p l e rm_X7_lookOver s m args below meth c 3 D ca ad A 0 0 (MQ below (Qv D ca ad A σ0) args s 0 0 A) σ 20 [some (.ref (ad 72)), some (.int (iI p1)), some (.int (iI x2))] [] :=
  itr_rule (P := fun z : Int × Mem => G p l e rm_X7_lookOver s m args below meth c 3 D ca ad A 0 0 (MQ below (Qv D ca ad A σ0) args s 0 0 A) z.2 20 [some (.ref (ad 72)), some (.int (iI p1)), some (.int (iI z.1))] []) (E := fun b => ∀ (σ : Mem), b = σ → G p l e rm_X7_lookOver s m args below meth c 3 D ca ad A 0 0 (MQ below (Qv D ca ad A σ0) args s 0 0 A) σ 55 [none, none, none] []) (fun z o hb hc he => it_X7_lookOver_20 C hr hlk (fun _ _ e => hc _ e) (fun _ e => (he _ e) _ rfl) hb) n _ _ h he
set_option maxHeartbeats 4000000 in
set_option maxRecDepth 100000 in
theorem c_X7_lookOver {v1 : Int} {σ : Mem} (hf : f_X7_lookOver v1 σ = some (r0, σ0)) : CTv l D ca ad A yX7_lookOver wsX7_lookOver rm_X7_lookOver [.ref (ad 72), .int (iI v1)] σ σ0 := by
  refine ct_v (cc := cX7_lookOver) (own := RX7) (maxL := 3) (ret := none) (lv0 := [some (.ref (ad 72)), some (.int (iI v1)), none]) (by decide) rfl rfl rfl (Nat.le_of_ble_eq_true rfl) ?_
  intro p e s m below meth c C hr hlk hnm
  unfold f_X7_lookOver at hf
  refine g_aload_n (i := 0) C dX7_lookOver_0 rfl rfl ?_
  refine g_ldc2 (i := 1) (z := 100) C dX7_lookOver_1 rfl (by decide) ?_
  refine gp_X7_whole (i := 2) C hiX7_lookOver_X7 rfl dX7_lookOver_4 ?_
  refine g_aload_n (i := 0) C dX7_lookOver_7 rfl rfl ?_
  refine g_iload_n (i := 1) C dX7_lookOver_8 rfl rfl ?_
  refine g_i2l C dX7_lookOver_9 rfl ?_
  refine gp_X7_span (i := 3) C hiX7_lookOver_X7 rfl dX7_lookOver_10 ?_
  refine g_aload_n (i := 0) C dX7_lookOver_13 rfl rfl ?_
  refine g_lconst (z := 0) C dX7_lookOver_14 (by decide) ?_
  refine gp_X7_known (i := 4) C hiX7_lookOver_X7 rfl dX7_lookOver_15 ?_
  refine g_iconst C dX7_lookOver_18 ?_
  refine g_istore_n (i := 2) C dX7_lookOver_19 rfl (by decide) rfl ?_
  obtain ⟨q6, hl7, hf⟩ := lb_inv hf
  refine g_mask [true, true, true] (w_X7_lookOver_20 C hr hlk hl7 ?_)
  · rintro σ8 rfl
    obtain ⟨e1, e2⟩ := some_inv hf
    exact g_vret C hr hlk e2 dX7_lookOver_55
/-! X7_lookAtOnce -/
abbrev rm_X7_lookAtOnce : Room := { frames := 0, cells := 0, slots := 0, locals := 0 }
theorem hiX7_lookAtOnce_X7 : ∀ w ∈ u_ws RX7 TX7 14, w ∈ wsX7_lookAtOnce := fun _ h => (List.mem_cons_of_mem _ (List.mem_append_right _ h))
set_option maxHeartbeats 4000000 in
set_option maxRecDepth 100000 in
theorem c_X7_lookAtOnce {σ : Mem} (hf : f_X7_lookAtOnce  σ = some (r0, σ0)) : CTv l D ca ad A yX7_lookAtOnce wsX7_lookAtOnce rm_X7_lookAtOnce [.ref (ad 72)] σ σ0 := by
  refine ct_v (cc := cX7_lookAtOnce) (own := RX7) (maxL := 1) (ret := none) (lv0 := [some (.ref (ad 72))]) (by decide) rfl rfl rfl (Nat.le_of_ble_eq_true rfl) ?_
  intro p e s m below meth c C hr hlk hnm
  unfold f_X7_lookAtOnce at hf
  refine g_aload_n (i := 0) C dX7_lookAtOnce_0 rfl rfl ?_
  refine g_lconst (z := 1) C dX7_lookAtOnce_1 (by decide) ?_
  refine gp_X7_whole (i := 1) C hiX7_lookAtOnce_X7 rfl dX7_lookAtOnce_2 ?_
  refine g_aload_n (i := 0) C dX7_lookAtOnce_5 rfl rfl ?_
  refine g_lconst (z := 1) C dX7_lookAtOnce_6 (by decide) ?_
  refine gp_X7_span (i := 2) C hiX7_lookAtOnce_X7 rfl dX7_lookAtOnce_7 ?_
  refine g_aload_n (i := 0) C dX7_lookAtOnce_10 rfl rfl ?_
  refine g_lconst (z := 0) C dX7_lookAtOnce_11 (by decide) ?_
  refine gp_X7_known (i := 3) C hiX7_lookAtOnce_X7 rfl dX7_lookAtOnce_12 ?_
  obtain ⟨e1, e2⟩ := some_inv hf
  exact g_vret C hr hlk e2 dX7_lookAtOnce_15
/-! X7_topAt -/
abbrev rm_X7_topAt : Room := { frames := 0, cells := 0, slots := 0, locals := 0 }
theorem hiX7_topAt_X4 : ∀ w ∈ u_ws RX4 TX4 9, w ∈ wsX7_topAt := fun _ h => (List.mem_cons_of_mem _ (List.mem_append_right _ h))
theorem hiX7_topAt_X7 : ∀ w ∈ u_ws RX7 TX7 14, w ∈ wsX7_topAt := fun _ h => (List.mem_cons_of_mem _ (List.mem_append_left _ (List.mem_append_right _ h)))
set_option maxHeartbeats 4000000 in
set_option maxRecDepth 100000 in
theorem c_X7_topAt {v1 v2 : Int} {σ : Mem} (hf : f_X7_topAt v1 v2 σ = some (r0, σ0)) : CTl l D ca ad A yX7_topAt wsX7_topAt rm_X7_topAt [.ref (ad 72), .int (iI v1), .int (iI v2)] σ r0 σ0 := by
  refine ct_l (cc := cX7_topAt) (own := RX7) (maxL := 9) (ret := (some .long)) (lv0 := [some (.ref (ad 72)), some (.int (iI v1)), some (.int (iI v2)), none, none, none, none, none, none]) (by decide) rfl rfl rfl (Nat.le_of_ble_eq_true rfl) ?_
  intro p e s m below meth c C hr hlk hnm
  unfold f_X7_topAt at hf
  refine g_iload_n (i := 2) C dX7_topAt_0 rfl rfl ?_
  refine g_iconst C dX7_topAt_1 ?_
  refine g_icmp_ne (b' := 4) (tgt := 21) C dX7_topAt_2 (by decide) rfl (by decide) (fun c1 => ?_) (fun c1 => ?_)
  · have hf := if_f c1 hf
    refine g_aload_n (i := 0) C dX7_topAt_21 rfl rfl ?_
    refine gg_X7_market (i := 2) C hiX7_topAt_X7 rfl dX7_topAt_22 ?_
    refine gg_X4_cost (i := 4) (b := 16)  C (by decide) (by decide) hiX7_topAt_X4 rfl dX7_topAt_25 ?_
    refine g_iload_n (i := 2) C dX7_topAt_28 rfl rfl ?_
    obtain ⟨hb2, hf⟩ := if_inv hf
    refine g_aaload C (Or.inr ⟨(by decide), rfl, hb2⟩) dX7_topAt_29 rfl ?_
    refine g_iload_n (i := 1) C dX7_topAt_30 rfl rfl ?_
    obtain ⟨hb3, hf⟩ := if_inv hf
    refine g_iaload (N := 4) C (kI_row (by decide) hb2) dX7_topAt_31 rfl hb3 ?_
    refine g_iload_n (i := 2) C dX7_topAt_32 rfl rfl ?_
    refine g_aload_n (i := 0) C dX7_topAt_33 rfl rfl ?_
    refine gg_X7_taxed (i := 5) C hiX7_topAt_X7 rfl dX7_topAt_34 ?_
    refine g_icmp_ne (tgt := 47) C dX7_topAt_37 (by decide) rfl rfl (fun c4 => ?_) (fun c4 => ?_)
    · have hf := if_f c4 hf
      refine g_iconst C dX7_topAt_47 ?_
      refine g_iadd C dX7_topAt_48 ?_
      refine g_i2l C dX7_topAt_49 rfl ?_
      refine g_lstore_n (i := 3) C dX7_topAt_50 rfl (by decide) rfl ?_
      refine g_aload_n (i := 0) C dX7_topAt_51 rfl rfl ?_
      refine gg_X7_whole (i := 7) C hiX7_topAt_X7 rfl dX7_topAt_52 ?_
      refine g_aload_n (i := 0) C dX7_topAt_55 rfl rfl ?_
      refine gg_X7_span (i := 1) C hiX7_topAt_X7 rfl dX7_topAt_56 ?_
      refine g_lmul C dX7_topAt_59 ?_
      refine g_aload_n (i := 0) C dX7_topAt_60 rfl rfl ?_
      refine gg_X7_known (i := 8) C hiX7_topAt_X7 rfl dX7_topAt_61 ?_
      refine g_lsub C dX7_topAt_64 ?_
      refine g_aload_n (i := 0) C dX7_topAt_65 rfl rfl ?_
      refine gg_X7_payTop (i := 9) C hiX7_topAt_X7 rfl dX7_topAt_66 ?_
      refine g_iload_n (i := 2) C dX7_topAt_69 rfl rfl ?_
      refine g_laload (N := 4) C (by decide) dX7_topAt_70 rfl hb2 ?_
      refine g_lmul C dX7_topAt_71 ?_
      refine g_lstore C dX7_topAt_72 (by decide) rfl ?_
      refine g_aload_n (i := 0) C dX7_topAt_74 rfl rfl ?_
      refine gg_X7_known (i := 8) C hiX7_topAt_X7 rfl dX7_topAt_75 ?_
      refine g_aload_n (i := 0) C dX7_topAt_78 rfl rfl ?_
      refine gg_X7_market (i := 2) C hiX7_topAt_X7 rfl dX7_topAt_79 ?_
      refine gg_X4_worth (i := 10) (b := 12)  C (by decide) (by decide) hiX7_topAt_X4 rfl dX7_topAt_82 ?_
      refine g_iload_n (i := 1) C dX7_topAt_85 rfl rfl ?_
      refine g_iaload (N := 4) C (by decide) dX7_topAt_86 rfl hb3 ?_
      refine g_aload_n (i := 0) C dX7_topAt_87 rfl rfl ?_
      refine gg_X7_market (i := 2) C hiX7_topAt_X7 rfl dX7_topAt_88 ?_
      refine gg_X4_use (i := 11) (b := 14)  C (by decide) (by decide) hiX7_topAt_X4 rfl dX7_topAt_91 ?_
      refine g_iload_n (i := 2) C dX7_topAt_94 rfl rfl ?_
      refine g_iaload (N := 4) C (by decide) dX7_topAt_95 rfl hb2 ?_
      refine g_iadd C dX7_topAt_96 ?_
      refine g_i2l C dX7_topAt_97 rfl ?_
      refine g_lmul C dX7_topAt_98 ?_
      refine g_aload_n (i := 0) C dX7_topAt_99 rfl rfl ?_
      refine gg_X7_payUnder (i := 12) C hiX7_topAt_X7 rfl dX7_topAt_100 ?_
      refine g_iload_n (i := 2) C dX7_topAt_103 rfl rfl ?_
      refine g_laload (N := 4) C (by decide) dX7_topAt_104 rfl hb2 ?_
      refine g_lmul C dX7_topAt_105 ?_
      refine g_lstore C dX7_topAt_106 (by decide) rfl ?_
      refine g_lload C dX7_topAt_108 rfl ?_
      refine g_lload C dX7_topAt_110 rfl ?_
      refine g_ladd C dX7_topAt_112 ?_
      refine g_aload_n (i := 0) C dX7_topAt_113 rfl rfl ?_
      refine gg_X7_whole (i := 7) C hiX7_topAt_X7 rfl dX7_topAt_114 ?_
      refine g_lload_n (i := 3) C dX7_topAt_117 rfl rfl ?_
      refine g_lmul C dX7_topAt_118 ?_
      refine g_aload_n (i := 0) C dX7_topAt_119 rfl rfl ?_
      refine gg_X7_payUnder (i := 12) C hiX7_topAt_X7 rfl dX7_topAt_120 ?_
      refine g_iload_n (i := 2) C dX7_topAt_123 rfl rfl ?_
      refine g_laload (N := 4) C (by decide) dX7_topAt_124 rfl hb2 ?_
      refine g_lmul C dX7_topAt_125 ?_
      refine g_lsub C dX7_topAt_126 ?_
      obtain ⟨e1, e2⟩ := some_inv hf
      exact g_lret C hr hlk e1 e2 dX7_topAt_127
    · have hf := if_t c4 hf
      refine g_aload_n (i := 0) C dX7_topAt_40 rfl rfl ?_
      refine gg_X7_tax (i := 6) C hiX7_topAt_X7 rfl dX7_topAt_41 ?_
      refine g_goto (tgt := 48) C dX7_topAt_44 (by decide) ?_
      refine g_iadd C dX7_topAt_48 ?_
      refine g_i2l C dX7_topAt_49 rfl ?_
      refine g_lstore_n (i := 3) C dX7_topAt_50 rfl (by decide) rfl ?_
      refine g_aload_n (i := 0) C dX7_topAt_51 rfl rfl ?_
      refine gg_X7_whole (i := 7) C hiX7_topAt_X7 rfl dX7_topAt_52 ?_
      refine g_aload_n (i := 0) C dX7_topAt_55 rfl rfl ?_
      refine gg_X7_span (i := 1) C hiX7_topAt_X7 rfl dX7_topAt_56 ?_
      refine g_lmul C dX7_topAt_59 ?_
      refine g_aload_n (i := 0) C dX7_topAt_60 rfl rfl ?_
      refine gg_X7_known (i := 8) C hiX7_topAt_X7 rfl dX7_topAt_61 ?_
      refine g_lsub C dX7_topAt_64 ?_
      refine g_aload_n (i := 0) C dX7_topAt_65 rfl rfl ?_
      refine gg_X7_payTop (i := 9) C hiX7_topAt_X7 rfl dX7_topAt_66 ?_
      refine g_iload_n (i := 2) C dX7_topAt_69 rfl rfl ?_
      refine g_laload (N := 4) C (by decide) dX7_topAt_70 rfl hb2 ?_
      refine g_lmul C dX7_topAt_71 ?_
      refine g_lstore C dX7_topAt_72 (by decide) rfl ?_
      refine g_aload_n (i := 0) C dX7_topAt_74 rfl rfl ?_
      refine gg_X7_known (i := 8) C hiX7_topAt_X7 rfl dX7_topAt_75 ?_
      refine g_aload_n (i := 0) C dX7_topAt_78 rfl rfl ?_
      refine gg_X7_market (i := 2) C hiX7_topAt_X7 rfl dX7_topAt_79 ?_
      refine gg_X4_worth (i := 10) (b := 12)  C (by decide) (by decide) hiX7_topAt_X4 rfl dX7_topAt_82 ?_
      refine g_iload_n (i := 1) C dX7_topAt_85 rfl rfl ?_
      refine g_iaload (N := 4) C (by decide) dX7_topAt_86 rfl hb3 ?_
      refine g_aload_n (i := 0) C dX7_topAt_87 rfl rfl ?_
      refine gg_X7_market (i := 2) C hiX7_topAt_X7 rfl dX7_topAt_88 ?_
      refine gg_X4_use (i := 11) (b := 14)  C (by decide) (by decide) hiX7_topAt_X4 rfl dX7_topAt_91 ?_
      refine g_iload_n (i := 2) C dX7_topAt_94 rfl rfl ?_
      refine g_iaload (N := 4) C (by decide) dX7_topAt_95 rfl hb2 ?_
      refine g_iadd C dX7_topAt_96 ?_
      refine g_i2l C dX7_topAt_97 rfl ?_
      refine g_lmul C dX7_topAt_98 ?_
      refine g_aload_n (i := 0) C dX7_topAt_99 rfl rfl ?_
      refine gg_X7_payUnder (i := 12) C hiX7_topAt_X7 rfl dX7_topAt_100 ?_
      refine g_iload_n (i := 2) C dX7_topAt_103 rfl rfl ?_
      refine g_laload (N := 4) C (by decide) dX7_topAt_104 rfl hb2 ?_
      refine g_lmul C dX7_topAt_105 ?_
      refine g_lstore C dX7_topAt_106 (by decide) rfl ?_
      refine g_lload C dX7_topAt_108 rfl ?_
      refine g_lload C dX7_topAt_110 rfl ?_
      refine g_ladd C dX7_topAt_112 ?_
      refine g_aload_n (i := 0) C dX7_topAt_113 rfl rfl ?_
      refine gg_X7_whole (i := 7) C hiX7_topAt_X7 rfl dX7_topAt_114 ?_
      refine g_lload_n (i := 3) C dX7_topAt_117 rfl rfl ?_
      refine g_lmul C dX7_topAt_118 ?_
      refine g_aload_n (i := 0) C dX7_topAt_119 rfl rfl ?_
      refine gg_X7_payUnder (i := 12) C hiX7_topAt_X7 rfl dX7_topAt_120 ?_
      refine g_iload_n (i := 2) C dX7_topAt_123 rfl rfl ?_
      refine g_laload (N := 4) C (by decide) dX7_topAt_124 rfl hb2 ?_
      refine g_lmul C dX7_topAt_125 ?_
      refine g_lsub C dX7_topAt_126 ?_
      obtain ⟨e1, e2⟩ := some_inv hf
      exact g_lret C hr hlk e1 e2 dX7_topAt_127
  · have hf := if_t c1 hf
    refine g_aload_n (i := 0) C dX7_topAt_5 rfl rfl ?_
    refine gg_X7_span (i := 1) C hiX7_topAt_X7 rfl dX7_topAt_6 ?_
    refine g_aload_n (i := 0) C dX7_topAt_9 rfl rfl ?_
    refine gg_X7_market (i := 2) C hiX7_topAt_X7 rfl dX7_topAt_10 ?_
    refine gg_X4_away (i := 3) (b := 13)  C (by decide) (by decide) hiX7_topAt_X4 rfl dX7_topAt_13 ?_
    refine g_iload_n (i := 1) C dX7_topAt_16 rfl rfl ?_
    obtain ⟨hb11, hf⟩ := if_inv hf
    refine g_iaload (N := 4) C (by decide) dX7_topAt_17 rfl hb11 ?_
    refine g_i2l C dX7_topAt_18 rfl ?_
    refine g_lmul C dX7_topAt_19 ?_
    obtain ⟨e1, e2⟩ := some_inv hf
    exact g_lret C hr hlk e1 e2 dX7_topAt_20
/-! X7_underAt -/
abbrev rm_X7_underAt : Room := { frames := 0, cells := 0, slots := 0, locals := 0 }
theorem hiX7_underAt_X7 : ∀ w ∈ u_ws RX7 TX7 14, w ∈ wsX7_underAt := fun _ h => (List.mem_cons_of_mem _ (List.mem_append_right _ h))
set_option maxHeartbeats 4000000 in
set_option maxRecDepth 100000 in
theorem c_X7_underAt {v1 : Int} {σ : Mem} (hf : f_X7_underAt v1 σ = some (r0, σ0)) : CTl l D ca ad A yX7_underAt wsX7_underAt rm_X7_underAt [.ref (ad 72), .int (iI v1)] σ r0 σ0 := by
  refine ct_l (cc := cX7_underAt) (own := RX7) (maxL := 2) (ret := (some .long)) (lv0 := [some (.ref (ad 72)), some (.int (iI v1))]) (by decide) rfl rfl rfl (Nat.le_of_ble_eq_true rfl) ?_
  intro p e s m below meth c C hr hlk hnm
  unfold f_X7_underAt at hf
  refine g_iload_n (i := 1) C dX7_underAt_0 rfl rfl ?_
  refine g_iconst C dX7_underAt_1 ?_
  refine g_icmp_ne (b' := 4) (tgt := 9) C dX7_underAt_2 (by decide) rfl (by decide) (fun c1 => ?_) (fun c1 => ?_)
  · have hf := if_f c1 hf
    refine g_aload_n (i := 0) C dX7_underAt_9 rfl rfl ?_
    refine gg_X7_whole (i := 1) C hiX7_underAt_X7 rfl dX7_underAt_10 ?_
    refine g_aload_n (i := 0) C dX7_underAt_13 rfl rfl ?_
    refine gg_X7_payUnder (i := 2) C hiX7_underAt_X7 rfl dX7_underAt_14 ?_
    refine g_iload_n (i := 1) C dX7_underAt_17 rfl rfl ?_
    obtain ⟨hb2, hf⟩ := if_inv hf
    refine g_laload (N := 4) C (by decide) dX7_underAt_18 rfl hb2 ?_
    refine g_lmul C dX7_underAt_19 ?_
    obtain ⟨e1, e2⟩ := some_inv hf
    exact g_lret C hr hlk e1 e2 dX7_underAt_20
  · have hf := if_t c1 hf
    refine g_lconst (z := 1) C dX7_underAt_5 (by decide) ?_
    refine g_goto (tgt := 20) C dX7_underAt_6 (by decide) ?_
    obtain ⟨e1, e2⟩ := some_inv hf
    exact g_lret C hr hlk e1 e2 dX7_underAt_20
/-! X7_ownTop -/
abbrev rm_X7_ownTop : Room := { frames := 1, cells := 0, slots := 0, locals := 28 }
theorem hiX7_ownTop_X7 : ∀ w ∈ u_ws RX7 TX7 14, w ∈ wsX7_ownTop := fun _ h => (List.mem_cons_of_mem _ (List.mem_append_left _ (List.mem_append_right _ h)))
set_option maxHeartbeats 4000000 in
set_option maxRecDepth 100000 in
theorem c_X7_ownTop {v1 : Int} {σ : Mem} (hf : f_X7_ownTop v1 σ = some (r0, σ0)) : CTl l D ca ad A yX7_ownTop wsX7_ownTop rm_X7_ownTop [.ref (ad 72), .int (iI v1)] σ r0 σ0 := by
  refine ct_l (cc := cX7_ownTop) (own := RX7) (maxL := 2) (ret := (some .long)) (lv0 := [some (.ref (ad 72)), some (.int (iI v1))]) (by decide) rfl rfl rfl (Nat.le_of_ble_eq_true rfl) ?_
  intro p e s m below meth c C hr hlk hnm
  unfold f_X7_ownTop at hf
  refine g_aload_n (i := 0) C dX7_ownTop_0 rfl rfl ?_
  refine g_iload_n (i := 1) C dX7_ownTop_1 rfl rfl ?_
  refine g_aload_n (i := 0) C dX7_ownTop_2 rfl rfl ?_
  refine gg_X7_place (i := 1) C hiX7_ownTop_X7 rfl dX7_ownTop_3 ?_
  refine g_iload_n (i := 1) C dX7_ownTop_6 rfl rfl ?_
  obtain ⟨hb1, hf⟩ := if_inv hf
  refine g_iaload (N := 4) C (by decide) dX7_ownTop_7 rfl hb1 ?_
  obtain ⟨r3, σ2, h4, hf⟩ := ob_inv hf
  refine g_callVl C (c_X7_topAt  h4) (cwV 2 C.2.2.2.2.1 gX7_ownTop_X7_topAt rfl rfl rfl (by decide +kernel) ⟨Nat.le_of_ble_eq_true rfl, Nat.le_of_ble_eq_true rfl⟩) ob_X7 rfl rfl rfl rfl (Nat.le_of_ble_eq_true rfl) dX7_ownTop_8 ⟨Nat.zero_le _, Nat.zero_le _⟩ ?_
  obtain ⟨e1, e2⟩ := some_inv hf
  exact g_lret C hr hlk e1 e2 dX7_ownTop_11
/-! X7_ownUnder -/
abbrev rm_X7_ownUnder : Room := { frames := 1, cells := 0, slots := 0, locals := 21 }
theorem hiX7_ownUnder_X7 : ∀ w ∈ u_ws RX7 TX7 14, w ∈ wsX7_ownUnder := fun _ h => (List.mem_cons_of_mem _ (List.mem_append_right _ h))
set_option maxHeartbeats 4000000 in
set_option maxRecDepth 100000 in
theorem c_X7_ownUnder {v1 : Int} {σ : Mem} (hf : f_X7_ownUnder v1 σ = some (r0, σ0)) : CTl l D ca ad A yX7_ownUnder wsX7_ownUnder rm_X7_ownUnder [.ref (ad 72), .int (iI v1)] σ r0 σ0 := by
  refine ct_l (cc := cX7_ownUnder) (own := RX7) (maxL := 2) (ret := (some .long)) (lv0 := [some (.ref (ad 72)), some (.int (iI v1))]) (by decide) rfl rfl rfl (Nat.le_of_ble_eq_true rfl) ?_
  intro p e s m below meth c C hr hlk hnm
  unfold f_X7_ownUnder at hf
  refine g_aload_n (i := 0) C dX7_ownUnder_0 rfl rfl ?_
  refine g_aload_n (i := 0) C dX7_ownUnder_1 rfl rfl ?_
  refine gg_X7_place (i := 1) C hiX7_ownUnder_X7 rfl dX7_ownUnder_2 ?_
  refine g_iload_n (i := 1) C dX7_ownUnder_5 rfl rfl ?_
  obtain ⟨hb1, hf⟩ := if_inv hf
  refine g_iaload (N := 4) C (by decide) dX7_ownUnder_6 rfl hb1 ?_
  obtain ⟨r3, σ2, h4, hf⟩ := ob_inv hf
  refine g_callVl C (c_X7_underAt  h4) (cwV 1 C.2.2.2.2.1 gX7_ownUnder_X7_underAt rfl rfl rfl (by decide +kernel) ⟨Nat.le_of_ble_eq_true rfl, Nat.le_of_ble_eq_true rfl⟩) ob_X7 rfl rfl rfl rfl (Nat.le_of_ble_eq_true rfl) dX7_ownUnder_7 ⟨Nat.zero_le _, Nat.zero_le _⟩ ?_
  obtain ⟨e1, e2⟩ := some_inv hf
  exact g_lret C hr hlk e1 e2 dX7_ownUnder_10
/-! X7_firstLure -/
abbrev rm_X7_firstLure : Room := { frames := 1, cells := 0, slots := 0, locals := 28 }
theorem hiX7_firstLure_X4 : ∀ w ∈ u_ws RX4 TX4 9, w ∈ wsX7_firstLure := fun _ h => (List.mem_cons_of_mem _ (List.mem_append_right _ h))
theorem hiX7_firstLure_X7 : ∀ w ∈ u_ws RX7 TX7 14, w ∈ wsX7_firstLure := fun _ h => (List.mem_cons_of_mem _ (List.mem_append_left _ (List.mem_append_right _ h)))
set_option maxHeartbeats 4000000 in
set_option maxRecDepth 100000 in
theorem it_X7_firstLure_27 (C : Cx p s m args c cX7_firstLure 8 RX7 wsX7_firstLure D ca A) (hr : meth.sig.returnType = (some .int)) (hlk : meth.locks = false) {p1 p2 p4 : Int} {o : (Int × Mem) ⊕ ((Int × Mem) ⊕ (Mem))} (hc : ∀ (x6 : Int) (σ : Mem), o = .inl (x6, σ) → G p l e rm_X7_firstLure s m args below meth c 8 D ca ad A 0 0 (MQ below (Qi D ca ad A r0 σ0) args s 0 0 A) σ 27 [some (.ref (ad 72)), some (.int (iI p1)), some (.long (lI p2)), none, some (.long (lI p4)), none, some (.int (iI x6)), none] []) (he1 : ∀ (r1 : Int) (σ1 : Mem), o = .inr (.inl (r1, σ1)) → r1 = r0 ∧ σ1 = σ0) (he2 : ∀ (σ : Mem), o = .inr (.inr σ) → G p l e rm_X7_firstLure s m args below meth c 8 D ca ad A 0 0 (MQ below (Qi D ca ad A r0 σ0) args s 0 0 A) σ 94 [some (.ref (ad 72)), some (.int (iI p1)), some (.long (lI p2)), none, some (.long (lI p4)), none, none, none] []) {x6 : Int} {σ : Mem} (hf : f_X7_firstLure_27 p1 p2 p4 x6 σ = some o) : G p l e rm_X7_firstLure s m args below meth c 8 D ca ad A 0 0 (MQ below (Qi D ca ad A r0 σ0) args s 0 0 A) σ 27 [some (.ref (ad 72)), some (.int (iI p1)), some (.long (lI p2)), none, some (.long (lI p4)), none, some (.int (iI x6)), none] [] := by
  unfold f_X7_firstLure_27 at hf
  refine g_iload C dX7_firstLure_27 rfl ?_
  refine g_aload_n (i := 0) C dX7_firstLure_29 rfl rfl ?_
  refine gg_X7_market (i := 2) C hiX7_firstLure_X7 rfl dX7_firstLure_30 ?_
  refine gg_X4_marks (i := 3) C (by decide) hiX7_firstLure_X4 rfl dX7_firstLure_33 ?_
  refine g_icmp_ge (tgt := 94) C dX7_firstLure_36 (by decide) rfl rfl (fun c19 => ?_) (fun c19 => ?_)
  · have hf := if_t c19 hf
    exact g_mask [true, true, true, false, true, false, false, false] (he2 _ (Option.some.inj hf).symm)
  · have hf := if_f c19 hf
    refine g_aload_n (i := 0) C dX7_firstLure_39 rfl rfl ?_
    refine gg_X7_bars (i := 4) C hiX7_firstLure_X7 rfl dX7_firstLure_40 ?_
    refine g_iload C dX7_firstLure_43 rfl ?_
    refine g_ishr C dX7_firstLure_45 ?_
    refine g_iconst C dX7_firstLure_46 ?_
    refine g_iand C dX7_firstLure_47 ?_
    refine g_if_ne (tgt := 55) C dX7_firstLure_48 (by decide) rfl (fun c20 => ?_) (fun c20 => ?_)
    · have hf := if_f c20 hf
      refine g_iconst C dX7_firstLure_55 ?_
      refine g_istore C dX7_firstLure_56 (by decide) rfl ?_
      refine g_iload C dX7_firstLure_58 rfl ?_
      refine g_if_eq (a' := 0) (tgt := 88) C dX7_firstLure_60 (by decide) (by decide) (fun c21 => ?_) (fun c21 => absurd c21 (by decide))
      refine g_iinc C dX7_firstLure_88 rfl (by decide) rfl ?_
      refine g_goto (tgt := 27) C dX7_firstLure_91 (by decide) ?_
      exact g_mask [true, true, true, false, true, false, true, false] (hc _ _ (Option.some.inj hf).symm)
    · have hf := if_t c20 hf
      refine g_iconst C dX7_firstLure_51 ?_
      refine g_goto (tgt := 56) C dX7_firstLure_52 (by decide) ?_
      refine g_istore C dX7_firstLure_56 (by decide) rfl ?_
      refine g_iload C dX7_firstLure_58 rfl ?_
      refine g_if_eq (a' := 1) (tgt := 88) C dX7_firstLure_60 (by decide) (by decide) (fun c22 => absurd c22 (by decide)) (fun c22 => ?_)
      refine g_aload_n (i := 0) C dX7_firstLure_63 rfl rfl ?_
      refine g_iload_n (i := 1) C dX7_firstLure_64 rfl rfl ?_
      refine g_iload C dX7_firstLure_65 rfl ?_
      obtain ⟨r24, σ23, h25, hf⟩ := ob_inv hf
      refine g_callVl C (c_X7_topAt  h25) (cwV 2 C.2.2.2.2.1 gX7_firstLure_X7_topAt rfl rfl rfl (by decide +kernel) ⟨Nat.le_of_ble_eq_true rfl, Nat.le_of_ble_eq_true rfl⟩) ob_X7 rfl rfl rfl rfl (Nat.le_of_ble_eq_true rfl) dX7_firstLure_67 ⟨Nat.zero_le _, Nat.zero_le _⟩ ?_
      refine g_lload C dX7_firstLure_70 rfl ?_
      refine g_lmul C dX7_firstLure_72 ?_
      refine g_lload_n (i := 2) C dX7_firstLure_73 rfl rfl ?_
      refine g_aload_n (i := 0) C dX7_firstLure_74 rfl rfl ?_
      refine g_iload C dX7_firstLure_75 rfl ?_
      obtain ⟨r27, σ26, h28, hf⟩ := ob_inv hf
      refine g_callVl C (c_X7_underAt  h28) (cwV 1 C.2.2.2.2.1 gX7_firstLure_X7_underAt rfl rfl rfl (by decide +kernel) ⟨Nat.le_of_ble_eq_true rfl, Nat.le_of_ble_eq_true rfl⟩) ob_X7 rfl rfl rfl rfl (Nat.le_of_ble_eq_true rfl) dX7_firstLure_77 ⟨Nat.zero_le _, Nat.zero_le _⟩ ?_
      refine g_lmul C dX7_firstLure_80 ?_
      refine g_lcmp_le (tgt := 88) C dX7_firstLure_81 dX7_firstLure_82 (by decide) rfl rfl (fun c29 => ?_) (fun c29 => ?_)
      · have hf := if_t c29 hf
        refine g_iinc C dX7_firstLure_88 rfl (by decide) rfl ?_
        refine g_goto (tgt := 27) C dX7_firstLure_91 (by decide) ?_
        exact g_mask [true, true, true, false, true, false, true, false] (hc _ _ (Option.some.inj hf).symm)
      · have hf := if_f c29 hf
        refine g_iload C dX7_firstLure_85 rfl ?_
        obtain ⟨e1, e2⟩ := he1 _ _ (Option.some.inj hf).symm
        exact g_iret C hr hlk e1 e2 dX7_firstLure_87
set_option maxHeartbeats 4000000 in
set_option maxRecDepth 100000 in
theorem w_X7_firstLure_27 (C : Cx p s m args c cX7_firstLure 8 RX7 wsX7_firstLure D ca A) (hr : meth.sig.returnType = (some .int)) (hlk : meth.locks = false) {p1 p2 p4 : Int} {n : Nat} {x6 : Int} {σ : Mem} {b : ((Int × Mem) ⊕ (Mem))} (h : itr (fun z : Int × Mem => f_X7_firstLure_27 p1 p2 p4 z.1 z.2) n (x6, σ) = some b) (he1 : ∀ (r1 : Int) (σ1 : Mem), b = .inl (r1, σ1) → r1 = r0 ∧ σ1 = σ0) (he2 : ∀ (σ : Mem), b = .inr σ → G p l e rm_X7_firstLure s m args below meth c 8 D ca ad A 0 0 (MQ below (Qi D ca ad A r0 σ0) args s 0 0 A) σ 94 [some (.ref (ad 72)), some (.int (iI p1)), some (.long (lI p2)), none, some (.long (lI p4)), none, none, none] []) : G p l e rm_X7_firstLure s m args below meth c 8 D ca ad A 0 0 (MQ below (Qi D ca ad A r0 σ0) args s 0 0 A) σ 27 [some (.ref (ad 72)), some (.int (iI p1)), some (.long (lI p2)), none, some (.long (lI p4)), none, some (.int (iI x6)), none] [] :=
  itr_rule (P := fun z : Int × Mem => G p l e rm_X7_firstLure s m args below meth c 8 D ca ad A 0 0 (MQ below (Qi D ca ad A r0 σ0) args s 0 0 A) z.2 27 [some (.ref (ad 72)), some (.int (iI p1)), some (.long (lI p2)), none, some (.long (lI p4)), none, some (.int (iI z.1)), none] []) (E := fun b => (∀ (r1 : Int) (σ1 : Mem), b = .inl (r1, σ1) → r1 = r0 ∧ σ1 = σ0) ∧ (∀ (σ : Mem), b = .inr σ → G p l e rm_X7_firstLure s m args below meth c 8 D ca ad A 0 0 (MQ below (Qi D ca ad A r0 σ0) args s 0 0 A) σ 94 [some (.ref (ad 72)), some (.int (iI p1)), some (.long (lI p2)), none, some (.long (lI p4)), none, none, none] [])) (fun z o hb hc he => it_X7_firstLure_27 C hr hlk (fun _ _ e => hc _ e) (fun r1 σ1 e => (he _ e).1 r1 σ1 rfl) (fun _ e => (he _ e).2 _ rfl) hb) n _ _ h ⟨he1, he2⟩
set_option maxHeartbeats 4000000 in
set_option maxRecDepth 100000 in
theorem c_X7_firstLure {v1 : Int} {σ : Mem} (hf : f_X7_firstLure v1 σ = some (r0, σ0)) : CTi l D ca ad A yX7_firstLure wsX7_firstLure rm_X7_firstLure [.ref (ad 72), .int (iI v1)] σ r0 σ0 := by
  refine ct_i (cc := cX7_firstLure) (own := RX7) (maxL := 8) (ret := (some .int)) (lv0 := [some (.ref (ad 72)), some (.int (iI v1)), none, none, none, none, none, none]) (by decide) rfl rfl rfl (Nat.le_of_ble_eq_true rfl) ?_
  intro p e s m below meth c C hr hlk hnm
  unfold f_X7_firstLure at hf
  refine g_aload_n (i := 0) C dX7_firstLure_0 rfl rfl ?_
  refine g_iload_n (i := 1) C dX7_firstLure_1 rfl rfl ?_
  refine g_aload_n (i := 0) C dX7_firstLure_2 rfl rfl ?_
  refine gg_X7_place (i := 1) C hiX7_firstLure_X7 rfl dX7_firstLure_3 ?_
  refine g_iload_n (i := 1) C dX7_firstLure_6 rfl rfl ?_
  obtain ⟨hb1, hf⟩ := if_inv hf
  refine g_iaload (N := 4) C (by decide) dX7_firstLure_7 rfl hb1 ?_
  obtain ⟨r3, σ2, h4, hf⟩ := ob_inv hf
  refine g_callVl C (c_X7_topAt  h4) (cwV 2 C.2.2.2.2.1 gX7_firstLure_X7_topAt rfl rfl rfl (by decide +kernel) ⟨Nat.le_of_ble_eq_true rfl, Nat.le_of_ble_eq_true rfl⟩) ob_X7 rfl rfl rfl rfl (Nat.le_of_ble_eq_true rfl) dX7_firstLure_8 ⟨Nat.zero_le _, Nat.zero_le _⟩ ?_
  refine g_lstore_n (i := 2) C dX7_firstLure_11 rfl (by decide) rfl ?_
  refine g_aload_n (i := 0) C dX7_firstLure_12 rfl rfl ?_
  refine g_aload_n (i := 0) C dX7_firstLure_13 rfl rfl ?_
  refine gg_X7_place (i := 1) C hiX7_firstLure_X7 rfl dX7_firstLure_14 ?_
  refine g_iload_n (i := 1) C dX7_firstLure_17 rfl rfl ?_
  refine g_iaload (N := 4) C (by decide) dX7_firstLure_18 rfl hb1 ?_
  obtain ⟨r6, σ5, h7, hf⟩ := ob_inv hf
  refine g_callVl C (c_X7_underAt  h7) (cwV 1 C.2.2.2.2.1 gX7_firstLure_X7_underAt rfl rfl rfl (by decide +kernel) ⟨Nat.le_of_ble_eq_true rfl, Nat.le_of_ble_eq_true rfl⟩) ob_X7 rfl rfl rfl rfl (Nat.le_of_ble_eq_true rfl) dX7_firstLure_19 ⟨Nat.zero_le _, Nat.zero_le _⟩ ?_
  refine g_lstore C dX7_firstLure_22 (by decide) rfl ?_
  refine g_iconst C dX7_firstLure_24 ?_
  refine g_istore C dX7_firstLure_25 (by decide) rfl ?_
  obtain ⟨q30, hl31, hf⟩ := lb_inv hf
  refine g_mask [true, true, true, false, true, false, true, false] (w_X7_firstLure_27 C hr hlk hl31 ?_ ?_)
  · rintro r1 σ1 rfl
    exact some_inv hf
  · rintro σ32 rfl
    have hf := se_r hf
    refine g_aload_n (i := 0) C dX7_firstLure_94 rfl rfl ?_
    refine g_iload_n (i := 1) C dX7_firstLure_95 rfl rfl ?_
    refine g_iconst C dX7_firstLure_96 ?_
    obtain ⟨r34, σ33, h35, hf⟩ := ob_inv hf
    refine g_callVl C (c_X7_topAt  h35) (cwV 2 C.2.2.2.2.1 gX7_firstLure_X7_topAt rfl rfl rfl (by decide +kernel) ⟨Nat.le_of_ble_eq_true rfl, Nat.le_of_ble_eq_true rfl⟩) ob_X7 rfl rfl rfl rfl (Nat.le_of_ble_eq_true rfl) dX7_firstLure_97 ⟨Nat.zero_le _, Nat.zero_le _⟩ ?_
    refine g_lload C dX7_firstLure_100 rfl ?_
    refine g_lmul C dX7_firstLure_102 ?_
    refine g_lload_n (i := 2) C dX7_firstLure_103 rfl rfl ?_
    refine g_lcmp_le (tgt := 112) C dX7_firstLure_104 dX7_firstLure_105 (by decide) rfl rfl (fun c36 => ?_) (fun c36 => ?_)
    · have hf := if_t c36 hf
      refine g_bipush C dX7_firstLure_112 (by decide) ?_
      obtain ⟨e1, e2⟩ := some_inv hf
      exact g_iret C hr hlk e1 e2 dX7_firstLure_114
    · have hf := if_f c36 hf
      refine g_iconst C dX7_firstLure_108 ?_
      refine g_goto (tgt := 114) C dX7_firstLure_109 (by decide) ?_
      obtain ⟨e1, e2⟩ := some_inv hf
      exact g_iret C hr hlk e1 e2 dX7_firstLure_114
/-! X7_firstRather -/
abbrev rm_X7_firstRather : Room := { frames := 2, cells := 0, slots := 0, locals := 55 }
theorem hiX7_firstRather_X4 : ∀ w ∈ u_ws RX4 TX4 9, w ∈ wsX7_firstRather := fun _ h => (List.mem_cons_of_mem _ (List.mem_append_right _ h))
theorem hiX7_firstRather_X7 : ∀ w ∈ u_ws RX7 TX7 14, w ∈ wsX7_firstRather := fun _ h => (List.mem_cons_of_mem _ (List.mem_append_left _ (List.mem_append_right _ h)))
set_option maxHeartbeats 4000000 in
set_option maxRecDepth 100000 in
theorem it_X7_firstRather_2 (C : Cx p s m args c cX7_firstRather 3 RX7 wsX7_firstRather D ca A) (hr : meth.sig.returnType = (some .int)) (hlk : meth.locks = false) {o : (Int × Mem) ⊕ ((Int × Mem) ⊕ (Mem))} (hc : ∀ (x1 : Int) (σ : Mem), o = .inl (x1, σ) → G p l e rm_X7_firstRather s m args below meth c 3 D ca ad A 0 0 (MQ below (Qi D ca ad A r0 σ0) args s 0 0 A) σ 2 [some (.ref (ad 72)), some (.int (iI x1)), none] []) (he1 : ∀ (r1 : Int) (σ1 : Mem), o = .inr (.inl (r1, σ1)) → r1 = r0 ∧ σ1 = σ0) (he2 : ∀ (σ : Mem), o = .inr (.inr σ) → G p l e rm_X7_firstRather s m args below meth c 3 D ca ad A 0 0 (MQ below (Qi D ca ad A r0 σ0) args s 0 0 A) σ 38 [none, none, none] []) {x1 : Int} {σ : Mem} (hf : f_X7_firstRather_2  x1 σ = some o) : G p l e rm_X7_firstRather s m args below meth c 3 D ca ad A 0 0 (MQ below (Qi D ca ad A r0 σ0) args s 0 0 A) σ 2 [some (.ref (ad 72)), some (.int (iI x1)), none] [] := by
  unfold f_X7_firstRather_2 at hf
  refine g_iload_n (i := 1) C dX7_firstRather_2 rfl rfl ?_
  refine g_aload_n (i := 0) C dX7_firstRather_3 rfl rfl ?_
  refine gg_X7_market (i := 1) C hiX7_firstRather_X7 rfl dX7_firstRather_4 ?_
  refine gg_X4_sorts (i := 2) C (by decide) hiX7_firstRather_X4 rfl dX7_firstRather_7 ?_
  refine g_icmp_ge (tgt := 38) C dX7_firstRather_10 (by decide) rfl rfl (fun c6 => ?_) (fun c6 => ?_)
  · have hf := if_t c6 hf
    exact g_mask [false, false, false] (he2 _ (Option.some.inj hf).symm)
  · have hf := if_f c6 hf
    refine g_aload_n (i := 0) C dX7_firstRather_13 rfl rfl ?_
    refine g_iload_n (i := 1) C dX7_firstRather_14 rfl rfl ?_
    obtain ⟨r8, σ7, h9, hf⟩ := ob_inv hf
    refine g_callVi C (c_X7_firstLure  h9) (cwV 1 C.2.2.2.2.1 gX7_firstRather_X7_firstLure rfl rfl rfl (by decide +kernel) ⟨Nat.le_of_ble_eq_true rfl, Nat.le_of_ble_eq_true rfl⟩) ob_X7 rfl rfl rfl rfl (Nat.le_of_ble_eq_true rfl) dX7_firstRather_15 ⟨Nat.zero_le _, Nat.zero_le _⟩ ?_
    refine g_istore_n (i := 2) C dX7_firstRather_18 rfl (by decide) rfl ?_
    refine g_iload_n (i := 2) C dX7_firstRather_19 rfl rfl ?_
    refine g_bipush C dX7_firstRather_20 (by decide) ?_
    refine g_icmp_eq (b' := (-4)) (tgt := 32) C dX7_firstRather_22 (by decide) rfl (by decide) (fun c10 => ?_) (fun c10 => ?_)
    · have hf := if_t c10 hf
      refine g_iinc C dX7_firstRather_32 rfl (by decide) rfl ?_
      refine g_goto (tgt := 2) C dX7_firstRather_35 (by decide) ?_
      exact g_mask [true, true, false] (hc _ _ (Option.some.inj hf).symm)
    · have hf := if_f c10 hf
      refine g_bipush C dX7_firstRather_25 (by decide) ?_
      refine g_iload_n (i := 1) C dX7_firstRather_27 rfl rfl ?_
      refine g_imul C dX7_firstRather_28 ?_
      refine g_iload_n (i := 2) C dX7_firstRather_29 rfl rfl ?_
      refine g_iadd C dX7_firstRather_30 ?_
      obtain ⟨e1, e2⟩ := he1 _ _ (Option.some.inj hf).symm
      exact g_iret C hr hlk e1 e2 dX7_firstRather_31
set_option maxHeartbeats 4000000 in
set_option maxRecDepth 100000 in
theorem w_X7_firstRather_2 (C : Cx p s m args c cX7_firstRather 3 RX7 wsX7_firstRather D ca A) (hr : meth.sig.returnType = (some .int)) (hlk : meth.locks = false) {n : Nat} {x1 : Int} {σ : Mem} {b : ((Int × Mem) ⊕ (Mem))} (h : itr (fun z : Int × Mem => f_X7_firstRather_2  z.1 z.2) n (x1, σ) = some b) (he1 : ∀ (r1 : Int) (σ1 : Mem), b = .inl (r1, σ1) → r1 = r0 ∧ σ1 = σ0) (he2 : ∀ (σ : Mem), b = .inr σ → G p l e rm_X7_firstRather s m args below meth c 3 D ca ad A 0 0 (MQ below (Qi D ca ad A r0 σ0) args s 0 0 A) σ 38 [none, none, none] []) : G p l e rm_X7_firstRather s m args below meth c 3 D ca ad A 0 0 (MQ below (Qi D ca ad A r0 σ0) args s 0 0 A) σ 2 [some (.ref (ad 72)), some (.int (iI x1)), none] [] :=
  itr_rule (P := fun z : Int × Mem => G p l e rm_X7_firstRather s m args below meth c 3 D ca ad A 0 0 (MQ below (Qi D ca ad A r0 σ0) args s 0 0 A) z.2 2 [some (.ref (ad 72)), some (.int (iI z.1)), none] []) (E := fun b => (∀ (r1 : Int) (σ1 : Mem), b = .inl (r1, σ1) → r1 = r0 ∧ σ1 = σ0) ∧ (∀ (σ : Mem), b = .inr σ → G p l e rm_X7_firstRather s m args below meth c 3 D ca ad A 0 0 (MQ below (Qi D ca ad A r0 σ0) args s 0 0 A) σ 38 [none, none, none] [])) (fun z o hb hc he => it_X7_firstRather_2 C hr hlk (fun _ _ e => hc _ e) (fun r1 σ1 e => (he _ e).1 r1 σ1 rfl) (fun _ e => (he _ e).2 _ rfl) hb) n _ _ h ⟨he1, he2⟩
set_option maxHeartbeats 4000000 in
set_option maxRecDepth 100000 in
theorem c_X7_firstRather {σ : Mem} (hf : f_X7_firstRather  σ = some (r0, σ0)) : CTi l D ca ad A yX7_firstRather wsX7_firstRather rm_X7_firstRather [.ref (ad 72)] σ r0 σ0 := by
  refine ct_i (cc := cX7_firstRather) (own := RX7) (maxL := 3) (ret := (some .int)) (lv0 := [some (.ref (ad 72)), none, none]) (by decide) rfl rfl rfl (Nat.le_of_ble_eq_true rfl) ?_
  intro p e s m below meth c C hr hlk hnm
  unfold f_X7_firstRather at hf
  refine g_iconst C dX7_firstRather_0 ?_
  refine g_istore_n (i := 1) C dX7_firstRather_1 rfl (by decide) rfl ?_
  obtain ⟨q11, hl12, hf⟩ := lb_inv hf
  refine g_mask [true, true, false] (w_X7_firstRather_2 C hr hlk hl12 ?_ ?_)
  · rintro r1 σ1 rfl
    exact some_inv hf
  · rintro σ13 rfl
    have hf := se_r hf
    refine g_bipush C dX7_firstRather_38 (by decide) ?_
    obtain ⟨e1, e2⟩ := some_inv hf
    exact g_iret C hr hlk e1 e2 dX7_firstRather_40
/-! X7_isSure -/
abbrev rm_X7_isSure : Room := { frames := 3, cells := 0, slots := 0, locals := 77 }
theorem hiX7_isSure_X7 : ∀ w ∈ u_ws RX7 TX7 14, w ∈ wsX7_isSure := fun _ h => (List.mem_cons_of_mem _ (List.mem_append_left _ (List.mem_append_right _ h)))
set_option maxHeartbeats 4000000 in
set_option maxRecDepth 100000 in
theorem c_X7_isSure {σ : Mem} (hf : f_X7_isSure  σ = some (r0, σ0)) : CTi l D ca ad A yX7_isSure wsX7_isSure rm_X7_isSure [.ref (ad 72)] σ r0 σ0 := by
  refine ct_i (cc := cX7_isSure) (own := RX7) (maxL := 1) (ret := (some .boolean)) (lv0 := [some (.ref (ad 72))]) (by decide) rfl rfl rfl (Nat.le_of_ble_eq_true rfl) ?_
  intro p e s m below meth c C hr hlk hnm
  unfold f_X7_isSure at hf
  refine g_aload_n (i := 0) C dX7_isSure_0 rfl rfl ?_
  refine gg_X7_made (i := 1) C hiX7_isSure_X7 rfl dX7_isSure_1 ?_
  refine g_aload_n (i := 0) C dX7_isSure_4 rfl rfl ?_
  refine gg_X7_bars (i := 2) C hiX7_isSure_X7 rfl dX7_isSure_5 ?_
  refine g_iand C dX7_isSure_8 ?_
  refine g_if_ne (tgt := 25) C dX7_isSure_9 (by decide) rfl (fun c1 => ?_) (fun c1 => ?_)
  · have hf := if_f c1 hf
    refine g_iconst C dX7_isSure_25 ?_
    obtain ⟨e1, e2⟩ := some_inv hf
    exact g_zret C hr hlk (by decide) e1 e2 dX7_isSure_26
  · have hf := if_t c1 hf
    refine g_aload_n (i := 0) C dX7_isSure_12 rfl rfl ?_
    obtain ⟨r3, σ2, h4, hf⟩ := ob_inv hf
    refine g_callVi C (c_X7_firstRather  h4) (cwV 0 C.2.2.2.2.1 gX7_isSure_X7_firstRather rfl rfl rfl (by decide +kernel) ⟨Nat.le_of_ble_eq_true rfl, Nat.le_of_ble_eq_true rfl⟩) ob_X7 rfl rfl rfl rfl (Nat.le_of_ble_eq_true rfl) dX7_isSure_13 ⟨Nat.zero_le _, Nat.zero_le _⟩ ?_
    refine g_bipush C dX7_isSure_16 (by decide) ?_
    refine g_icmp_ne (b' := (-4)) (tgt := 25) C dX7_isSure_18 (by decide) rfl (by decide) (fun c5 => ?_) (fun c5 => ?_)
    · have hf := if_f c5 hf
      refine g_iconst C dX7_isSure_25 ?_
      obtain ⟨e1, e2⟩ := some_inv hf
      exact g_zret C hr hlk (by decide) e1 e2 dX7_isSure_26
    · have hf := if_t c5 hf
      refine g_iconst C dX7_isSure_21 ?_
      refine g_goto (tgt := 26) C dX7_isSure_22 (by decide) ?_
      obtain ⟨e1, e2⟩ := some_inv hf
      exact g_zret C hr hlk (by decide) e1 e2 dX7_isSure_26
/-! X7_isContentBut -/
abbrev rm_X7_isContentBut : Room := { frames := 2, cells := 0, slots := 0, locals := 55 }
theorem hiX7_isContentBut_X4 : ∀ w ∈ u_ws RX4 TX4 9, w ∈ wsX7_isContentBut := fun _ h => (List.mem_cons_of_mem _ (List.mem_append_right _ h))
theorem hiX7_isContentBut_X7 : ∀ w ∈ u_ws RX7 TX7 14, w ∈ wsX7_isContentBut := fun _ h => (List.mem_cons_of_mem _ (List.mem_append_left _ (List.mem_append_right _ h)))
set_option maxHeartbeats 4000000 in
set_option maxRecDepth 100000 in
theorem it_X7_isContentBut_2 (C : Cx p s m args c cX7_isContentBut 3 RX7 wsX7_isContentBut D ca A) (hr : meth.sig.returnType = (some .boolean)) (hlk : meth.locks = false) {p1 : Int} {o : (Int × Mem) ⊕ ((Int × Mem) ⊕ (Mem))} (hc : ∀ (x2 : Int) (σ : Mem), o = .inl (x2, σ) → G p l e rm_X7_isContentBut s m args below meth c 3 D ca ad A 0 0 (MQ below (Qi D ca ad A r0 σ0) args s 0 0 A) σ 2 [some (.ref (ad 72)), some (.int (iI p1)), some (.int (iI x2))] []) (he1 : ∀ (r1 : Int) (σ1 : Mem), o = .inr (.inl (r1, σ1)) → r1 = r0 ∧ σ1 = σ0) (he2 : ∀ (σ : Mem), o = .inr (.inr σ) → G p l e rm_X7_isContentBut s m args below meth c 3 D ca ad A 0 0 (MQ below (Qi D ca ad A r0 σ0) args s 0 0 A) σ 36 [none, none, none] []) {x2 : Int} {σ : Mem} (hf : f_X7_isContentBut_2 p1 x2 σ = some o) : G p l e rm_X7_isContentBut s m args below meth c 3 D ca ad A 0 0 (MQ below (Qi D ca ad A r0 σ0) args s 0 0 A) σ 2 [some (.ref (ad 72)), some (.int (iI p1)), some (.int (iI x2))] [] := by
  unfold f_X7_isContentBut_2 at hf
  refine g_iload_n (i := 2) C dX7_isContentBut_2 rfl rfl ?_
  refine g_aload_n (i := 0) C dX7_isContentBut_3 rfl rfl ?_
  refine gg_X7_market (i := 1) C hiX7_isContentBut_X7 rfl dX7_isContentBut_4 ?_
  refine gg_X4_sorts (i := 2) C (by decide) hiX7_isContentBut_X4 rfl dX7_isContentBut_7 ?_
  refine g_icmp_ge (tgt := 36) C dX7_isContentBut_10 (by decide) rfl rfl (fun c7 => ?_) (fun c7 => ?_)
  · have hf := if_t c7 hf
    exact g_mask [false, false, false] (he2 _ (Option.some.inj hf).symm)
  · have hf := if_f c7 hf
    refine g_iload_n (i := 2) C dX7_isContentBut_13 rfl rfl ?_
    refine g_iload_n (i := 1) C dX7_isContentBut_14 rfl rfl ?_
    refine g_icmp_eq (tgt := 30) C dX7_isContentBut_15 (by decide) rfl rfl (fun c8 => ?_) (fun c8 => ?_)
    · have hf := if_t c8 hf
      refine g_iinc C dX7_isContentBut_30 rfl (by decide) rfl ?_
      refine g_goto (tgt := 2) C dX7_isContentBut_33 (by decide) ?_
      exact g_mask [true, true, true] (hc _ _ (Option.some.inj hf).symm)
    · have hf := if_f c8 hf
      refine g_aload_n (i := 0) C dX7_isContentBut_18 rfl rfl ?_
      refine g_iload_n (i := 2) C dX7_isContentBut_19 rfl rfl ?_
      obtain ⟨r10, σ9, h11, hf⟩ := ob_inv hf
      refine g_callVi C (c_X7_firstLure  h11) (cwV 1 C.2.2.2.2.1 gX7_isContentBut_X7_firstLure rfl rfl rfl (by decide +kernel) ⟨Nat.le_of_ble_eq_true rfl, Nat.le_of_ble_eq_true rfl⟩) ob_X7 rfl rfl rfl rfl (Nat.le_of_ble_eq_true rfl) dX7_isContentBut_20 ⟨Nat.zero_le _, Nat.zero_le _⟩ ?_
      refine g_bipush C dX7_isContentBut_23 (by decide) ?_
      refine g_icmp_eq (b' := (-4)) (tgt := 30) C dX7_isContentBut_25 (by decide) rfl (by decide) (fun c12 => ?_) (fun c12 => ?_)
      · have hf := if_t c12 hf
        refine g_iinc C dX7_isContentBut_30 rfl (by decide) rfl ?_
        refine g_goto (tgt := 2) C dX7_isContentBut_33 (by decide) ?_
        exact g_mask [true, true, true] (hc _ _ (Option.some.inj hf).symm)
      · have hf := if_f c12 hf
        refine g_iconst C dX7_isContentBut_28 ?_
        obtain ⟨e1, e2⟩ := he1 _ _ (Option.some.inj hf).symm
        exact g_zret C hr hlk (by decide) e1 e2 dX7_isContentBut_29
set_option maxHeartbeats 4000000 in
set_option maxRecDepth 100000 in
theorem w_X7_isContentBut_2 (C : Cx p s m args c cX7_isContentBut 3 RX7 wsX7_isContentBut D ca A) (hr : meth.sig.returnType = (some .boolean)) (hlk : meth.locks = false) {p1 : Int} {n : Nat} {x2 : Int} {σ : Mem} {b : ((Int × Mem) ⊕ (Mem))} (h : itr (fun z : Int × Mem => f_X7_isContentBut_2 p1 z.1 z.2) n (x2, σ) = some b) (he1 : ∀ (r1 : Int) (σ1 : Mem), b = .inl (r1, σ1) → r1 = r0 ∧ σ1 = σ0) (he2 : ∀ (σ : Mem), b = .inr σ → G p l e rm_X7_isContentBut s m args below meth c 3 D ca ad A 0 0 (MQ below (Qi D ca ad A r0 σ0) args s 0 0 A) σ 36 [none, none, none] []) : G p l e rm_X7_isContentBut s m args below meth c 3 D ca ad A 0 0 (MQ below (Qi D ca ad A r0 σ0) args s 0 0 A) σ 2 [some (.ref (ad 72)), some (.int (iI p1)), some (.int (iI x2))] [] :=
  itr_rule (P := fun z : Int × Mem => G p l e rm_X7_isContentBut s m args below meth c 3 D ca ad A 0 0 (MQ below (Qi D ca ad A r0 σ0) args s 0 0 A) z.2 2 [some (.ref (ad 72)), some (.int (iI p1)), some (.int (iI z.1))] []) (E := fun b => (∀ (r1 : Int) (σ1 : Mem), b = .inl (r1, σ1) → r1 = r0 ∧ σ1 = σ0) ∧ (∀ (σ : Mem), b = .inr σ → G p l e rm_X7_isContentBut s m args below meth c 3 D ca ad A 0 0 (MQ below (Qi D ca ad A r0 σ0) args s 0 0 A) σ 36 [none, none, none] [])) (fun z o hb hc he => it_X7_isContentBut_2 C hr hlk (fun _ _ e => hc _ e) (fun r1 σ1 e => (he _ e).1 r1 σ1 rfl) (fun _ e => (he _ e).2 _ rfl) hb) n _ _ h ⟨he1, he2⟩
set_option maxHeartbeats 4000000 in
set_option maxRecDepth 100000 in
theorem c_X7_isContentBut {v1 : Int} {σ : Mem} (hf : f_X7_isContentBut v1 σ = some (r0, σ0)) : CTi l D ca ad A yX7_isContentBut wsX7_isContentBut rm_X7_isContentBut [.ref (ad 72), .int (iI v1)] σ r0 σ0 := by
  refine ct_i (cc := cX7_isContentBut) (own := RX7) (maxL := 3) (ret := (some .boolean)) (lv0 := [some (.ref (ad 72)), some (.int (iI v1)), none]) (by decide) rfl rfl rfl (Nat.le_of_ble_eq_true rfl) ?_
  intro p e s m below meth c C hr hlk hnm
  unfold f_X7_isContentBut at hf
  refine g_iconst C dX7_isContentBut_0 ?_
  refine g_istore_n (i := 2) C dX7_isContentBut_1 rfl (by decide) rfl ?_
  obtain ⟨q13, hl14, hf⟩ := lb_inv hf
  refine g_mask [true, true, true] (w_X7_isContentBut_2 C hr hlk hl14 ?_ ?_)
  · rintro r1 σ1 rfl
    exact some_inv hf
  · rintro σ15 rfl
    have hf := se_r hf
    refine g_iconst C dX7_isContentBut_36 ?_
    obtain ⟨e1, e2⟩ := some_inv hf
    exact g_zret C hr hlk (by decide) e1 e2 dX7_isContentBut_37
/-! X7_isBarred -/
abbrev rm_X7_isBarred : Room := { frames := 2, cells := 0, slots := 0, locals := 49 }
theorem hiX7_isBarred_X4 : ∀ w ∈ u_ws RX4 TX4 9, w ∈ wsX7_isBarred := fun _ h => (List.mem_cons_of_mem _ (List.mem_append_right _ h))
theorem hiX7_isBarred_X7 : ∀ w ∈ u_ws RX7 TX7 14, w ∈ wsX7_isBarred := fun _ h => (List.mem_cons_of_mem _ (List.mem_append_left _ (List.mem_append_right _ h)))
set_option maxHeartbeats 4000000 in
set_option maxRecDepth 100000 in
theorem c_X7_isBarred {v1 v2 : Int} {σ : Mem} (hf : f_X7_isBarred v1 v2 σ = some (r0, σ0)) : CTi l D ca ad A yX7_isBarred wsX7_isBarred rm_X7_isBarred [.ref (ad 72), .int (iI v1), .int (iI v2)] σ r0 σ0 := by
  refine ct_i (cc := cX7_isBarred) (own := RX7) (maxL := 5) (ret := (some .boolean)) (lv0 := [some (.ref (ad 72)), some (.int (iI v1)), some (.int (iI v2)), none, none]) (by decide) rfl rfl rfl (Nat.le_of_ble_eq_true rfl) ?_
  intro p e s m below meth c C hr hlk hnm
  unfold f_X7_isBarred at hf
  refine g_aload_n (i := 0) C dX7_isBarred_0 rfl rfl ?_
  refine gg_X7_market (i := 1) C hiX7_isBarred_X7 rfl dX7_isBarred_1 ?_
  obtain ⟨r2, σ1, h3, hf⟩ := ob_inv hf
  refine g_callVi C (c_X4_mostWorth (by decide) h3) (cwV 0 C.2.2.2.2.1 gX7_isBarred_X4_mostWorth rfl rfl rfl (by decide +kernel) ⟨Nat.le_of_ble_eq_true rfl, Nat.le_of_ble_eq_true rfl⟩) (ob_X4 (by decide)) rfl rfl rfl rfl (Nat.le_of_ble_eq_true rfl) dX7_isBarred_4 ⟨Nat.zero_le _, Nat.zero_le _⟩ ?_
  refine g_aload_n (i := 0) C dX7_isBarred_7 rfl rfl ?_
  refine gg_X7_market (i := 1) C hiX7_isBarred_X7 rfl dX7_isBarred_8 ?_
  refine gg_X4_use (i := 2) (b := 14)  C (by decide) (by decide) hiX7_isBarred_X4 rfl dX7_isBarred_11 ?_
  refine g_iload_n (i := 1) C dX7_isBarred_14 rfl rfl ?_
  obtain ⟨hb4, hf⟩ := if_inv hf
  refine g_iaload (N := 4) C (by decide) dX7_isBarred_15 rfl hb4 ?_
  refine g_iadd C dX7_isBarred_16 ?_
  refine g_aload_n (i := 0) C dX7_isBarred_17 rfl rfl ?_
  refine gg_X7_market (i := 1) C hiX7_isBarred_X7 rfl dX7_isBarred_18 ?_
  refine gg_X4_cost (i := 3) (b := 16)  C (by decide) (by decide) hiX7_isBarred_X4 rfl dX7_isBarred_21 ?_
  refine g_iload_n (i := 1) C dX7_isBarred_24 rfl rfl ?_
  refine g_aaload C (Or.inr ⟨(by decide), rfl, hb4⟩) dX7_isBarred_25 rfl ?_
  refine g_iload_n (i := 2) C dX7_isBarred_26 rfl rfl ?_
  obtain ⟨hb5, hf⟩ := if_inv hf
  refine g_iaload (N := 4) C (kI_row (by decide) hb4) dX7_isBarred_27 rfl hb5 ?_
  refine g_isub C dX7_isBarred_28 ?_
  refine g_i2l C dX7_isBarred_29 rfl ?_
  refine g_lstore_n (i := 3) C dX7_isBarred_30 rfl (by decide) rfl ?_
  refine g_lload_n (i := 3) C dX7_isBarred_31 rfl rfl ?_
  refine g_aload_n (i := 0) C dX7_isBarred_32 rfl rfl ?_
  refine g_iload_n (i := 2) C dX7_isBarred_33 rfl rfl ?_
  obtain ⟨r8, σ7, h9, hf⟩ := ob_inv hf
  refine g_callVl C (c_X7_ownUnder  h9) (cwV 1 C.2.2.2.2.1 gX7_isBarred_X7_ownUnder rfl rfl rfl (by decide +kernel) ⟨Nat.le_of_ble_eq_true rfl, Nat.le_of_ble_eq_true rfl⟩) ob_X7 rfl rfl rfl rfl (Nat.le_of_ble_eq_true rfl) dX7_isBarred_34 ⟨Nat.zero_le _, Nat.zero_le _⟩ ?_
  refine g_lmul C dX7_isBarred_37 ?_
  refine g_aload_n (i := 0) C dX7_isBarred_38 rfl rfl ?_
  refine g_iload_n (i := 2) C dX7_isBarred_39 rfl rfl ?_
  obtain ⟨r11, σ10, h12, hf⟩ := ob_inv hf
  refine g_callVl C (c_X7_ownTop  h12) (cwV 1 C.2.2.2.2.1 gX7_isBarred_X7_ownTop rfl rfl rfl (by decide +kernel) ⟨Nat.le_of_ble_eq_true rfl, Nat.le_of_ble_eq_true rfl⟩) ob_X7 rfl rfl rfl rfl (Nat.le_of_ble_eq_true rfl) dX7_isBarred_40 ⟨Nat.zero_le _, Nat.zero_le _⟩ ?_
  refine g_lcmp_ge (tgt := 51) C dX7_isBarred_43 dX7_isBarred_44 (by decide) rfl rfl (fun c13 => ?_) (fun c13 => ?_)
  · have hf := if_t c13 hf
    refine g_iconst C dX7_isBarred_51 ?_
    obtain ⟨e1, e2⟩ := some_inv hf
    exact g_zret C hr hlk (by decide) e1 e2 dX7_isBarred_52
  · have hf := if_f c13 hf
    refine g_iconst C dX7_isBarred_47 ?_
    refine g_goto (tgt := 52) C dX7_isBarred_48 (by decide) ?_
    obtain ⟨e1, e2⟩ := some_inv hf
    exact g_zret C hr hlk (by decide) e1 e2 dX7_isBarred_52
/-! X7_leastNotBarred -/
abbrev rm_X7_leastNotBarred : Room := { frames := 3, cells := 0, slots := 0, locals := 73 }
theorem hiX7_leastNotBarred_X4 : ∀ w ∈ u_ws RX4 TX4 9, w ∈ wsX7_leastNotBarred := fun _ h => (List.mem_cons_of_mem _ (List.mem_append_right _ h))
theorem hiX7_leastNotBarred_X7 : ∀ w ∈ u_ws RX7 TX7 14, w ∈ wsX7_leastNotBarred := fun _ h => (List.mem_cons_of_mem _ (List.mem_append_left _ (List.mem_append_right _ h)))
set_option maxHeartbeats 4000000 in
set_option maxRecDepth 100000 in
theorem it_X7_leastNotBarred_5 (C : Cx p s m args c cX7_leastNotBarred 5 RX7 wsX7_leastNotBarred D ca A) (hr : meth.sig.returnType = (some .int)) (hlk : meth.locks = false) {p1 : Int} {o : (Int × Int × Mem) ⊕ (Int × Mem)} (hc : ∀ (x2 x3 : Int) (σ : Mem), o = .inl (x2, x3, σ) → G p l e rm_X7_leastNotBarred s m args below meth c 5 D ca ad A 0 0 (MQ below (Qi D ca ad A r0 σ0) args s 0 0 A) σ 5 [some (.ref (ad 72)), some (.int (iI p1)), some (.int (iI x2)), some (.int (iI x3)), none] []) (he : ∀ (y2 : Int) (σ : Mem), o = .inr (y2, σ) → G p l e rm_X7_leastNotBarred s m args below meth c 5 D ca ad A 0 0 (MQ below (Qi D ca ad A r0 σ0) args s 0 0 A) σ 72 [none, none, some (.int (iI y2)), none, none] []) {x2 x3 : Int} {σ : Mem} (hf : f_X7_leastNotBarred_5 p1 x2 x3 σ = some o) : G p l e rm_X7_leastNotBarred s m args below meth c 5 D ca ad A 0 0 (MQ below (Qi D ca ad A r0 σ0) args s 0 0 A) σ 5 [some (.ref (ad 72)), some (.int (iI p1)), some (.int (iI x2)), some (.int (iI x3)), none] [] := by
  unfold f_X7_leastNotBarred_5 at hf
  refine g_iload_n (i := 3) C dX7_leastNotBarred_5 rfl rfl ?_
  refine g_aload_n (i := 0) C dX7_leastNotBarred_6 rfl rfl ?_
  refine gg_X7_market (i := 1) C hiX7_leastNotBarred_X7 rfl dX7_leastNotBarred_7 ?_
  refine gg_X4_sorts (i := 2) C (by decide) hiX7_leastNotBarred_X4 rfl dX7_leastNotBarred_10 ?_
  refine g_icmp_ge (tgt := 72) C dX7_leastNotBarred_13 (by decide) rfl rfl (fun c1 => ?_) (fun c1 => ?_)
  · have hf := if_t c1 hf
    exact g_mask [false, false, true, false, false] (he _ _ (Option.some.inj hf).symm)
  · have hf := if_f c1 hf
    refine g_iload_n (i := 2) C dX7_leastNotBarred_16 rfl rfl ?_
    refine g_bipush C dX7_leastNotBarred_17 (by decide) ?_
    refine g_icmp_eq (b' := (-4)) (tgt := 43) C dX7_leastNotBarred_19 (by decide) rfl (by decide) (fun c2 => ?_) (fun c2 => ?_)
    · have hf := if_t c2 hf
      refine g_iconst C dX7_leastNotBarred_43 ?_
      refine g_goto (tgt := 48) C dX7_leastNotBarred_44 (by decide) ?_
      refine g_istore C dX7_leastNotBarred_48 (by decide) rfl ?_
      refine g_iload C dX7_leastNotBarred_50 rfl ?_
      refine g_if_eq (a' := 1) (tgt := 66) C dX7_leastNotBarred_52 (by decide) (by decide) (fun c3 => absurd c3 (by decide)) (fun c3 => ?_)
      refine g_aload_n (i := 0) C dX7_leastNotBarred_55 rfl rfl ?_
      refine g_iload_n (i := 1) C dX7_leastNotBarred_56 rfl rfl ?_
      refine g_iload_n (i := 3) C dX7_leastNotBarred_57 rfl rfl ?_
      obtain ⟨r5, σ4, h6, hf⟩ := ob_inv hf
      refine g_callVi C (c_X7_isBarred  h6) (cwV 2 C.2.2.2.2.1 gX7_leastNotBarred_X7_isBarred rfl rfl rfl (by decide +kernel) ⟨Nat.le_of_ble_eq_true rfl, Nat.le_of_ble_eq_true rfl⟩) ob_X7 rfl rfl rfl rfl (Nat.le_of_ble_eq_true rfl) dX7_leastNotBarred_58 ⟨Nat.zero_le _, Nat.zero_le _⟩ ?_
      refine g_if_ne (tgt := 66) C dX7_leastNotBarred_61 (by decide) rfl (fun c7 => ?_) (fun c7 => ?_)
      · have hf := if_f c7 hf
        refine g_iinc C dX7_leastNotBarred_66 rfl (by decide) rfl ?_
        refine g_goto (tgt := 5) C dX7_leastNotBarred_69 (by decide) ?_
        exact g_mask [true, true, true, true, false] (hc _ _ _ (Option.some.inj hf).symm)
      · have hf := if_t c7 hf
        refine g_iload_n (i := 3) C dX7_leastNotBarred_64 rfl rfl ?_
        refine g_istore_n (i := 2) C dX7_leastNotBarred_65 rfl (by decide) rfl ?_
        refine g_iinc C dX7_leastNotBarred_66 rfl (by decide) rfl ?_
        refine g_goto (tgt := 5) C dX7_leastNotBarred_69 (by decide) ?_
        exact g_mask [true, true, true, true, false] (hc _ _ _ (Option.some.inj hf).symm)
    · have hf := if_f c2 hf
      refine g_aload_n (i := 0) C dX7_leastNotBarred_22 rfl rfl ?_
      refine gg_X7_market (i := 1) C hiX7_leastNotBarred_X7 rfl dX7_leastNotBarred_23 ?_
      refine gg_X4_worth (i := 3) (b := 12)  C (by decide) (by decide) hiX7_leastNotBarred_X4 rfl dX7_leastNotBarred_26 ?_
      refine g_iload_n (i := 3) C dX7_leastNotBarred_29 rfl rfl ?_
      obtain ⟨hb8, hf⟩ := if_inv hf
      refine g_iaload (N := 4) C (by decide) dX7_leastNotBarred_30 rfl hb8 ?_
      refine g_aload_n (i := 0) C dX7_leastNotBarred_31 rfl rfl ?_
      refine gg_X7_market (i := 1) C hiX7_leastNotBarred_X7 rfl dX7_leastNotBarred_32 ?_
      refine gg_X4_worth (i := 3) (b := 12)  C (by decide) (by decide) hiX7_leastNotBarred_X4 rfl dX7_leastNotBarred_35 ?_
      refine g_iload_n (i := 2) C dX7_leastNotBarred_38 rfl rfl ?_
      obtain ⟨hb9, hf⟩ := if_inv hf
      refine g_iaload (N := 4) C (by decide) dX7_leastNotBarred_39 rfl hb9 ?_
      refine g_icmp_ge (tgt := 47) C dX7_leastNotBarred_40 (by decide) rfl rfl (fun c10 => ?_) (fun c10 => ?_)
      · have hf := if_t c10 hf
        refine g_iconst C dX7_leastNotBarred_47 ?_
        refine g_istore C dX7_leastNotBarred_48 (by decide) rfl ?_
        refine g_iload C dX7_leastNotBarred_50 rfl ?_
        refine g_if_eq (a' := 0) (tgt := 66) C dX7_leastNotBarred_52 (by decide) (by decide) (fun c11 => ?_) (fun c11 => absurd c11 (by decide))
        refine g_iinc C dX7_leastNotBarred_66 rfl (by decide) rfl ?_
        refine g_goto (tgt := 5) C dX7_leastNotBarred_69 (by decide) ?_
        exact g_mask [true, true, true, true, false] (hc _ _ _ (Option.some.inj hf).symm)
      · have hf := if_f c10 hf
        refine g_iconst C dX7_leastNotBarred_43 ?_
        refine g_goto (tgt := 48) C dX7_leastNotBarred_44 (by decide) ?_
        refine g_istore C dX7_leastNotBarred_48 (by decide) rfl ?_
        refine g_iload C dX7_leastNotBarred_50 rfl ?_
        refine g_if_eq (a' := 1) (tgt := 66) C dX7_leastNotBarred_52 (by decide) (by decide) (fun c12 => absurd c12 (by decide)) (fun c12 => ?_)
        refine g_aload_n (i := 0) C dX7_leastNotBarred_55 rfl rfl ?_
        refine g_iload_n (i := 1) C dX7_leastNotBarred_56 rfl rfl ?_
        refine g_iload_n (i := 3) C dX7_leastNotBarred_57 rfl rfl ?_
        obtain ⟨r14, σ13, h15, hf⟩ := ob_inv hf
        refine g_callVi C (c_X7_isBarred  h15) (cwV 2 C.2.2.2.2.1 gX7_leastNotBarred_X7_isBarred rfl rfl rfl (by decide +kernel) ⟨Nat.le_of_ble_eq_true rfl, Nat.le_of_ble_eq_true rfl⟩) ob_X7 rfl rfl rfl rfl (Nat.le_of_ble_eq_true rfl) dX7_leastNotBarred_58 ⟨Nat.zero_le _, Nat.zero_le _⟩ ?_
        refine g_if_ne (tgt := 66) C dX7_leastNotBarred_61 (by decide) rfl (fun c16 => ?_) (fun c16 => ?_)
        · have hf := if_f c16 hf
          refine g_iinc C dX7_leastNotBarred_66 rfl (by decide) rfl ?_
          refine g_goto (tgt := 5) C dX7_leastNotBarred_69 (by decide) ?_
          exact g_mask [true, true, true, true, false] (hc _ _ _ (Option.some.inj hf).symm)
        · have hf := if_t c16 hf
          refine g_iload_n (i := 3) C dX7_leastNotBarred_64 rfl rfl ?_
          refine g_istore_n (i := 2) C dX7_leastNotBarred_65 rfl (by decide) rfl ?_
          refine g_iinc C dX7_leastNotBarred_66 rfl (by decide) rfl ?_
          refine g_goto (tgt := 5) C dX7_leastNotBarred_69 (by decide) ?_
          exact g_mask [true, true, true, true, false] (hc _ _ _ (Option.some.inj hf).symm)
set_option maxHeartbeats 4000000 in
set_option maxRecDepth 100000 in
theorem w_X7_leastNotBarred_5 (C : Cx p s m args c cX7_leastNotBarred 5 RX7 wsX7_leastNotBarred D ca A) (hr : meth.sig.returnType = (some .int)) (hlk : meth.locks = false) {p1 : Int} {n : Nat} {x2 x3 : Int} {σ : Mem} {b : (Int × Mem)} (h : itr (fun z : Int × Int × Mem => f_X7_leastNotBarred_5 p1 z.1 z.2.1 z.2.2) n (x2, x3, σ) = some b) (he : ∀ (y2 : Int) (σ : Mem), b = (y2, σ) → G p l e rm_X7_leastNotBarred s m args below meth c 5 D ca ad A 0 0 (MQ below (Qi D ca ad A r0 σ0) args s 0 0 A) σ 72 [none, none, some (.int (iI y2)), none, none] []) : G p l e rm_X7_leastNotBarred s m args below meth c 5 D ca ad A 0 0 (MQ below (Qi D ca ad A r0 σ0) args s 0 0 A) σ 5 [some (.ref (ad 72)), some (.int (iI p1)), some (.int (iI x2)), some (.int (iI x3)), none] [] :=
  itr_rule (P := fun z : Int × Int × Mem => G p l e rm_X7_leastNotBarred s m args below meth c 5 D ca ad A 0 0 (MQ below (Qi D ca ad A r0 σ0) args s 0 0 A) z.2.2 5 [some (.ref (ad 72)), some (.int (iI p1)), some (.int (iI z.1)), some (.int (iI z.2.1)), none] []) (E := fun b => ∀ (y2 : Int) (σ : Mem), b = (y2, σ) → G p l e rm_X7_leastNotBarred s m args below meth c 5 D ca ad A 0 0 (MQ below (Qi D ca ad A r0 σ0) args s 0 0 A) σ 72 [none, none, some (.int (iI y2)), none, none] []) (fun z o hb hc he => it_X7_leastNotBarred_5 C hr hlk (fun _ _ _ e => hc _ e) (fun _ _ e => (he _ e) _ _ rfl) hb) n _ _ h he
set_option maxHeartbeats 4000000 in
set_option maxRecDepth 100000 in
theorem c_X7_leastNotBarred {v1 : Int} {σ : Mem} (hf : f_X7_leastNotBarred v1 σ = some (r0, σ0)) : CTi l D ca ad A yX7_leastNotBarred wsX7_leastNotBarred rm_X7_leastNotBarred [.ref (ad 72), .int (iI v1)] σ r0 σ0 := by
  refine ct_i (cc := cX7_leastNotBarred) (own := RX7) (maxL := 5) (ret := (some .int)) (lv0 := [some (.ref (ad 72)), some (.int (iI v1)), none, none, none]) (by decide) rfl rfl rfl (Nat.le_of_ble_eq_true rfl) ?_
  intro p e s m below meth c C hr hlk hnm
  unfold f_X7_leastNotBarred at hf
  refine g_bipush C dX7_leastNotBarred_0 (by decide) ?_
  refine g_istore_n (i := 2) C dX7_leastNotBarred_2 rfl (by decide) rfl ?_
  refine g_iconst C dX7_leastNotBarred_3 ?_
  refine g_istore_n (i := 3) C dX7_leastNotBarred_4 rfl (by decide) rfl ?_
  obtain ⟨q17, hl18, hf⟩ := lb_inv hf
  refine g_mask [true, true, true, true, false] (w_X7_leastNotBarred_5 C hr hlk hl18 ?_)
  · rintro y19 σ20 rfl
    refine g_iload_n (i := 2) C dX7_leastNotBarred_72 rfl rfl ?_
    obtain ⟨e1, e2⟩ := some_inv hf
    exact g_iret C hr hlk e1 e2 dX7_leastNotBarred_73
/-! X7_firstDrawn -/
abbrev rm_X7_firstDrawn : Room := { frames := 4, cells := 0, slots := 0, locals := 97 }
theorem hiX7_firstDrawn_X4 : ∀ w ∈ u_ws RX4 TX4 9, w ∈ wsX7_firstDrawn := fun _ h => (List.mem_cons_of_mem _ (List.mem_append_right _ h))
theorem hiX7_firstDrawn_X7 : ∀ w ∈ u_ws RX7 TX7 14, w ∈ wsX7_firstDrawn := fun _ h => (List.mem_cons_of_mem _ (List.mem_append_left _ (List.mem_append_right _ h)))
set_option maxHeartbeats 4000000 in
set_option maxRecDepth 100000 in
theorem it_X7_firstDrawn_17 (C : Cx p s m args c cX7_firstDrawn 6 RX7 wsX7_firstDrawn D ca A) (hr : meth.sig.returnType = (some .int)) (hlk : meth.locks = false) {p1 p2 : Int} {o : (Int × Mem) ⊕ ((Int × Mem) ⊕ (Mem))} (hc : ∀ (x3 : Int) (σ : Mem), o = .inl (x3, σ) → G p l e rm_X7_firstDrawn s m args below meth c 6 D ca ad A 0 0 (MQ below (Qi D ca ad A r0 σ0) args s 0 0 A) σ 17 [some (.ref (ad 72)), some (.int (iI p1)), some (.int (iI p2)), some (.int (iI x3)), none, none] []) (he1 : ∀ (r1 : Int) (σ1 : Mem), o = .inr (.inl (r1, σ1)) → r1 = r0 ∧ σ1 = σ0) (he2 : ∀ (σ : Mem), o = .inr (.inr σ) → G p l e rm_X7_firstDrawn s m args below meth c 6 D ca ad A 0 0 (MQ below (Qi D ca ad A r0 σ0) args s 0 0 A) σ 87 [none, none, none, none, none, none] []) {x3 : Int} {σ : Mem} (hf : f_X7_firstDrawn_17 p1 p2 x3 σ = some o) : G p l e rm_X7_firstDrawn s m args below meth c 6 D ca ad A 0 0 (MQ below (Qi D ca ad A r0 σ0) args s 0 0 A) σ 17 [some (.ref (ad 72)), some (.int (iI p1)), some (.int (iI p2)), some (.int (iI x3)), none, none] [] := by
  unfold f_X7_firstDrawn_17 at hf
  refine g_iload_n (i := 3) C dX7_firstDrawn_17 rfl rfl ?_
  refine g_aload_n (i := 0) C dX7_firstDrawn_18 rfl rfl ?_
  refine gg_X7_market (i := 1) C hiX7_firstDrawn_X7 rfl dX7_firstDrawn_19 ?_
  refine gg_X4_sorts (i := 2) C (by decide) hiX7_firstDrawn_X4 rfl dX7_firstDrawn_22 ?_
  refine g_icmp_ge (tgt := 87) C dX7_firstDrawn_25 (by decide) rfl rfl (fun c17 => ?_) (fun c17 => ?_)
  · have hf := if_t c17 hf
    exact g_mask [false, false, false, false, false, false] (he2 _ (Option.some.inj hf).symm)
  · have hf := if_f c17 hf
    refine g_aload_n (i := 0) C dX7_firstDrawn_28 rfl rfl ?_
    refine gg_X7_market (i := 1) C hiX7_firstDrawn_X7 rfl dX7_firstDrawn_29 ?_
    refine gg_X4_worth (i := 3) (b := 12)  C (by decide) (by decide) hiX7_firstDrawn_X4 rfl dX7_firstDrawn_32 ?_
    refine g_iload_n (i := 2) C dX7_firstDrawn_35 rfl rfl ?_
    obtain ⟨hb18, hf⟩ := if_inv hf
    refine g_iaload (N := 4) C (by decide) dX7_firstDrawn_36 rfl hb18 ?_
    refine g_aload_n (i := 0) C dX7_firstDrawn_37 rfl rfl ?_
    refine gg_X7_market (i := 1) C hiX7_firstDrawn_X7 rfl dX7_firstDrawn_38 ?_
    refine gg_X4_use (i := 4) (b := 14)  C (by decide) (by decide) hiX7_firstDrawn_X4 rfl dX7_firstDrawn_41 ?_
    refine g_iload_n (i := 1) C dX7_firstDrawn_44 rfl rfl ?_
    obtain ⟨hb19, hf⟩ := if_inv hf
    refine g_iaload (N := 4) C (by decide) dX7_firstDrawn_45 rfl hb19 ?_
    refine g_iadd C dX7_firstDrawn_46 ?_
    refine g_aload_n (i := 0) C dX7_firstDrawn_47 rfl rfl ?_
    refine gg_X7_market (i := 1) C hiX7_firstDrawn_X7 rfl dX7_firstDrawn_48 ?_
    refine gg_X4_cost (i := 5) (b := 16)  C (by decide) (by decide) hiX7_firstDrawn_X4 rfl dX7_firstDrawn_51 ?_
    refine g_iload_n (i := 1) C dX7_firstDrawn_54 rfl rfl ?_
    refine g_aaload C (Or.inr ⟨(by decide), rfl, hb19⟩) dX7_firstDrawn_55 rfl ?_
    refine g_iload_n (i := 3) C dX7_firstDrawn_56 rfl rfl ?_
    obtain ⟨hb20, hf⟩ := if_inv hf
    refine g_iaload (N := 4) C (kI_row (by decide) hb19) dX7_firstDrawn_57 rfl hb20 ?_
    refine g_isub C dX7_firstDrawn_58 ?_
    refine g_i2l C dX7_firstDrawn_59 rfl ?_
    refine g_lstore C dX7_firstDrawn_60 (by decide) rfl ?_
    refine g_lload C dX7_firstDrawn_62 rfl ?_
    refine g_aload_n (i := 0) C dX7_firstDrawn_64 rfl rfl ?_
    refine g_iload_n (i := 3) C dX7_firstDrawn_65 rfl rfl ?_
    obtain ⟨r23, σ22, h24, hf⟩ := ob_inv hf
    refine g_callVl C (c_X7_ownUnder  h24) (cwV 1 C.2.2.2.2.1 gX7_firstDrawn_X7_ownUnder rfl rfl rfl (by decide +kernel) ⟨Nat.le_of_ble_eq_true rfl, Nat.le_of_ble_eq_true rfl⟩) ob_X7 rfl rfl rfl rfl (Nat.le_of_ble_eq_true rfl) dX7_firstDrawn_66 ⟨Nat.zero_le _, Nat.zero_le _⟩ ?_
    refine g_lmul C dX7_firstDrawn_69 ?_
    refine g_aload_n (i := 0) C dX7_firstDrawn_70 rfl rfl ?_
    refine g_iload_n (i := 3) C dX7_firstDrawn_71 rfl rfl ?_
    obtain ⟨r26, σ25, h27, hf⟩ := ob_inv hf
    refine g_callVl C (c_X7_ownTop  h27) (cwV 1 C.2.2.2.2.1 gX7_firstDrawn_X7_ownTop rfl rfl rfl (by decide +kernel) ⟨Nat.le_of_ble_eq_true rfl, Nat.le_of_ble_eq_true rfl⟩) ob_X7 rfl rfl rfl rfl (Nat.le_of_ble_eq_true rfl) dX7_firstDrawn_72 ⟨Nat.zero_le _, Nat.zero_le _⟩ ?_
    refine g_lcmp_le (tgt := 81) C dX7_firstDrawn_75 dX7_firstDrawn_76 (by decide) rfl rfl (fun c28 => ?_) (fun c28 => ?_)
    · have hf := if_t c28 hf
      refine g_iinc C dX7_firstDrawn_81 rfl (by decide) rfl ?_
      refine g_goto (tgt := 17) C dX7_firstDrawn_84 (by decide) ?_
      exact g_mask [true, true, true, true, false, false] (hc _ _ (Option.some.inj hf).symm)
    · have hf := if_f c28 hf
      refine g_iload_n (i := 3) C dX7_firstDrawn_79 rfl rfl ?_
      obtain ⟨e1, e2⟩ := he1 _ _ (Option.some.inj hf).symm
      exact g_iret C hr hlk e1 e2 dX7_firstDrawn_80
set_option maxHeartbeats 4000000 in
set_option maxRecDepth 100000 in
theorem w_X7_firstDrawn_17 (C : Cx p s m args c cX7_firstDrawn 6 RX7 wsX7_firstDrawn D ca A) (hr : meth.sig.returnType = (some .int)) (hlk : meth.locks = false) {p1 p2 : Int} {n : Nat} {x3 : Int} {σ : Mem} {b : ((Int × Mem) ⊕ (Mem))} (h : itr (fun z : Int × Mem => f_X7_firstDrawn_17 p1 p2 z.1 z.2) n (x3, σ) = some b) (he1 : ∀ (r1 : Int) (σ1 : Mem), b = .inl (r1, σ1) → r1 = r0 ∧ σ1 = σ0) (he2 : ∀ (σ : Mem), b = .inr σ → G p l e rm_X7_firstDrawn s m args below meth c 6 D ca ad A 0 0 (MQ below (Qi D ca ad A r0 σ0) args s 0 0 A) σ 87 [none, none, none, none, none, none] []) : G p l e rm_X7_firstDrawn s m args below meth c 6 D ca ad A 0 0 (MQ below (Qi D ca ad A r0 σ0) args s 0 0 A) σ 17 [some (.ref (ad 72)), some (.int (iI p1)), some (.int (iI p2)), some (.int (iI x3)), none, none] [] :=
  itr_rule (P := fun z : Int × Mem => G p l e rm_X7_firstDrawn s m args below meth c 6 D ca ad A 0 0 (MQ below (Qi D ca ad A r0 σ0) args s 0 0 A) z.2 17 [some (.ref (ad 72)), some (.int (iI p1)), some (.int (iI p2)), some (.int (iI z.1)), none, none] []) (E := fun b => (∀ (r1 : Int) (σ1 : Mem), b = .inl (r1, σ1) → r1 = r0 ∧ σ1 = σ0) ∧ (∀ (σ : Mem), b = .inr σ → G p l e rm_X7_firstDrawn s m args below meth c 6 D ca ad A 0 0 (MQ below (Qi D ca ad A r0 σ0) args s 0 0 A) σ 87 [none, none, none, none, none, none] [])) (fun z o hb hc he => it_X7_firstDrawn_17 C hr hlk (fun _ _ e => hc _ e) (fun r1 σ1 e => (he _ e).1 r1 σ1 rfl) (fun _ e => (he _ e).2 _ rfl) hb) n _ _ h ⟨he1, he2⟩
set_option maxHeartbeats 4000000 in
set_option maxRecDepth 100000 in
theorem c_X7_firstDrawn {v1 : Int} {σ : Mem} (hf : f_X7_firstDrawn v1 σ = some (r0, σ0)) : CTi l D ca ad A yX7_firstDrawn wsX7_firstDrawn rm_X7_firstDrawn [.ref (ad 72), .int (iI v1)] σ r0 σ0 := by
  refine ct_i (cc := cX7_firstDrawn) (own := RX7) (maxL := 6) (ret := (some .int)) (lv0 := [some (.ref (ad 72)), some (.int (iI v1)), none, none, none, none]) (by decide) rfl rfl rfl (Nat.le_of_ble_eq_true rfl) ?_
  intro p e s m below meth c C hr hlk hnm
  unfold f_X7_firstDrawn at hf
  refine g_aload_n (i := 0) C dX7_firstDrawn_0 rfl rfl ?_
  refine g_iload_n (i := 1) C dX7_firstDrawn_1 rfl rfl ?_
  obtain ⟨r2, σ1, h3, hf⟩ := ob_inv hf
  refine g_callVi C (c_X7_leastNotBarred  h3) (cwV 1 C.2.2.2.2.1 gX7_firstDrawn_X7_leastNotBarred rfl rfl rfl (by decide +kernel) ⟨Nat.le_of_ble_eq_true rfl, Nat.le_of_ble_eq_true rfl⟩) ob_X7 rfl rfl rfl rfl (Nat.le_of_ble_eq_true rfl) dX7_firstDrawn_2 ⟨Nat.zero_le _, Nat.zero_le _⟩ ?_
  refine g_istore_n (i := 2) C dX7_firstDrawn_5 rfl (by decide) rfl ?_
  refine g_iload_n (i := 2) C dX7_firstDrawn_6 rfl rfl ?_
  refine g_bipush C dX7_firstDrawn_7 (by decide) ?_
  refine g_icmp_ne (b' := (-4)) (tgt := 15) C dX7_firstDrawn_9 (by decide) rfl (by decide) (fun c4 => ?_) (fun c4 => ?_)
  · have hf := if_f c4 hf
    refine g_iconst C dX7_firstDrawn_15 ?_
    refine g_istore_n (i := 3) C dX7_firstDrawn_16 rfl (by decide) rfl ?_
    obtain ⟨q29, hl30, hf⟩ := lb_inv hf
    refine g_mask [true, true, true, true, false, false] (w_X7_firstDrawn_17 C hr hlk hl30 ?_ ?_)
    · rintro r1 σ1 rfl
      exact some_inv hf
    · rintro σ31 rfl
      have hf := se_r hf
      refine g_bipush C dX7_firstDrawn_87 (by decide) ?_
      obtain ⟨e1, e2⟩ := some_inv hf
      exact g_iret C hr hlk e1 e2 dX7_firstDrawn_89
  · have hf := if_t c4 hf
    refine g_bipush C dX7_firstDrawn_12 (by decide) ?_
    obtain ⟨e1, e2⟩ := some_inv hf
    exact g_iret C hr hlk e1 e2 dX7_firstDrawn_14
/-! X7_fallsBy -/
abbrev rm_X7_fallsBy : Room := { frames := 5, cells := 0, slots := 0, locals := 122 }
theorem hiX7_fallsBy_X4 : ∀ w ∈ u_ws RX4 TX4 9, w ∈ wsX7_fallsBy := fun _ h => (List.mem_cons_of_mem _ (List.mem_append_right _ h))
theorem hiX7_fallsBy_X7 : ∀ w ∈ u_ws RX7 TX7 14, w ∈ wsX7_fallsBy := fun _ h => (List.mem_cons_of_mem _ (List.mem_append_left _ (List.mem_append_right _ h)))
set_option maxHeartbeats 4000000 in
set_option maxRecDepth 100000 in
theorem it_X7_fallsBy_2 (C : Cx p s m args c cX7_fallsBy 3 RX7 wsX7_fallsBy D ca A) (hr : meth.sig.returnType = (some .int)) (hlk : meth.locks = false) {o : (Int × Mem) ⊕ ((Int × Mem) ⊕ (Mem))} (hc : ∀ (x1 : Int) (σ : Mem), o = .inl (x1, σ) → G p l e rm_X7_fallsBy s m args below meth c 3 D ca ad A 0 0 (MQ below (Qi D ca ad A r0 σ0) args s 0 0 A) σ 2 [some (.ref (ad 72)), some (.int (iI x1)), none] []) (he1 : ∀ (r1 : Int) (σ1 : Mem), o = .inr (.inl (r1, σ1)) → r1 = r0 ∧ σ1 = σ0) (he2 : ∀ (σ : Mem), o = .inr (.inr σ) → G p l e rm_X7_fallsBy s m args below meth c 3 D ca ad A 0 0 (MQ below (Qi D ca ad A r0 σ0) args s 0 0 A) σ 51 [none, none, none] []) {x1 : Int} {σ : Mem} (hf : f_X7_fallsBy_2  x1 σ = some o) : G p l e rm_X7_fallsBy s m args below meth c 3 D ca ad A 0 0 (MQ below (Qi D ca ad A r0 σ0) args s 0 0 A) σ 2 [some (.ref (ad 72)), some (.int (iI x1)), none] [] := by
  unfold f_X7_fallsBy_2 at hf
  refine g_iload_n (i := 1) C dX7_fallsBy_2 rfl rfl ?_
  refine g_aload_n (i := 0) C dX7_fallsBy_3 rfl rfl ?_
  refine gg_X7_market (i := 1) C hiX7_fallsBy_X7 rfl dX7_fallsBy_4 ?_
  refine gg_X4_marks (i := 2) C (by decide) hiX7_fallsBy_X4 rfl dX7_fallsBy_7 ?_
  refine g_icmp_ge (tgt := 51) C dX7_fallsBy_10 (by decide) rfl rfl (fun c11 => ?_) (fun c11 => ?_)
  · have hf := if_t c11 hf
    exact g_mask [false, false, false] (he2 _ (Option.some.inj hf).symm)
  · have hf := if_f c11 hf
    refine g_aload_n (i := 0) C dX7_fallsBy_13 rfl rfl ?_
    refine g_iload_n (i := 1) C dX7_fallsBy_14 rfl rfl ?_
    obtain ⟨r13, σ12, h14, hf⟩ := ob_inv hf
    refine g_callVi C (c_X7_isMade  h14) (cwV 1 C.2.2.2.2.1 gX7_fallsBy_X7_isMade rfl rfl rfl (by decide +kernel) ⟨Nat.le_of_ble_eq_true rfl, Nat.le_of_ble_eq_true rfl⟩) ob_X7 rfl rfl rfl rfl (Nat.le_of_ble_eq_true rfl) dX7_fallsBy_15 ⟨Nat.zero_le _, Nat.zero_le _⟩ ?_
    refine g_if_eq (tgt := 26) C dX7_fallsBy_18 (by decide) rfl (fun c15 => ?_) (fun c15 => ?_)
    · have hf := if_t c15 hf
      refine g_aload_n (i := 0) C dX7_fallsBy_26 rfl rfl ?_
      refine g_iload_n (i := 1) C dX7_fallsBy_27 rfl rfl ?_
      obtain ⟨r17, σ16, h18, hf⟩ := ob_inv hf
      refine g_callVi C (c_X7_firstDrawn  h18) (cwV 1 C.2.2.2.2.1 gX7_fallsBy_X7_firstDrawn rfl rfl rfl (by decide +kernel) ⟨Nat.le_of_ble_eq_true rfl, Nat.le_of_ble_eq_true rfl⟩) ob_X7 rfl rfl rfl rfl (Nat.le_of_ble_eq_true rfl) dX7_fallsBy_28 ⟨Nat.zero_le _, Nat.zero_le _⟩ ?_
      refine g_istore_n (i := 2) C dX7_fallsBy_31 rfl (by decide) rfl ?_
      refine g_iload_n (i := 2) C dX7_fallsBy_32 rfl rfl ?_
      refine g_bipush C dX7_fallsBy_33 (by decide) ?_
      refine g_icmp_eq (b' := (-4)) (tgt := 45) C dX7_fallsBy_35 (by decide) rfl (by decide) (fun c19 => ?_) (fun c19 => ?_)
      · have hf := if_t c19 hf
        refine g_iinc C dX7_fallsBy_45 rfl (by decide) rfl ?_
        refine g_goto (tgt := 2) C dX7_fallsBy_48 (by decide) ?_
        exact g_mask [true, true, false] (hc _ _ (Option.some.inj hf).symm)
      · have hf := if_f c19 hf
        refine g_bipush C dX7_fallsBy_38 (by decide) ?_
        refine g_iload_n (i := 1) C dX7_fallsBy_40 rfl rfl ?_
        refine g_imul C dX7_fallsBy_41 ?_
        refine g_iload_n (i := 2) C dX7_fallsBy_42 rfl rfl ?_
        refine g_iadd C dX7_fallsBy_43 ?_
        obtain ⟨e1, e2⟩ := he1 _ _ (Option.some.inj hf).symm
        exact g_iret C hr hlk e1 e2 dX7_fallsBy_44
    · have hf := if_f c15 hf
      refine g_bipush C dX7_fallsBy_21 (by decide) ?_
      refine g_goto (tgt := 31) C dX7_fallsBy_23 (by decide) ?_
      refine g_istore_n (i := 2) C dX7_fallsBy_31 rfl (by decide) rfl ?_
      refine g_iload_n (i := 2) C dX7_fallsBy_32 rfl rfl ?_
      refine g_bipush C dX7_fallsBy_33 (by decide) ?_
      refine g_icmp_eq (a' := (-4)) (b' := (-4)) (tgt := 45) C dX7_fallsBy_35 (by decide) (by decide) (by decide) (fun c20 => ?_) (fun c20 => absurd c20 (by decide))
      refine g_iinc C dX7_fallsBy_45 rfl (by decide) rfl ?_
      refine g_goto (tgt := 2) C dX7_fallsBy_48 (by decide) ?_
      exact g_mask [true, true, false] (hc _ _ (Option.some.inj hf).symm)
set_option maxHeartbeats 4000000 in
set_option maxRecDepth 100000 in
theorem w_X7_fallsBy_2 (C : Cx p s m args c cX7_fallsBy 3 RX7 wsX7_fallsBy D ca A) (hr : meth.sig.returnType = (some .int)) (hlk : meth.locks = false) {n : Nat} {x1 : Int} {σ : Mem} {b : ((Int × Mem) ⊕ (Mem))} (h : itr (fun z : Int × Mem => f_X7_fallsBy_2  z.1 z.2) n (x1, σ) = some b) (he1 : ∀ (r1 : Int) (σ1 : Mem), b = .inl (r1, σ1) → r1 = r0 ∧ σ1 = σ0) (he2 : ∀ (σ : Mem), b = .inr σ → G p l e rm_X7_fallsBy s m args below meth c 3 D ca ad A 0 0 (MQ below (Qi D ca ad A r0 σ0) args s 0 0 A) σ 51 [none, none, none] []) : G p l e rm_X7_fallsBy s m args below meth c 3 D ca ad A 0 0 (MQ below (Qi D ca ad A r0 σ0) args s 0 0 A) σ 2 [some (.ref (ad 72)), some (.int (iI x1)), none] [] :=
  itr_rule (P := fun z : Int × Mem => G p l e rm_X7_fallsBy s m args below meth c 3 D ca ad A 0 0 (MQ below (Qi D ca ad A r0 σ0) args s 0 0 A) z.2 2 [some (.ref (ad 72)), some (.int (iI z.1)), none] []) (E := fun b => (∀ (r1 : Int) (σ1 : Mem), b = .inl (r1, σ1) → r1 = r0 ∧ σ1 = σ0) ∧ (∀ (σ : Mem), b = .inr σ → G p l e rm_X7_fallsBy s m args below meth c 3 D ca ad A 0 0 (MQ below (Qi D ca ad A r0 σ0) args s 0 0 A) σ 51 [none, none, none] [])) (fun z o hb hc he => it_X7_fallsBy_2 C hr hlk (fun _ _ e => hc _ e) (fun r1 σ1 e => (he _ e).1 r1 σ1 rfl) (fun _ e => (he _ e).2 _ rfl) hb) n _ _ h ⟨he1, he2⟩
set_option maxHeartbeats 4000000 in
set_option maxRecDepth 100000 in
theorem c_X7_fallsBy {σ : Mem} (hf : f_X7_fallsBy  σ = some (r0, σ0)) : CTi l D ca ad A yX7_fallsBy wsX7_fallsBy rm_X7_fallsBy [.ref (ad 72)] σ r0 σ0 := by
  refine ct_i (cc := cX7_fallsBy) (own := RX7) (maxL := 3) (ret := (some .int)) (lv0 := [some (.ref (ad 72)), none, none]) (by decide) rfl rfl rfl (Nat.le_of_ble_eq_true rfl) ?_
  intro p e s m below meth c C hr hlk hnm
  unfold f_X7_fallsBy at hf
  refine g_iconst C dX7_fallsBy_0 ?_
  refine g_istore_n (i := 1) C dX7_fallsBy_1 rfl (by decide) rfl ?_
  obtain ⟨q21, hl22, hf⟩ := lb_inv hf
  refine g_mask [true, true, false] (w_X7_fallsBy_2 C hr hlk hl22 ?_ ?_)
  · rintro r1 σ1 rfl
    exact some_inv hf
  · rintro σ23 rfl
    have hf := se_r hf
    refine g_bipush C dX7_fallsBy_51 (by decide) ?_
    obtain ⟨e1, e2⟩ := some_inv hf
    exact g_iret C hr hlk e1 e2 dX7_fallsBy_53
/-! X7_drawsLots -/
abbrev rm_X7_drawsLots : Room := { frames := 1, cells := 0, slots := 0, locals := 21 }
theorem hiX7_drawsLots_X4 : ∀ w ∈ u_ws RX4 TX4 9, w ∈ wsX7_drawsLots := fun _ h => (List.mem_cons_of_mem _ (List.mem_append_right _ h))
theorem hiX7_drawsLots_X7 : ∀ w ∈ u_ws RX7 TX7 14, w ∈ wsX7_drawsLots := fun _ h => (List.mem_cons_of_mem _ (List.mem_append_left _ (List.mem_append_right _ h)))
set_option maxHeartbeats 4000000 in
set_option maxRecDepth 100000 in
theorem it_X7_drawsLots_83 (C : Cx p s m args c cX7_drawsLots 9 RX7 wsX7_drawsLots D ca A) (hr : meth.sig.returnType = (some .boolean)) (hlk : meth.locks = false) {p1 p3 p4 : Int} {o : (Int × Int × Mem) ⊕ (Int × Mem)} (hc : ∀ (x5 x7 : Int) (σ : Mem), o = .inl (x5, x7, σ) → G p l e rm_X7_drawsLots s m args below meth c 9 D ca ad A 0 0 (MQ below (Qi D ca ad A r0 σ0) args s 0 0 A) σ 83 [some (.ref (ad 72)), some (.int (iI p1)), none, some (.int (iI p3)), some (.int (iI p4)), some (.long (lI x5)), none, some (.int (iI x7)), none] []) (he : ∀ (y5 : Int) (σ : Mem), o = .inr (y5, σ) → G p l e rm_X7_drawsLots s m args below meth c 9 D ca ad A 0 0 (MQ below (Qi D ca ad A r0 σ0) args s 0 0 A) σ 148 [some (.ref (ad 72)), some (.int (iI p1)), none, none, some (.int (iI p4)), some (.long (lI y5)), none, none, none] []) {x5 x7 : Int} {σ : Mem} (hf : f_X7_drawsLots_83 p1 p3 p4 x5 x7 σ = some o) : G p l e rm_X7_drawsLots s m args below meth c 9 D ca ad A 0 0 (MQ below (Qi D ca ad A r0 σ0) args s 0 0 A) σ 83 [some (.ref (ad 72)), some (.int (iI p1)), none, some (.int (iI p3)), some (.int (iI p4)), some (.long (lI x5)), none, some (.int (iI x7)), none] [] := by
  unfold f_X7_drawsLots_83 at hf
  refine g_iload C dX7_drawsLots_83 rfl ?_
  refine g_aload_n (i := 0) C dX7_drawsLots_85 rfl rfl ?_
  refine gg_X7_market (i := 2) C hiX7_drawsLots_X7 rfl dX7_drawsLots_86 ?_
  refine gg_X4_sorts (i := 6) C (by decide) hiX7_drawsLots_X4 rfl dX7_drawsLots_89 ?_
  refine g_icmp_ge (tgt := 148) C dX7_drawsLots_92 (by decide) rfl rfl (fun c11 => ?_) (fun c11 => ?_)
  · have hf := if_t c11 hf
    exact g_mask [true, true, false, false, true, true, false, false, false] (he _ _ (Option.some.inj hf).symm)
  · have hf := if_f c11 hf
    refine g_iload C dX7_drawsLots_95 rfl ?_
    refine g_iload_n (i := 1) C dX7_drawsLots_97 rfl rfl ?_
    refine g_icmp_eq (tgt := 142) C dX7_drawsLots_98 (by decide) rfl rfl (fun c12 => ?_) (fun c12 => ?_)
    · have hf := if_t c12 hf
      refine g_iinc C dX7_drawsLots_142 rfl (by decide) rfl ?_
      refine g_goto (tgt := 83) C dX7_drawsLots_145 (by decide) ?_
      exact g_mask [true, true, false, true, true, true, false, true, false] (hc _ _ _ (Option.some.inj hf).symm)
    · have hf := if_f c12 hf
      refine g_aload_n (i := 0) C dX7_drawsLots_101 rfl rfl ?_
      refine gg_X7_place (i := 1) C hiX7_drawsLots_X7 rfl dX7_drawsLots_102 ?_
      refine g_iload C dX7_drawsLots_105 rfl ?_
      obtain ⟨hb13, hf⟩ := if_inv hf
      refine g_iaload (N := 4) C (by decide) dX7_drawsLots_107 rfl hb13 ?_
      refine g_iload_n (i := 3) C dX7_drawsLots_108 rfl rfl ?_
      refine g_icmp_ne (tgt := 142) C dX7_drawsLots_109 (by decide) rfl rfl (fun c14 => ?_) (fun c14 => ?_)
      · have hf := if_f c14 hf
        refine g_iinc C dX7_drawsLots_142 rfl (by decide) rfl ?_
        refine g_goto (tgt := 83) C dX7_drawsLots_145 (by decide) ?_
        exact g_mask [true, true, false, true, true, true, false, true, false] (hc _ _ _ (Option.some.inj hf).symm)
      · have hf := if_t c14 hf
        refine g_lload C dX7_drawsLots_112 rfl ?_
        refine g_aload_n (i := 0) C dX7_drawsLots_114 rfl rfl ?_
        refine gg_X7_market (i := 2) C hiX7_drawsLots_X7 rfl dX7_drawsLots_115 ?_
        refine gg_X4_chance (i := 7) (b := 11)  C (by decide) (by decide) hiX7_drawsLots_X4 rfl dX7_drawsLots_118 ?_
        refine g_iload C dX7_drawsLots_121 rfl ?_
        refine g_iaload (N := 4) C (by decide) dX7_drawsLots_123 rfl hb13 ?_
        refine g_aload_n (i := 0) C dX7_drawsLots_124 rfl rfl ?_
        refine gg_X7_market (i := 2) C hiX7_drawsLots_X7 rfl dX7_drawsLots_125 ?_
        refine gg_X4_worth (i := 3) (b := 12)  C (by decide) (by decide) hiX7_drawsLots_X4 rfl dX7_drawsLots_128 ?_
        refine g_iload C dX7_drawsLots_131 rfl ?_
        refine g_iaload (N := 4) C (by decide) dX7_drawsLots_133 rfl hb13 ?_
        refine g_iload C dX7_drawsLots_134 rfl ?_
        refine g_isub C dX7_drawsLots_136 ?_
        refine g_imul C dX7_drawsLots_137 ?_
        refine g_i2l C dX7_drawsLots_138 rfl ?_
        refine g_ladd C dX7_drawsLots_139 ?_
        refine g_lstore C dX7_drawsLots_140 (by decide) rfl ?_
        refine g_iinc C dX7_drawsLots_142 rfl (by decide) rfl ?_
        refine g_goto (tgt := 83) C dX7_drawsLots_145 (by decide) ?_
        exact g_mask [true, true, false, true, true, true, false, true, false] (hc _ _ _ (Option.some.inj hf).symm)
set_option maxHeartbeats 4000000 in
set_option maxRecDepth 100000 in
theorem w_X7_drawsLots_83 (C : Cx p s m args c cX7_drawsLots 9 RX7 wsX7_drawsLots D ca A) (hr : meth.sig.returnType = (some .boolean)) (hlk : meth.locks = false) {p1 p3 p4 : Int} {n : Nat} {x5 x7 : Int} {σ : Mem} {b : (Int × Mem)} (h : itr (fun z : Int × Int × Mem => f_X7_drawsLots_83 p1 p3 p4 z.1 z.2.1 z.2.2) n (x5, x7, σ) = some b) (he : ∀ (y5 : Int) (σ : Mem), b = (y5, σ) → G p l e rm_X7_drawsLots s m args below meth c 9 D ca ad A 0 0 (MQ below (Qi D ca ad A r0 σ0) args s 0 0 A) σ 148 [some (.ref (ad 72)), some (.int (iI p1)), none, none, some (.int (iI p4)), some (.long (lI y5)), none, none, none] []) : G p l e rm_X7_drawsLots s m args below meth c 9 D ca ad A 0 0 (MQ below (Qi D ca ad A r0 σ0) args s 0 0 A) σ 83 [some (.ref (ad 72)), some (.int (iI p1)), none, some (.int (iI p3)), some (.int (iI p4)), some (.long (lI x5)), none, some (.int (iI x7)), none] [] :=
  itr_rule (P := fun z : Int × Int × Mem => G p l e rm_X7_drawsLots s m args below meth c 9 D ca ad A 0 0 (MQ below (Qi D ca ad A r0 σ0) args s 0 0 A) z.2.2 83 [some (.ref (ad 72)), some (.int (iI p1)), none, some (.int (iI p3)), some (.int (iI p4)), some (.long (lI z.1)), none, some (.int (iI z.2.1)), none] []) (E := fun b => ∀ (y5 : Int) (σ : Mem), b = (y5, σ) → G p l e rm_X7_drawsLots s m args below meth c 9 D ca ad A 0 0 (MQ below (Qi D ca ad A r0 σ0) args s 0 0 A) σ 148 [some (.ref (ad 72)), some (.int (iI p1)), none, none, some (.int (iI p4)), some (.long (lI y5)), none, none, none] []) (fun z o hb hc he => it_X7_drawsLots_83 C hr hlk (fun _ _ _ e => hc _ e) (fun _ _ e => (he _ e) _ _ rfl) hb) n _ _ h he
set_option maxHeartbeats 4000000 in
set_option maxRecDepth 100000 in
theorem c_X7_drawsLots {v1 v2 : Int} {σ : Mem} (hf : f_X7_drawsLots v1 v2 σ = some (r0, σ0)) : CTi l D ca ad A yX7_drawsLots wsX7_drawsLots rm_X7_drawsLots [.ref (ad 72), .int (iI v1), .int (iI v2)] σ r0 σ0 := by
  refine ct_i (cc := cX7_drawsLots) (own := RX7) (maxL := 9) (ret := (some .boolean)) (lv0 := [some (.ref (ad 72)), some (.int (iI v1)), some (.int (iI v2)), none, none, none, none, none, none]) (by decide) rfl rfl rfl (Nat.le_of_ble_eq_true rfl) ?_
  intro p e s m below meth c C hr hlk hnm
  unfold f_X7_drawsLots at hf
  refine g_aload_n (i := 0) C dX7_drawsLots_0 rfl rfl ?_
  refine gg_X7_place (i := 1) C hiX7_drawsLots_X7 rfl dX7_drawsLots_1 ?_
  refine g_iload_n (i := 1) C dX7_drawsLots_4 rfl rfl ?_
  obtain ⟨hb1, hf⟩ := if_inv hf
  refine g_iaload (N := 4) C (by decide) dX7_drawsLots_5 rfl hb1 ?_
  refine g_istore_n (i := 3) C dX7_drawsLots_6 rfl (by decide) rfl ?_
  refine g_iload_n (i := 3) C dX7_drawsLots_7 rfl rfl ?_
  refine g_iconst C dX7_drawsLots_8 ?_
  refine g_icmp_eq (b' := 4) (tgt := 20) C dX7_drawsLots_9 (by decide) rfl (by decide) (fun c3 => ?_) (fun c3 => ?_)
  · have hf := if_t c3 hf
    refine g_iconst C dX7_drawsLots_20 ?_
    obtain ⟨e1, e2⟩ := some_inv hf
    exact g_zret C hr hlk (by decide) e1 e2 dX7_drawsLots_21
  · have hf := if_f c3 hf
    refine g_aload_n (i := 0) C dX7_drawsLots_12 rfl rfl ?_
    refine g_iload_n (i := 2) C dX7_drawsLots_13 rfl rfl ?_
    obtain ⟨r5, σ4, h6, hf⟩ := ob_inv hf
    refine g_callVi C (c_X7_isMade  h6) (cwV 1 C.2.2.2.2.1 gX7_drawsLots_X7_isMade rfl rfl rfl (by decide +kernel) ⟨Nat.le_of_ble_eq_true rfl, Nat.le_of_ble_eq_true rfl⟩) ob_X7 rfl rfl rfl rfl (Nat.le_of_ble_eq_true rfl) dX7_drawsLots_14 ⟨Nat.zero_le _, Nat.zero_le _⟩ ?_
    refine g_if_eq (tgt := 22) C dX7_drawsLots_17 (by decide) rfl (fun c7 => ?_) (fun c7 => ?_)
    · have hf := if_t c7 hf
      refine g_aload_n (i := 0) C dX7_drawsLots_22 rfl rfl ?_
      refine gg_X7_market (i := 2) C hiX7_drawsLots_X7 rfl dX7_drawsLots_23 ?_
      refine gg_X4_worth (i := 3) (b := 12)  C (by decide) (by decide) hiX7_drawsLots_X4 rfl dX7_drawsLots_26 ?_
      refine g_iload_n (i := 1) C dX7_drawsLots_29 rfl rfl ?_
      refine g_iaload (N := 4) C (by decide) dX7_drawsLots_30 rfl hb1 ?_
      refine g_aload_n (i := 0) C dX7_drawsLots_31 rfl rfl ?_
      refine gg_X7_market (i := 2) C hiX7_drawsLots_X7 rfl dX7_drawsLots_32 ?_
      refine gg_X4_use (i := 4) (b := 14)  C (by decide) (by decide) hiX7_drawsLots_X4 rfl dX7_drawsLots_35 ?_
      refine g_iload_n (i := 2) C dX7_drawsLots_38 rfl rfl ?_
      obtain ⟨hb8, hf⟩ := if_inv hf
      refine g_iaload (N := 4) C (by decide) dX7_drawsLots_39 rfl hb8 ?_
      refine g_iadd C dX7_drawsLots_40 ?_
      refine g_aload_n (i := 0) C dX7_drawsLots_41 rfl rfl ?_
      refine gg_X7_market (i := 2) C hiX7_drawsLots_X7 rfl dX7_drawsLots_42 ?_
      refine gg_X4_cost (i := 5) (b := 16)  C (by decide) (by decide) hiX7_drawsLots_X4 rfl dX7_drawsLots_45 ?_
      refine g_iload_n (i := 2) C dX7_drawsLots_48 rfl rfl ?_
      refine g_aaload C (Or.inr ⟨(by decide), rfl, hb8⟩) dX7_drawsLots_49 rfl ?_
      refine g_iload_n (i := 1) C dX7_drawsLots_50 rfl rfl ?_
      refine g_iaload (N := 4) C (kI_row (by decide) hb8) dX7_drawsLots_51 rfl hb1 ?_
      refine g_isub C dX7_drawsLots_52 ?_
      refine g_aload_n (i := 0) C dX7_drawsLots_53 rfl rfl ?_
      refine gg_X7_market (i := 2) C hiX7_drawsLots_X7 rfl dX7_drawsLots_54 ?_
      refine gg_X4_cost (i := 5) (b := 16)  C (by decide) (by decide) hiX7_drawsLots_X4 rfl dX7_drawsLots_57 ?_
      refine g_iload_n (i := 3) C dX7_drawsLots_60 rfl rfl ?_
      obtain ⟨hb9, hf⟩ := if_inv hf
      refine g_aaload C (Or.inr ⟨(by decide), rfl, hb9⟩) dX7_drawsLots_61 rfl ?_
      refine g_iload_n (i := 1) C dX7_drawsLots_62 rfl rfl ?_
      refine g_iaload (N := 4) C (kI_row (by decide) hb9) dX7_drawsLots_63 rfl hb1 ?_
      refine g_iadd C dX7_drawsLots_64 ?_
      refine g_aload_n (i := 0) C dX7_drawsLots_65 rfl rfl ?_
      refine gg_X7_market (i := 2) C hiX7_drawsLots_X7 rfl dX7_drawsLots_66 ?_
      refine gg_X4_use (i := 4) (b := 14)  C (by decide) (by decide) hiX7_drawsLots_X4 rfl dX7_drawsLots_69 ?_
      refine g_iload_n (i := 3) C dX7_drawsLots_72 rfl rfl ?_
      refine g_iaload (N := 4) C (by decide) dX7_drawsLots_73 rfl hb9 ?_
      refine g_isub C dX7_drawsLots_74 ?_
      refine g_istore C dX7_drawsLots_75 (by decide) rfl ?_
      refine g_lconst (z := 0) C dX7_drawsLots_77 (by decide) ?_
      refine g_lstore C dX7_drawsLots_78 (by decide) rfl ?_
      refine g_iconst C dX7_drawsLots_80 ?_
      refine g_istore C dX7_drawsLots_81 (by decide) rfl ?_
      obtain ⟨q16, hl17, hf⟩ := lb_inv hf
      refine g_mask [true, true, false, true, true, true, false, true, false] (w_X7_drawsLots_83 C hr hlk hl17 ?_)
      · rintro y18 σ19 rfl
        refine g_aload_n (i := 0) C dX7_drawsLots_148 rfl rfl ?_
        refine gg_X7_market (i := 2) C hiX7_drawsLots_X7 rfl dX7_drawsLots_149 ?_
        refine gg_X4_chance (i := 7) (b := 11)  C (by decide) (by decide) hiX7_drawsLots_X4 rfl dX7_drawsLots_152 ?_
        refine g_iload_n (i := 1) C dX7_drawsLots_155 rfl rfl ?_
        obtain ⟨hb20, hf⟩ := if_inv hf
        refine g_iaload (N := 4) C (by decide) dX7_drawsLots_156 rfl hb20 ?_
        refine g_iload C dX7_drawsLots_157 rfl ?_
        refine g_aload_n (i := 0) C dX7_drawsLots_159 rfl rfl ?_
        refine gg_X7_market (i := 2) C hiX7_drawsLots_X7 rfl dX7_drawsLots_160 ?_
        refine gg_X4_worth (i := 3) (b := 12)  C (by decide) (by decide) hiX7_drawsLots_X4 rfl dX7_drawsLots_163 ?_
        refine g_iload_n (i := 1) C dX7_drawsLots_166 rfl rfl ?_
        refine g_iaload (N := 4) C (by decide) dX7_drawsLots_167 rfl hb20 ?_
        refine g_isub C dX7_drawsLots_168 ?_
        refine g_imul C dX7_drawsLots_169 ?_
        refine g_i2l C dX7_drawsLots_170 rfl ?_
        refine g_lstore C dX7_drawsLots_171 (by decide) rfl ?_
        refine g_aload_n (i := 0) C dX7_drawsLots_173 rfl rfl ?_
        refine g_lload C dX7_drawsLots_174 rfl ?_
        refine g_lconst (z := 0) C dX7_drawsLots_176 (by decide) ?_
        refine g_lcmp_ge (b' := 0) (tgt := 187) C dX7_drawsLots_177 dX7_drawsLots_178 (by decide) rfl (by decide) (fun c22 => ?_) (fun c22 => ?_)
        · have hf := if_t c22 hf
          refine g_lload C dX7_drawsLots_187 rfl ?_
          refine gp_X7_lotsTop (i := 8) C hiX7_drawsLots_X7 rfl dX7_drawsLots_189 ?_
          refine g_aload_n (i := 0) C dX7_drawsLots_192 rfl rfl ?_
          refine g_lload C dX7_drawsLots_193 rfl ?_
          refine g_absl (i1 := 9) (i2 := 10) (i3 := 11) (i4 := 12) C rfl rfl rfl rfl (by decide) (Nat.le_of_ble_eq_true rfl) ⟨Nat.zero_le _, Nat.zero_le _⟩ dX7_drawsLots_195 ?_
          refine gp_X7_lotsUnder (i := 13) C hiX7_drawsLots_X7 rfl dX7_drawsLots_198 ?_
          refine g_aload_n (i := 0) C dX7_drawsLots_201 rfl rfl ?_
          refine gg_X7_lotsTop (i := 8) C hiX7_drawsLots_X7 rfl dX7_drawsLots_202 ?_
          refine g_lconst (z := 0) C dX7_drawsLots_205 (by decide) ?_
          refine g_lcmp_le (b' := 0) (tgt := 226) C dX7_drawsLots_206 dX7_drawsLots_207 (by decide) rfl (by decide) (fun c25 => ?_) (fun c25 => ?_)
          · have hf := if_t c25 hf
            refine g_iconst C dX7_drawsLots_226 ?_
            obtain ⟨e1, e2⟩ := some_inv hf
            exact g_zret C hr hlk (by decide) e1 e2 dX7_drawsLots_227
          · have hf := if_f c25 hf
            refine g_aload_n (i := 0) C dX7_drawsLots_210 rfl rfl ?_
            refine gg_X7_lotsTop (i := 8) C hiX7_drawsLots_X7 rfl dX7_drawsLots_211 ?_
            refine g_aload_n (i := 0) C dX7_drawsLots_214 rfl rfl ?_
            refine gg_X7_lotsUnder (i := 13) C hiX7_drawsLots_X7 rfl dX7_drawsLots_215 ?_
            refine g_lcmp_ge (tgt := 226) C dX7_drawsLots_218 dX7_drawsLots_219 (by decide) rfl rfl (fun c26 => ?_) (fun c26 => ?_)
            · have hf := if_t c26 hf
              refine g_iconst C dX7_drawsLots_226 ?_
              obtain ⟨e1, e2⟩ := some_inv hf
              exact g_zret C hr hlk (by decide) e1 e2 dX7_drawsLots_227
            · have hf := if_f c26 hf
              refine g_iconst C dX7_drawsLots_222 ?_
              refine g_goto (tgt := 227) C dX7_drawsLots_223 (by decide) ?_
              obtain ⟨e1, e2⟩ := some_inv hf
              exact g_zret C hr hlk (by decide) e1 e2 dX7_drawsLots_227
        · have hf := if_f c22 hf
          refine g_lload C dX7_drawsLots_181 rfl ?_
          refine g_lneg C dX7_drawsLots_183 ?_
          refine g_goto (tgt := 189) C dX7_drawsLots_184 (by decide) ?_
          refine gp_X7_lotsTop (i := 8) C hiX7_drawsLots_X7 rfl dX7_drawsLots_189 ?_
          refine g_aload_n (i := 0) C dX7_drawsLots_192 rfl rfl ?_
          refine g_lload C dX7_drawsLots_193 rfl ?_
          refine g_absl (i1 := 9) (i2 := 10) (i3 := 11) (i4 := 12) C rfl rfl rfl rfl (by decide) (Nat.le_of_ble_eq_true rfl) ⟨Nat.zero_le _, Nat.zero_le _⟩ dX7_drawsLots_195 ?_
          refine gp_X7_lotsUnder (i := 13) C hiX7_drawsLots_X7 rfl dX7_drawsLots_198 ?_
          refine g_aload_n (i := 0) C dX7_drawsLots_201 rfl rfl ?_
          refine gg_X7_lotsTop (i := 8) C hiX7_drawsLots_X7 rfl dX7_drawsLots_202 ?_
          refine g_lconst (z := 0) C dX7_drawsLots_205 (by decide) ?_
          refine g_lcmp_le (b' := 0) (tgt := 226) C dX7_drawsLots_206 dX7_drawsLots_207 (by decide) rfl (by decide) (fun c29 => ?_) (fun c29 => ?_)
          · have hf := if_t c29 hf
            refine g_iconst C dX7_drawsLots_226 ?_
            obtain ⟨e1, e2⟩ := some_inv hf
            exact g_zret C hr hlk (by decide) e1 e2 dX7_drawsLots_227
          · have hf := if_f c29 hf
            refine g_aload_n (i := 0) C dX7_drawsLots_210 rfl rfl ?_
            refine gg_X7_lotsTop (i := 8) C hiX7_drawsLots_X7 rfl dX7_drawsLots_211 ?_
            refine g_aload_n (i := 0) C dX7_drawsLots_214 rfl rfl ?_
            refine gg_X7_lotsUnder (i := 13) C hiX7_drawsLots_X7 rfl dX7_drawsLots_215 ?_
            refine g_lcmp_ge (tgt := 226) C dX7_drawsLots_218 dX7_drawsLots_219 (by decide) rfl rfl (fun c30 => ?_) (fun c30 => ?_)
            · have hf := if_t c30 hf
              refine g_iconst C dX7_drawsLots_226 ?_
              obtain ⟨e1, e2⟩ := some_inv hf
              exact g_zret C hr hlk (by decide) e1 e2 dX7_drawsLots_227
            · have hf := if_f c30 hf
              refine g_iconst C dX7_drawsLots_222 ?_
              refine g_goto (tgt := 227) C dX7_drawsLots_223 (by decide) ?_
              obtain ⟨e1, e2⟩ := some_inv hf
              exact g_zret C hr hlk (by decide) e1 e2 dX7_drawsLots_227
    · have hf := if_f c7 hf
      refine g_iconst C dX7_drawsLots_20 ?_
      obtain ⟨e1, e2⟩ := some_inv hf
      exact g_zret C hr hlk (by decide) e1 e2 dX7_drawsLots_21
/-! X7_waysByLots -/
abbrev rm_X7_waysByLots : Room := { frames := 2, cells := 0, slots := 0, locals := 49 }
theorem hiX7_waysByLots_X4 : ∀ w ∈ u_ws RX4 TX4 9, w ∈ wsX7_waysByLots := fun _ h => (List.mem_cons_of_mem _ (List.mem_append_right _ h))
theorem hiX7_waysByLots_X7 : ∀ w ∈ u_ws RX7 TX7 14, w ∈ wsX7_waysByLots := fun _ h => (List.mem_cons_of_mem _ (List.mem_append_left _ (List.mem_append_right _ h)))
set_option maxHeartbeats 4000000 in
set_option maxRecDepth 100000 in
theorem it_X7_waysByLots_17 (C : Cx p s m args c cX7_waysByLots 4 RX7 wsX7_waysByLots D ca A) (hr : meth.sig.returnType = (some .int)) (hlk : meth.locks = false) {p2 : Int} {o : (Int × Int × Mem) ⊕ (Int × Mem)} (hc : ∀ (x1 x3 : Int) (σ : Mem), o = .inl (x1, x3, σ) → G p l e rm_X7_waysByLots s m args below meth c 4 D ca ad A 0 0 (MQ below (Qi D ca ad A r0 σ0) args s 0 0 A) σ 17 [some (.ref (ad 72)), some (.int (iI x1)), some (.int (iI p2)), some (.int (iI x3))] []) (he : ∀ (y1 : Int) (σ : Mem), o = .inr (y1, σ) → G p l e rm_X7_waysByLots s m args below meth c 4 D ca ad A 0 0 (MQ below (Qi D ca ad A r0 σ0) args s 0 0 A) σ 46 [some (.ref (ad 72)), some (.int (iI y1)), some (.int (iI p2)), none] []) {x1 x3 : Int} {σ : Mem} (hf : f_X7_waysByLots_17 p2 x1 x3 σ = some o) : G p l e rm_X7_waysByLots s m args below meth c 4 D ca ad A 0 0 (MQ below (Qi D ca ad A r0 σ0) args s 0 0 A) σ 17 [some (.ref (ad 72)), some (.int (iI x1)), some (.int (iI p2)), some (.int (iI x3))] [] := by
  unfold f_X7_waysByLots_17 at hf
  refine g_iload_n (i := 3) C dX7_waysByLots_17 rfl rfl ?_
  refine g_aload_n (i := 0) C dX7_waysByLots_18 rfl rfl ?_
  refine gg_X7_market (i := 1) C hiX7_waysByLots_X7 rfl dX7_waysByLots_19 ?_
  refine gg_X4_marks (i := 3) C (by decide) hiX7_waysByLots_X4 rfl dX7_waysByLots_22 ?_
  refine g_icmp_ge (tgt := 46) C dX7_waysByLots_25 (by decide) rfl rfl (fun c2 => ?_) (fun c2 => ?_)
  · have hf := if_t c2 hf
    exact g_mask [true, true, true, false] (he _ _ (Option.some.inj hf).symm)
  · have hf := if_f c2 hf
    refine g_aload_n (i := 0) C dX7_waysByLots_28 rfl rfl ?_
    refine g_iload_n (i := 2) C dX7_waysByLots_29 rfl rfl ?_
    refine g_iload_n (i := 3) C dX7_waysByLots_30 rfl rfl ?_
    obtain ⟨r4, σ3, h5, hf⟩ := ob_inv hf
    refine g_callVi C (c_X7_drawsLots  h5) (cwV 2 C.2.2.2.2.1 gX7_waysByLots_X7_drawsLots rfl rfl rfl (by decide +kernel) ⟨Nat.le_of_ble_eq_true rfl, Nat.le_of_ble_eq_true rfl⟩) ob_X7 rfl rfl rfl rfl (Nat.le_of_ble_eq_true rfl) dX7_waysByLots_31 ⟨Nat.zero_le _, Nat.zero_le _⟩ ?_
    refine g_if_eq (tgt := 40) C dX7_waysByLots_34 (by decide) rfl (fun c6 => ?_) (fun c6 => ?_)
    · have hf := if_t c6 hf
      refine g_iinc C dX7_waysByLots_40 rfl (by decide) rfl ?_
      refine g_goto (tgt := 17) C dX7_waysByLots_43 (by decide) ?_
      exact g_mask [true, true, true, true] (hc _ _ _ (Option.some.inj hf).symm)
    · have hf := if_f c6 hf
      refine g_iinc C dX7_waysByLots_37 rfl (by decide) rfl ?_
      refine g_iinc C dX7_waysByLots_40 rfl (by decide) rfl ?_
      refine g_goto (tgt := 17) C dX7_waysByLots_43 (by decide) ?_
      exact g_mask [true, true, true, true] (hc _ _ _ (Option.some.inj hf).symm)
set_option maxHeartbeats 4000000 in
set_option maxRecDepth 100000 in
theorem w_X7_waysByLots_17 (C : Cx p s m args c cX7_waysByLots 4 RX7 wsX7_waysByLots D ca A) (hr : meth.sig.returnType = (some .int)) (hlk : meth.locks = false) {p2 : Int} {n : Nat} {x1 x3 : Int} {σ : Mem} {b : (Int × Mem)} (h : itr (fun z : Int × Int × Mem => f_X7_waysByLots_17 p2 z.1 z.2.1 z.2.2) n (x1, x3, σ) = some b) (he : ∀ (y1 : Int) (σ : Mem), b = (y1, σ) → G p l e rm_X7_waysByLots s m args below meth c 4 D ca ad A 0 0 (MQ below (Qi D ca ad A r0 σ0) args s 0 0 A) σ 46 [some (.ref (ad 72)), some (.int (iI y1)), some (.int (iI p2)), none] []) : G p l e rm_X7_waysByLots s m args below meth c 4 D ca ad A 0 0 (MQ below (Qi D ca ad A r0 σ0) args s 0 0 A) σ 17 [some (.ref (ad 72)), some (.int (iI x1)), some (.int (iI p2)), some (.int (iI x3))] [] :=
  itr_rule (P := fun z : Int × Int × Mem => G p l e rm_X7_waysByLots s m args below meth c 4 D ca ad A 0 0 (MQ below (Qi D ca ad A r0 σ0) args s 0 0 A) z.2.2 17 [some (.ref (ad 72)), some (.int (iI z.1)), some (.int (iI p2)), some (.int (iI z.2.1))] []) (E := fun b => ∀ (y1 : Int) (σ : Mem), b = (y1, σ) → G p l e rm_X7_waysByLots s m args below meth c 4 D ca ad A 0 0 (MQ below (Qi D ca ad A r0 σ0) args s 0 0 A) σ 46 [some (.ref (ad 72)), some (.int (iI y1)), some (.int (iI p2)), none] []) (fun z o hb hc he => it_X7_waysByLots_17 C hr hlk (fun _ _ _ e => hc _ e) (fun _ _ e => (he _ e) _ _ rfl) hb) n _ _ h he
set_option maxHeartbeats 4000000 in
set_option maxRecDepth 100000 in
theorem it_X7_waysByLots_4 (C : Cx p s m args c cX7_waysByLots 4 RX7 wsX7_waysByLots D ca A) (hr : meth.sig.returnType = (some .int)) (hlk : meth.locks = false) {o : (Int × Int × Mem) ⊕ (Int × Mem)} (hc : ∀ (x1 x2 : Int) (σ : Mem), o = .inl (x1, x2, σ) → G p l e rm_X7_waysByLots s m args below meth c 4 D ca ad A 0 0 (MQ below (Qi D ca ad A r0 σ0) args s 0 0 A) σ 4 [some (.ref (ad 72)), some (.int (iI x1)), some (.int (iI x2)), none] []) (he : ∀ (y1 : Int) (σ : Mem), o = .inr (y1, σ) → G p l e rm_X7_waysByLots s m args below meth c 4 D ca ad A 0 0 (MQ below (Qi D ca ad A r0 σ0) args s 0 0 A) σ 52 [none, some (.int (iI y1)), none, none] []) {x1 x2 : Int} {σ : Mem} (hf : f_X7_waysByLots_4  x1 x2 σ = some o) : G p l e rm_X7_waysByLots s m args below meth c 4 D ca ad A 0 0 (MQ below (Qi D ca ad A r0 σ0) args s 0 0 A) σ 4 [some (.ref (ad 72)), some (.int (iI x1)), some (.int (iI x2)), none] [] := by
  unfold f_X7_waysByLots_4 at hf
  refine g_iload_n (i := 2) C dX7_waysByLots_4 rfl rfl ?_
  refine g_aload_n (i := 0) C dX7_waysByLots_5 rfl rfl ?_
  refine gg_X7_market (i := 1) C hiX7_waysByLots_X7 rfl dX7_waysByLots_6 ?_
  refine gg_X4_sorts (i := 2) C (by decide) hiX7_waysByLots_X4 rfl dX7_waysByLots_9 ?_
  refine g_icmp_ge (tgt := 52) C dX7_waysByLots_12 (by decide) rfl rfl (fun c1 => ?_) (fun c1 => ?_)
  · have hf := if_t c1 hf
    exact g_mask [false, true, false, false] (he _ _ (Option.some.inj hf).symm)
  · have hf := if_f c1 hf
    refine g_iconst C dX7_waysByLots_15 ?_
    refine g_istore_n (i := 3) C dX7_waysByLots_16 rfl (by decide) rfl ?_
    obtain ⟨q7, hl8, hf⟩ := lb_inv hf
    refine g_mask [true, true, true, true] (w_X7_waysByLots_17 C hr hlk hl8 ?_)
    · rintro y9 σ10 rfl
      refine g_iinc C dX7_waysByLots_46 rfl (by decide) rfl ?_
      refine g_goto (tgt := 4) C dX7_waysByLots_49 (by decide) ?_
      exact g_mask [true, true, true, false] (hc _ _ _ (Option.some.inj hf).symm)
set_option maxHeartbeats 4000000 in
set_option maxRecDepth 100000 in
theorem w_X7_waysByLots_4 (C : Cx p s m args c cX7_waysByLots 4 RX7 wsX7_waysByLots D ca A) (hr : meth.sig.returnType = (some .int)) (hlk : meth.locks = false) {n : Nat} {x1 x2 : Int} {σ : Mem} {b : (Int × Mem)} (h : itr (fun z : Int × Int × Mem => f_X7_waysByLots_4  z.1 z.2.1 z.2.2) n (x1, x2, σ) = some b) (he : ∀ (y1 : Int) (σ : Mem), b = (y1, σ) → G p l e rm_X7_waysByLots s m args below meth c 4 D ca ad A 0 0 (MQ below (Qi D ca ad A r0 σ0) args s 0 0 A) σ 52 [none, some (.int (iI y1)), none, none] []) : G p l e rm_X7_waysByLots s m args below meth c 4 D ca ad A 0 0 (MQ below (Qi D ca ad A r0 σ0) args s 0 0 A) σ 4 [some (.ref (ad 72)), some (.int (iI x1)), some (.int (iI x2)), none] [] :=
  itr_rule (P := fun z : Int × Int × Mem => G p l e rm_X7_waysByLots s m args below meth c 4 D ca ad A 0 0 (MQ below (Qi D ca ad A r0 σ0) args s 0 0 A) z.2.2 4 [some (.ref (ad 72)), some (.int (iI z.1)), some (.int (iI z.2.1)), none] []) (E := fun b => ∀ (y1 : Int) (σ : Mem), b = (y1, σ) → G p l e rm_X7_waysByLots s m args below meth c 4 D ca ad A 0 0 (MQ below (Qi D ca ad A r0 σ0) args s 0 0 A) σ 52 [none, some (.int (iI y1)), none, none] []) (fun z o hb hc he => it_X7_waysByLots_4 C hr hlk (fun _ _ _ e => hc _ e) (fun _ _ e => (he _ e) _ _ rfl) hb) n _ _ h he
set_option maxHeartbeats 4000000 in
set_option maxRecDepth 100000 in
theorem c_X7_waysByLots {σ : Mem} (hf : f_X7_waysByLots  σ = some (r0, σ0)) : CTi l D ca ad A yX7_waysByLots wsX7_waysByLots rm_X7_waysByLots [.ref (ad 72)] σ r0 σ0 := by
  refine ct_i (cc := cX7_waysByLots) (own := RX7) (maxL := 4) (ret := (some .int)) (lv0 := [some (.ref (ad 72)), none, none, none]) (by decide) rfl rfl rfl (Nat.le_of_ble_eq_true rfl) ?_
  intro p e s m below meth c C hr hlk hnm
  unfold f_X7_waysByLots at hf
  refine g_iconst C dX7_waysByLots_0 ?_
  refine g_istore_n (i := 1) C dX7_waysByLots_1 rfl (by decide) rfl ?_
  refine g_iconst C dX7_waysByLots_2 ?_
  refine g_istore_n (i := 2) C dX7_waysByLots_3 rfl (by decide) rfl ?_
  obtain ⟨q11, hl12, hf⟩ := lb_inv hf
  refine g_mask [true, true, true, false] (w_X7_waysByLots_4 C hr hlk hl12 ?_)
  · rintro y13 σ14 rfl
    refine g_iload_n (i := 1) C dX7_waysByLots_52 rfl rfl ?_
    obtain ⟨e1, e2⟩ := some_inv hf
    exact g_iret C hr hlk e1 e2 dX7_waysByLots_53
/-! X7_tellsAllApart -/
abbrev rm_X7_tellsAllApart : Room := { frames := 1, cells := 0, slots := 0, locals := 23 }
theorem hiX7_tellsAllApart_X4 : ∀ w ∈ u_ws RX4 TX4 9, w ∈ wsX7_tellsAllApart := fun _ h => (List.mem_cons_of_mem _ (List.mem_append_right _ h))
theorem hiX7_tellsAllApart_X7 : ∀ w ∈ u_ws RX7 TX7 14, w ∈ wsX7_tellsAllApart := fun _ h => (List.mem_cons_of_mem _ (List.mem_append_left _ (List.mem_append_right _ h)))
set_option maxHeartbeats 4000000 in
set_option maxRecDepth 100000 in
theorem c_X7_tellsAllApart {v1 : Int} {σ : Mem} (hf : f_X7_tellsAllApart v1 σ = some (r0, σ0)) : CTi l D ca ad A yX7_tellsAllApart wsX7_tellsAllApart rm_X7_tellsAllApart [.ref (ad 72), .int (iI v1)] σ r0 σ0 := by
  refine ct_i (cc := cX7_tellsAllApart) (own := RX7) (maxL := 2) (ret := (some .boolean)) (lv0 := [some (.ref (ad 72)), some (.int (iI v1))]) (by decide) rfl rfl rfl (Nat.le_of_ble_eq_true rfl) ?_
  intro p e s m below meth c C hr hlk hnm
  unfold f_X7_tellsAllApart at hf
  refine g_aload_n (i := 0) C dX7_tellsAllApart_0 rfl rfl ?_
  refine g_iload_n (i := 1) C dX7_tellsAllApart_1 rfl rfl ?_
  obtain ⟨r2, σ1, h3, hf⟩ := ob_inv hf
  refine g_callVv C (c_X7_lay  h3) (cwV 1 C.2.2.2.2.1 gX7_tellsAllApart_X7_lay rfl rfl rfl (by decide +kernel) ⟨Nat.le_of_ble_eq_true rfl, Nat.le_of_ble_eq_true rfl⟩) ob_X7 rfl rfl rfl rfl (Nat.le_of_ble_eq_true rfl) dX7_tellsAllApart_2 ⟨Nat.zero_le _, Nat.zero_le _⟩ ?_
  refine g_aload_n (i := 0) C dX7_tellsAllApart_5 rfl rfl ?_
  refine gg_X7_made (i := 1) C hiX7_tellsAllApart_X7 rfl dX7_tellsAllApart_6 ?_
  obtain ⟨r5, σ4, h6, hf⟩ := ob_inv hf
  refine g_callSi C (c_J6_bitCount_0f7a4  h6) (va_cwS 1 C.2.2.2.2.1 gX7_tellsAllApart_J6_bitCount_0f7a4 rfl rfl rfl (by decide +kernel) ⟨Nat.le_of_ble_eq_true rfl, Nat.le_of_ble_eq_true rfl⟩) rfl rfl (Nat.le_of_ble_eq_true rfl) dX7_tellsAllApart_9 ⟨Nat.zero_le _, Nat.zero_le _⟩ ?_
  refine g_aload_n (i := 0) C dX7_tellsAllApart_12 rfl rfl ?_
  refine gg_X7_market (i := 2) C hiX7_tellsAllApart_X7 rfl dX7_tellsAllApart_13 ?_
  refine gg_X4_sorts (i := 3) C (by decide) hiX7_tellsAllApart_X4 rfl dX7_tellsAllApart_16 ?_
  refine g_icmp_ne (tgt := 26) C dX7_tellsAllApart_19 (by decide) rfl rfl (fun c7 => ?_) (fun c7 => ?_)
  · have hf := if_f c7 hf
    refine g_iconst C dX7_tellsAllApart_26 ?_
    obtain ⟨e1, e2⟩ := some_inv hf
    exact g_zret C hr hlk (by decide) e1 e2 dX7_tellsAllApart_27
  · have hf := if_t c7 hf
    refine g_iconst C dX7_tellsAllApart_22 ?_
    refine g_goto (tgt := 27) C dX7_tellsAllApart_23 (by decide) ?_
    obtain ⟨e1, e2⟩ := some_inv hf
    exact g_zret C hr hlk (by decide) e1 e2 dX7_tellsAllApart_27
/-! X7_leastLoss -/
abbrev rm_X7_leastLoss : Room := { frames := 2, cells := 0, slots := 0, locals := 49 }
theorem hiX7_leastLoss_X4 : ∀ w ∈ u_ws RX4 TX4 9, w ∈ wsX7_leastLoss := fun _ h => (List.mem_cons_of_mem _ (List.mem_append_right _ h))
theorem hiX7_leastLoss_X7 : ∀ w ∈ u_ws RX7 TX7 14, w ∈ wsX7_leastLoss := fun _ h => (List.mem_cons_of_mem _ (List.mem_append_left _ (List.mem_append_right _ h)))
set_option maxHeartbeats 4000000 in
set_option maxRecDepth 100000 in
theorem it_X7_leastLoss_26 (C : Cx p s m args c cX7_leastLoss 14 RX7 wsX7_leastLoss D ca A) (hr : meth.sig.returnType = (some .int)) (hlk : meth.locks = false) {p6 : Int} {o : (Int × Int × Int × Int × Mem) ⊕ (Int × Int × Int × Mem)} (hc : ∀ (x1 x2 x4 x7 : Int) (σ : Mem), o = .inl (x1, x2, x4, x7, σ) → G p l e rm_X7_leastLoss s m args below meth c 14 D ca ad A 0 0 (MQ below (Qi D ca ad A r0 σ0) args s 0 0 A) σ 26 [some (.ref (ad 72)), some (.int (iI x1)), some (.long (lI x2)), none, some (.long (lI x4)), none, some (.int (iI p6)), some (.int (iI x7)), none, none, none, none, none, none] []) (he : ∀ (y1 y2 y4 : Int) (σ : Mem), o = .inr (y1, y2, y4, σ) → G p l e rm_X7_leastLoss s m args below meth c 14 D ca ad A 0 0 (MQ below (Qi D ca ad A r0 σ0) args s 0 0 A) σ 169 [some (.ref (ad 72)), some (.int (iI y1)), some (.long (lI y2)), none, some (.long (lI y4)), none, some (.int (iI p6)), none, none, none, none, none, none, none] []) {x1 x2 x4 x7 : Int} {σ : Mem} (hf : f_X7_leastLoss_26 p6 x1 x2 x4 x7 σ = some o) : G p l e rm_X7_leastLoss s m args below meth c 14 D ca ad A 0 0 (MQ below (Qi D ca ad A r0 σ0) args s 0 0 A) σ 26 [some (.ref (ad 72)), some (.int (iI x1)), some (.long (lI x2)), none, some (.long (lI x4)), none, some (.int (iI p6)), some (.int (iI x7)), none, none, none, none, none, none] [] := by
  unfold f_X7_leastLoss_26 at hf
  refine g_iload C dX7_leastLoss_26 rfl ?_
  refine g_aload_n (i := 0) C dX7_leastLoss_28 rfl rfl ?_
  refine gg_X7_market (i := 1) C hiX7_leastLoss_X7 rfl dX7_leastLoss_29 ?_
  refine gg_X4_marks (i := 3) C (by decide) hiX7_leastLoss_X4 rfl dX7_leastLoss_32 ?_
  refine g_icmp_gt (tgt := 169) C dX7_leastLoss_35 (by decide) rfl rfl (fun c2 => ?_) (fun c2 => ?_)
  · have hf := if_t c2 hf
    exact g_mask [true, true, true, false, true, false, true, false, false, false, false, false, false, false] (he _ _ _ _ (Option.some.inj hf).symm)
  · have hf := if_f c2 hf
    refine g_iload C dX7_leastLoss_38 rfl ?_
    refine g_aload_n (i := 0) C dX7_leastLoss_40 rfl rfl ?_
    refine gg_X7_market (i := 1) C hiX7_leastLoss_X7 rfl dX7_leastLoss_41 ?_
    refine gg_X4_marks (i := 3) C (by decide) hiX7_leastLoss_X4 rfl dX7_leastLoss_44 ?_
    refine g_icmp_ne (tgt := 54) C dX7_leastLoss_47 (by decide) rfl rfl (fun c3 => ?_) (fun c3 => ?_)
    · have hf := if_f c3 hf
      refine g_iload C dX7_leastLoss_54 rfl ?_
      refine g_istore C dX7_leastLoss_56 (by decide) rfl ?_
      refine g_aload_n (i := 0) C dX7_leastLoss_58 rfl rfl ?_
      refine g_iload C dX7_leastLoss_59 rfl ?_
      obtain ⟨r5, σ4, h6, hf⟩ := ob_inv hf
      refine g_callVl C (c_X7_ownTop  h6) (cwV 1 C.2.2.2.2.1 gX7_leastLoss_X7_ownTop rfl rfl rfl (by decide +kernel) ⟨Nat.le_of_ble_eq_true rfl, Nat.le_of_ble_eq_true rfl⟩) ob_X7 rfl rfl rfl rfl (Nat.le_of_ble_eq_true rfl) dX7_leastLoss_61 ⟨Nat.zero_le _, Nat.zero_le _⟩ ?_
      refine g_aload_n (i := 0) C dX7_leastLoss_64 rfl rfl ?_
      refine g_iload C dX7_leastLoss_65 rfl ?_
      obtain ⟨r8, σ7, h9, hf⟩ := ob_inv hf
      refine g_callVl C (c_X7_underAt  h9) (cwV 1 C.2.2.2.2.1 gX7_leastLoss_X7_underAt rfl rfl rfl (by decide +kernel) ⟨Nat.le_of_ble_eq_true rfl, Nat.le_of_ble_eq_true rfl⟩) ob_X7 rfl rfl rfl rfl (Nat.le_of_ble_eq_true rfl) dX7_leastLoss_67 ⟨Nat.zero_le _, Nat.zero_le _⟩ ?_
      refine g_lmul C dX7_leastLoss_70 ?_
      refine g_aload_n (i := 0) C dX7_leastLoss_71 rfl rfl ?_
      refine g_iload C dX7_leastLoss_72 rfl ?_
      refine g_iload C dX7_leastLoss_74 rfl ?_
      obtain ⟨r11, σ10, h12, hf⟩ := ob_inv hf
      refine g_callVl C (c_X7_topAt  h12) (cwV 2 C.2.2.2.2.1 gX7_leastLoss_X7_topAt rfl rfl rfl (by decide +kernel) ⟨Nat.le_of_ble_eq_true rfl, Nat.le_of_ble_eq_true rfl⟩) ob_X7 rfl rfl rfl rfl (Nat.le_of_ble_eq_true rfl) dX7_leastLoss_76 ⟨Nat.zero_le _, Nat.zero_le _⟩ ?_
      refine g_aload_n (i := 0) C dX7_leastLoss_79 rfl rfl ?_
      refine g_iload C dX7_leastLoss_80 rfl ?_
      obtain ⟨r14, σ13, h15, hf⟩ := ob_inv hf
      refine g_callVl C (c_X7_ownUnder  h15) (cwV 1 C.2.2.2.2.1 gX7_leastLoss_X7_ownUnder rfl rfl rfl (by decide +kernel) ⟨Nat.le_of_ble_eq_true rfl, Nat.le_of_ble_eq_true rfl⟩) ob_X7 rfl rfl rfl rfl (Nat.le_of_ble_eq_true rfl) dX7_leastLoss_82 ⟨Nat.zero_le _, Nat.zero_le _⟩ ?_
      refine g_lmul C dX7_leastLoss_85 ?_
      refine g_lsub C dX7_leastLoss_86 ?_
      refine g_lstore C dX7_leastLoss_87 (by decide) rfl ?_
      refine g_aload_n (i := 0) C dX7_leastLoss_89 rfl rfl ?_
      refine g_iload C dX7_leastLoss_90 rfl ?_
      obtain ⟨r18, σ17, h19, hf⟩ := ob_inv hf
      refine g_callVl C (c_X7_ownUnder  h19) (cwV 1 C.2.2.2.2.1 gX7_leastLoss_X7_ownUnder rfl rfl rfl (by decide +kernel) ⟨Nat.le_of_ble_eq_true rfl, Nat.le_of_ble_eq_true rfl⟩) ob_X7 rfl rfl rfl rfl (Nat.le_of_ble_eq_true rfl) dX7_leastLoss_92 ⟨Nat.zero_le _, Nat.zero_le _⟩ ?_
      refine g_aload_n (i := 0) C dX7_leastLoss_95 rfl rfl ?_
      refine g_iload C dX7_leastLoss_96 rfl ?_
      obtain ⟨r21, σ20, h22, hf⟩ := ob_inv hf
      refine g_callVl C (c_X7_underAt  h22) (cwV 1 C.2.2.2.2.1 gX7_leastLoss_X7_underAt rfl rfl rfl (by decide +kernel) ⟨Nat.le_of_ble_eq_true rfl, Nat.le_of_ble_eq_true rfl⟩) ob_X7 rfl rfl rfl rfl (Nat.le_of_ble_eq_true rfl) dX7_leastLoss_98 ⟨Nat.zero_le _, Nat.zero_le _⟩ ?_
      refine g_lmul C dX7_leastLoss_101 ?_
      refine g_lstore C dX7_leastLoss_102 (by decide) rfl ?_
      refine g_iload_n (i := 1) C dX7_leastLoss_104 rfl rfl ?_
      refine g_bipush C dX7_leastLoss_105 (by decide) ?_
      refine g_icmp_eq (b' := (-4)) (tgt := 123) C dX7_leastLoss_107 (by decide) rfl (by decide) (fun c23 => ?_) (fun c23 => ?_)
      · have hf := if_t c23 hf
        refine g_iconst C dX7_leastLoss_123 ?_
        refine g_goto (tgt := 128) C dX7_leastLoss_124 (by decide) ?_
        refine g_istore C dX7_leastLoss_128 (by decide) rfl ?_
        refine g_iload C dX7_leastLoss_130 rfl ?_
        refine g_aload_n (i := 0) C dX7_leastLoss_132 rfl rfl ?_
        refine gg_X7_place (i := 4) C hiX7_leastLoss_X7 rfl dX7_leastLoss_133 ?_
        refine g_iload C dX7_leastLoss_136 rfl ?_
        obtain ⟨hb24, hf⟩ := if_inv hf
        refine g_iaload (N := 4) C (by decide) dX7_leastLoss_138 rfl hb24 ?_
        refine g_icmp_eq (tgt := 163) C dX7_leastLoss_139 (by decide) rfl rfl (fun c25 => ?_) (fun c25 => ?_)
        · have hf := if_t c25 hf
          refine g_iinc C dX7_leastLoss_163 rfl (by decide) rfl ?_
          refine g_goto (tgt := 26) C dX7_leastLoss_166 (by decide) ?_
          exact g_mask [true, true, true, false, true, false, true, true, false, false, false, false, false, false] (hc _ _ _ _ _ (Option.some.inj hf).symm)
        · have hf := if_f c25 hf
          refine g_iload C dX7_leastLoss_142 rfl ?_
          refine g_if_eq (a' := 1) (tgt := 163) C dX7_leastLoss_144 (by decide) (by decide) (fun c26 => absurd c26 (by decide)) (fun c26 => ?_)
          refine g_bipush C dX7_leastLoss_147 (by decide) ?_
          refine g_iload C dX7_leastLoss_149 rfl ?_
          refine g_imul C dX7_leastLoss_151 ?_
          refine g_iload C dX7_leastLoss_152 rfl ?_
          refine g_iadd C dX7_leastLoss_154 ?_
          refine g_istore_n (i := 1) C dX7_leastLoss_155 rfl (by decide) rfl ?_
          refine g_lload C dX7_leastLoss_156 rfl ?_
          refine g_lstore_n (i := 2) C dX7_leastLoss_158 rfl (by decide) rfl ?_
          refine g_lload C dX7_leastLoss_159 rfl ?_
          refine g_lstore C dX7_leastLoss_161 (by decide) rfl ?_
          refine g_iinc C dX7_leastLoss_163 rfl (by decide) rfl ?_
          refine g_goto (tgt := 26) C dX7_leastLoss_166 (by decide) ?_
          exact g_mask [true, true, true, false, true, false, true, true, false, false, false, false, false, false] (hc _ _ _ _ _ (Option.some.inj hf).symm)
      · have hf := if_f c23 hf
        refine g_lload C dX7_leastLoss_110 rfl ?_
        refine g_lload C dX7_leastLoss_112 rfl ?_
        refine g_lmul C dX7_leastLoss_114 ?_
        refine g_lload_n (i := 2) C dX7_leastLoss_115 rfl rfl ?_
        refine g_lload C dX7_leastLoss_116 rfl ?_
        refine g_lmul C dX7_leastLoss_118 ?_
        refine g_lcmp_ge (tgt := 127) C dX7_leastLoss_119 dX7_leastLoss_120 (by decide) rfl rfl (fun c28 => ?_) (fun c28 => ?_)
        · have hf := if_t c28 hf
          refine g_iconst C dX7_leastLoss_127 ?_
          refine g_istore C dX7_leastLoss_128 (by decide) rfl ?_
          refine g_iload C dX7_leastLoss_130 rfl ?_
          refine g_aload_n (i := 0) C dX7_leastLoss_132 rfl rfl ?_
          refine gg_X7_place (i := 4) C hiX7_leastLoss_X7 rfl dX7_leastLoss_133 ?_
          refine g_iload C dX7_leastLoss_136 rfl ?_
          obtain ⟨hb29, hf⟩ := if_inv hf
          refine g_iaload (N := 4) C (by decide) dX7_leastLoss_138 rfl hb29 ?_
          refine g_icmp_eq (tgt := 163) C dX7_leastLoss_139 (by decide) rfl rfl (fun c30 => ?_) (fun c30 => ?_)
          · have hf := if_t c30 hf
            refine g_iinc C dX7_leastLoss_163 rfl (by decide) rfl ?_
            refine g_goto (tgt := 26) C dX7_leastLoss_166 (by decide) ?_
            exact g_mask [true, true, true, false, true, false, true, true, false, false, false, false, false, false] (hc _ _ _ _ _ (Option.some.inj hf).symm)
          · have hf := if_f c30 hf
            refine g_iload C dX7_leastLoss_142 rfl ?_
            refine g_if_eq (a' := 0) (tgt := 163) C dX7_leastLoss_144 (by decide) (by decide) (fun c31 => ?_) (fun c31 => absurd c31 (by decide))
            refine g_iinc C dX7_leastLoss_163 rfl (by decide) rfl ?_
            refine g_goto (tgt := 26) C dX7_leastLoss_166 (by decide) ?_
            exact g_mask [true, true, true, false, true, false, true, true, false, false, false, false, false, false] (hc _ _ _ _ _ (Option.some.inj hf).symm)
        · have hf := if_f c28 hf
          refine g_iconst C dX7_leastLoss_123 ?_
          refine g_goto (tgt := 128) C dX7_leastLoss_124 (by decide) ?_
          refine g_istore C dX7_leastLoss_128 (by decide) rfl ?_
          refine g_iload C dX7_leastLoss_130 rfl ?_
          refine g_aload_n (i := 0) C dX7_leastLoss_132 rfl rfl ?_
          refine gg_X7_place (i := 4) C hiX7_leastLoss_X7 rfl dX7_leastLoss_133 ?_
          refine g_iload C dX7_leastLoss_136 rfl ?_
          obtain ⟨hb32, hf⟩ := if_inv hf
          refine g_iaload (N := 4) C (by decide) dX7_leastLoss_138 rfl hb32 ?_
          refine g_icmp_eq (tgt := 163) C dX7_leastLoss_139 (by decide) rfl rfl (fun c33 => ?_) (fun c33 => ?_)
          · have hf := if_t c33 hf
            refine g_iinc C dX7_leastLoss_163 rfl (by decide) rfl ?_
            refine g_goto (tgt := 26) C dX7_leastLoss_166 (by decide) ?_
            exact g_mask [true, true, true, false, true, false, true, true, false, false, false, false, false, false] (hc _ _ _ _ _ (Option.some.inj hf).symm)
          · have hf := if_f c33 hf
            refine g_iload C dX7_leastLoss_142 rfl ?_
            refine g_if_eq (a' := 1) (tgt := 163) C dX7_leastLoss_144 (by decide) (by decide) (fun c34 => absurd c34 (by decide)) (fun c34 => ?_)
            refine g_bipush C dX7_leastLoss_147 (by decide) ?_
            refine g_iload C dX7_leastLoss_149 rfl ?_
            refine g_imul C dX7_leastLoss_151 ?_
            refine g_iload C dX7_leastLoss_152 rfl ?_
            refine g_iadd C dX7_leastLoss_154 ?_
            refine g_istore_n (i := 1) C dX7_leastLoss_155 rfl (by decide) rfl ?_
            refine g_lload C dX7_leastLoss_156 rfl ?_
            refine g_lstore_n (i := 2) C dX7_leastLoss_158 rfl (by decide) rfl ?_
            refine g_lload C dX7_leastLoss_159 rfl ?_
            refine g_lstore C dX7_leastLoss_161 (by decide) rfl ?_
            refine g_iinc C dX7_leastLoss_163 rfl (by decide) rfl ?_
            refine g_goto (tgt := 26) C dX7_leastLoss_166 (by decide) ?_
            exact g_mask [true, true, true, false, true, false, true, true, false, false, false, false, false, false] (hc _ _ _ _ _ (Option.some.inj hf).symm)
    · have hf := if_t c3 hf
      refine g_iconst C dX7_leastLoss_50 ?_
      refine g_goto (tgt := 56) C dX7_leastLoss_51 (by decide) ?_
      refine g_istore C dX7_leastLoss_56 (by decide) rfl ?_
      refine g_aload_n (i := 0) C dX7_leastLoss_58 rfl rfl ?_
      refine g_iload C dX7_leastLoss_59 rfl ?_
      obtain ⟨r37, σ36, h38, hf⟩ := ob_inv hf
      refine g_callVl C (c_X7_ownTop  h38) (cwV 1 C.2.2.2.2.1 gX7_leastLoss_X7_ownTop rfl rfl rfl (by decide +kernel) ⟨Nat.le_of_ble_eq_true rfl, Nat.le_of_ble_eq_true rfl⟩) ob_X7 rfl rfl rfl rfl (Nat.le_of_ble_eq_true rfl) dX7_leastLoss_61 ⟨Nat.zero_le _, Nat.zero_le _⟩ ?_
      refine g_aload_n (i := 0) C dX7_leastLoss_64 rfl rfl ?_
      refine g_iload C dX7_leastLoss_65 rfl ?_
      obtain ⟨r40, σ39, h41, hf⟩ := ob_inv hf
      refine g_callVl C (c_X7_underAt  h41) (cwV 1 C.2.2.2.2.1 gX7_leastLoss_X7_underAt rfl rfl rfl (by decide +kernel) ⟨Nat.le_of_ble_eq_true rfl, Nat.le_of_ble_eq_true rfl⟩) ob_X7 rfl rfl rfl rfl (Nat.le_of_ble_eq_true rfl) dX7_leastLoss_67 ⟨Nat.zero_le _, Nat.zero_le _⟩ ?_
      refine g_lmul C dX7_leastLoss_70 ?_
      refine g_aload_n (i := 0) C dX7_leastLoss_71 rfl rfl ?_
      refine g_iload C dX7_leastLoss_72 rfl ?_
      refine g_iload C dX7_leastLoss_74 rfl ?_
      obtain ⟨r43, σ42, h44, hf⟩ := ob_inv hf
      refine g_callVl C (c_X7_topAt  h44) (cwV 2 C.2.2.2.2.1 gX7_leastLoss_X7_topAt rfl rfl rfl (by decide +kernel) ⟨Nat.le_of_ble_eq_true rfl, Nat.le_of_ble_eq_true rfl⟩) ob_X7 rfl rfl rfl rfl (Nat.le_of_ble_eq_true rfl) dX7_leastLoss_76 ⟨Nat.zero_le _, Nat.zero_le _⟩ ?_
      refine g_aload_n (i := 0) C dX7_leastLoss_79 rfl rfl ?_
      refine g_iload C dX7_leastLoss_80 rfl ?_
      obtain ⟨r46, σ45, h47, hf⟩ := ob_inv hf
      refine g_callVl C (c_X7_ownUnder  h47) (cwV 1 C.2.2.2.2.1 gX7_leastLoss_X7_ownUnder rfl rfl rfl (by decide +kernel) ⟨Nat.le_of_ble_eq_true rfl, Nat.le_of_ble_eq_true rfl⟩) ob_X7 rfl rfl rfl rfl (Nat.le_of_ble_eq_true rfl) dX7_leastLoss_82 ⟨Nat.zero_le _, Nat.zero_le _⟩ ?_
      refine g_lmul C dX7_leastLoss_85 ?_
      refine g_lsub C dX7_leastLoss_86 ?_
      refine g_lstore C dX7_leastLoss_87 (by decide) rfl ?_
      refine g_aload_n (i := 0) C dX7_leastLoss_89 rfl rfl ?_
      refine g_iload C dX7_leastLoss_90 rfl ?_
      obtain ⟨r50, σ49, h51, hf⟩ := ob_inv hf
      refine g_callVl C (c_X7_ownUnder  h51) (cwV 1 C.2.2.2.2.1 gX7_leastLoss_X7_ownUnder rfl rfl rfl (by decide +kernel) ⟨Nat.le_of_ble_eq_true rfl, Nat.le_of_ble_eq_true rfl⟩) ob_X7 rfl rfl rfl rfl (Nat.le_of_ble_eq_true rfl) dX7_leastLoss_92 ⟨Nat.zero_le _, Nat.zero_le _⟩ ?_
      refine g_aload_n (i := 0) C dX7_leastLoss_95 rfl rfl ?_
      refine g_iload C dX7_leastLoss_96 rfl ?_
      obtain ⟨r53, σ52, h54, hf⟩ := ob_inv hf
      refine g_callVl C (c_X7_underAt  h54) (cwV 1 C.2.2.2.2.1 gX7_leastLoss_X7_underAt rfl rfl rfl (by decide +kernel) ⟨Nat.le_of_ble_eq_true rfl, Nat.le_of_ble_eq_true rfl⟩) ob_X7 rfl rfl rfl rfl (Nat.le_of_ble_eq_true rfl) dX7_leastLoss_98 ⟨Nat.zero_le _, Nat.zero_le _⟩ ?_
      refine g_lmul C dX7_leastLoss_101 ?_
      refine g_lstore C dX7_leastLoss_102 (by decide) rfl ?_
      refine g_iload_n (i := 1) C dX7_leastLoss_104 rfl rfl ?_
      refine g_bipush C dX7_leastLoss_105 (by decide) ?_
      refine g_icmp_eq (b' := (-4)) (tgt := 123) C dX7_leastLoss_107 (by decide) rfl (by decide) (fun c55 => ?_) (fun c55 => ?_)
      · have hf := if_t c55 hf
        refine g_iconst C dX7_leastLoss_123 ?_
        refine g_goto (tgt := 128) C dX7_leastLoss_124 (by decide) ?_
        refine g_istore C dX7_leastLoss_128 (by decide) rfl ?_
        refine g_iload C dX7_leastLoss_130 rfl ?_
        refine g_aload_n (i := 0) C dX7_leastLoss_132 rfl rfl ?_
        refine gg_X7_place (i := 4) C hiX7_leastLoss_X7 rfl dX7_leastLoss_133 ?_
        refine g_iload C dX7_leastLoss_136 rfl ?_
        obtain ⟨hb56, hf⟩ := if_inv hf
        refine g_iaload (N := 4) C (by decide) dX7_leastLoss_138 rfl hb56 ?_
        refine g_icmp_eq (a' := 4) (tgt := 163) C dX7_leastLoss_139 (by decide) (by decide) rfl (fun c57 => ?_) (fun c57 => ?_)
        · have hf := if_t c57 hf
          refine g_iinc C dX7_leastLoss_163 rfl (by decide) rfl ?_
          refine g_goto (tgt := 26) C dX7_leastLoss_166 (by decide) ?_
          exact g_mask [true, true, true, false, true, false, true, true, false, false, false, false, false, false] (hc _ _ _ _ _ (Option.some.inj hf).symm)
        · have hf := if_f c57 hf
          refine g_iload C dX7_leastLoss_142 rfl ?_
          refine g_if_eq (a' := 1) (tgt := 163) C dX7_leastLoss_144 (by decide) (by decide) (fun c58 => absurd c58 (by decide)) (fun c58 => ?_)
          refine g_bipush C dX7_leastLoss_147 (by decide) ?_
          refine g_iload C dX7_leastLoss_149 rfl ?_
          refine g_imul C dX7_leastLoss_151 ?_
          refine g_iload C dX7_leastLoss_152 rfl ?_
          refine g_iadd C dX7_leastLoss_154 ?_
          refine g_istore_n (i := 1) C dX7_leastLoss_155 rfl (by decide) rfl ?_
          refine g_lload C dX7_leastLoss_156 rfl ?_
          refine g_lstore_n (i := 2) C dX7_leastLoss_158 rfl (by decide) rfl ?_
          refine g_lload C dX7_leastLoss_159 rfl ?_
          refine g_lstore C dX7_leastLoss_161 (by decide) rfl ?_
          refine g_iinc C dX7_leastLoss_163 rfl (by decide) rfl ?_
          refine g_goto (tgt := 26) C dX7_leastLoss_166 (by decide) ?_
          exact g_mask [true, true, true, false, true, false, true, true, false, false, false, false, false, false] (hc _ _ _ _ _ (Option.some.inj hf).symm)
      · have hf := if_f c55 hf
        refine g_lload C dX7_leastLoss_110 rfl ?_
        refine g_lload C dX7_leastLoss_112 rfl ?_
        refine g_lmul C dX7_leastLoss_114 ?_
        refine g_lload_n (i := 2) C dX7_leastLoss_115 rfl rfl ?_
        refine g_lload C dX7_leastLoss_116 rfl ?_
        refine g_lmul C dX7_leastLoss_118 ?_
        refine g_lcmp_ge (tgt := 127) C dX7_leastLoss_119 dX7_leastLoss_120 (by decide) rfl rfl (fun c60 => ?_) (fun c60 => ?_)
        · have hf := if_t c60 hf
          refine g_iconst C dX7_leastLoss_127 ?_
          refine g_istore C dX7_leastLoss_128 (by decide) rfl ?_
          refine g_iload C dX7_leastLoss_130 rfl ?_
          refine g_aload_n (i := 0) C dX7_leastLoss_132 rfl rfl ?_
          refine gg_X7_place (i := 4) C hiX7_leastLoss_X7 rfl dX7_leastLoss_133 ?_
          refine g_iload C dX7_leastLoss_136 rfl ?_
          obtain ⟨hb61, hf⟩ := if_inv hf
          refine g_iaload (N := 4) C (by decide) dX7_leastLoss_138 rfl hb61 ?_
          refine g_icmp_eq (a' := 4) (tgt := 163) C dX7_leastLoss_139 (by decide) (by decide) rfl (fun c62 => ?_) (fun c62 => ?_)
          · have hf := if_t c62 hf
            refine g_iinc C dX7_leastLoss_163 rfl (by decide) rfl ?_
            refine g_goto (tgt := 26) C dX7_leastLoss_166 (by decide) ?_
            exact g_mask [true, true, true, false, true, false, true, true, false, false, false, false, false, false] (hc _ _ _ _ _ (Option.some.inj hf).symm)
          · have hf := if_f c62 hf
            refine g_iload C dX7_leastLoss_142 rfl ?_
            refine g_if_eq (a' := 0) (tgt := 163) C dX7_leastLoss_144 (by decide) (by decide) (fun c63 => ?_) (fun c63 => absurd c63 (by decide))
            refine g_iinc C dX7_leastLoss_163 rfl (by decide) rfl ?_
            refine g_goto (tgt := 26) C dX7_leastLoss_166 (by decide) ?_
            exact g_mask [true, true, true, false, true, false, true, true, false, false, false, false, false, false] (hc _ _ _ _ _ (Option.some.inj hf).symm)
        · have hf := if_f c60 hf
          refine g_iconst C dX7_leastLoss_123 ?_
          refine g_goto (tgt := 128) C dX7_leastLoss_124 (by decide) ?_
          refine g_istore C dX7_leastLoss_128 (by decide) rfl ?_
          refine g_iload C dX7_leastLoss_130 rfl ?_
          refine g_aload_n (i := 0) C dX7_leastLoss_132 rfl rfl ?_
          refine gg_X7_place (i := 4) C hiX7_leastLoss_X7 rfl dX7_leastLoss_133 ?_
          refine g_iload C dX7_leastLoss_136 rfl ?_
          obtain ⟨hb64, hf⟩ := if_inv hf
          refine g_iaload (N := 4) C (by decide) dX7_leastLoss_138 rfl hb64 ?_
          refine g_icmp_eq (a' := 4) (tgt := 163) C dX7_leastLoss_139 (by decide) (by decide) rfl (fun c65 => ?_) (fun c65 => ?_)
          · have hf := if_t c65 hf
            refine g_iinc C dX7_leastLoss_163 rfl (by decide) rfl ?_
            refine g_goto (tgt := 26) C dX7_leastLoss_166 (by decide) ?_
            exact g_mask [true, true, true, false, true, false, true, true, false, false, false, false, false, false] (hc _ _ _ _ _ (Option.some.inj hf).symm)
          · have hf := if_f c65 hf
            refine g_iload C dX7_leastLoss_142 rfl ?_
            refine g_if_eq (a' := 1) (tgt := 163) C dX7_leastLoss_144 (by decide) (by decide) (fun c66 => absurd c66 (by decide)) (fun c66 => ?_)
            refine g_bipush C dX7_leastLoss_147 (by decide) ?_
            refine g_iload C dX7_leastLoss_149 rfl ?_
            refine g_imul C dX7_leastLoss_151 ?_
            refine g_iload C dX7_leastLoss_152 rfl ?_
            refine g_iadd C dX7_leastLoss_154 ?_
            refine g_istore_n (i := 1) C dX7_leastLoss_155 rfl (by decide) rfl ?_
            refine g_lload C dX7_leastLoss_156 rfl ?_
            refine g_lstore_n (i := 2) C dX7_leastLoss_158 rfl (by decide) rfl ?_
            refine g_lload C dX7_leastLoss_159 rfl ?_
            refine g_lstore C dX7_leastLoss_161 (by decide) rfl ?_
            refine g_iinc C dX7_leastLoss_163 rfl (by decide) rfl ?_
            refine g_goto (tgt := 26) C dX7_leastLoss_166 (by decide) ?_
            exact g_mask [true, true, true, false, true, false, true, true, false, false, false, false, false, false] (hc _ _ _ _ _ (Option.some.inj hf).symm)
set_option maxHeartbeats 4000000 in
set_option maxRecDepth 100000 in
theorem w_X7_leastLoss_26 (C : Cx p s m args c cX7_leastLoss 14 RX7 wsX7_leastLoss D ca A) (hr : meth.sig.returnType = (some .int)) (hlk : meth.locks = false) {p6 : Int} {n : Nat} {x1 x2 x4 x7 : Int} {σ : Mem} {b : (Int × Int × Int × Mem)} (h : itr (fun z : Int × Int × Int × Int × Mem => f_X7_leastLoss_26 p6 z.1 z.2.1 z.2.2.1 z.2.2.2.1 z.2.2.2.2) n (x1, x2, x4, x7, σ) = some b) (he : ∀ (y1 y2 y4 : Int) (σ : Mem), b = (y1, y2, y4, σ) → G p l e rm_X7_leastLoss s m args below meth c 14 D ca ad A 0 0 (MQ below (Qi D ca ad A r0 σ0) args s 0 0 A) σ 169 [some (.ref (ad 72)), some (.int (iI y1)), some (.long (lI y2)), none, some (.long (lI y4)), none, some (.int (iI p6)), none, none, none, none, none, none, none] []) : G p l e rm_X7_leastLoss s m args below meth c 14 D ca ad A 0 0 (MQ below (Qi D ca ad A r0 σ0) args s 0 0 A) σ 26 [some (.ref (ad 72)), some (.int (iI x1)), some (.long (lI x2)), none, some (.long (lI x4)), none, some (.int (iI p6)), some (.int (iI x7)), none, none, none, none, none, none] [] :=
  itr_rule (P := fun z : Int × Int × Int × Int × Mem => G p l e rm_X7_leastLoss s m args below meth c 14 D ca ad A 0 0 (MQ below (Qi D ca ad A r0 σ0) args s 0 0 A) z.2.2.2.2 26 [some (.ref (ad 72)), some (.int (iI z.1)), some (.long (lI z.2.1)), none, some (.long (lI z.2.2.1)), none, some (.int (iI p6)), some (.int (iI z.2.2.2.1)), none, none, none, none, none, none] []) (E := fun b => ∀ (y1 y2 y4 : Int) (σ : Mem), b = (y1, y2, y4, σ) → G p l e rm_X7_leastLoss s m args below meth c 14 D ca ad A 0 0 (MQ below (Qi D ca ad A r0 σ0) args s 0 0 A) σ 169 [some (.ref (ad 72)), some (.int (iI y1)), some (.long (lI y2)), none, some (.long (lI y4)), none, some (.int (iI p6)), none, none, none, none, none, none, none] []) (fun z o hb hc he => it_X7_leastLoss_26 C hr hlk (fun _ _ _ _ _ e => hc _ e) (fun _ _ _ _ e => (he _ e) _ _ _ _ rfl) hb) n _ _ h he
set_option maxHeartbeats 4000000 in
set_option maxRecDepth 100000 in
theorem it_X7_leastLoss_11 (C : Cx p s m args c cX7_leastLoss 14 RX7 wsX7_leastLoss D ca A) (hr : meth.sig.returnType = (some .int)) (hlk : meth.locks = false) {o : (Int × Int × Int × Int × Mem) ⊕ (Int × Mem)} (hc : ∀ (x1 x2 x4 x6 : Int) (σ : Mem), o = .inl (x1, x2, x4, x6, σ) → G p l e rm_X7_leastLoss s m args below meth c 14 D ca ad A 0 0 (MQ below (Qi D ca ad A r0 σ0) args s 0 0 A) σ 11 [some (.ref (ad 72)), some (.int (iI x1)), some (.long (lI x2)), none, some (.long (lI x4)), none, some (.int (iI x6)), none, none, none, none, none, none, none] []) (he : ∀ (y1 : Int) (σ : Mem), o = .inr (y1, σ) → G p l e rm_X7_leastLoss s m args below meth c 14 D ca ad A 0 0 (MQ below (Qi D ca ad A r0 σ0) args s 0 0 A) σ 175 [none, some (.int (iI y1)), none, none, none, none, none, none, none, none, none, none, none, none] []) {x1 x2 x4 x6 : Int} {σ : Mem} (hf : f_X7_leastLoss_11  x1 x2 x4 x6 σ = some o) : G p l e rm_X7_leastLoss s m args below meth c 14 D ca ad A 0 0 (MQ below (Qi D ca ad A r0 σ0) args s 0 0 A) σ 11 [some (.ref (ad 72)), some (.int (iI x1)), some (.long (lI x2)), none, some (.long (lI x4)), none, some (.int (iI x6)), none, none, none, none, none, none, none] [] := by
  unfold f_X7_leastLoss_11 at hf
  refine g_iload C dX7_leastLoss_11 rfl ?_
  refine g_aload_n (i := 0) C dX7_leastLoss_13 rfl rfl ?_
  refine gg_X7_market (i := 1) C hiX7_leastLoss_X7 rfl dX7_leastLoss_14 ?_
  refine gg_X4_sorts (i := 2) C (by decide) hiX7_leastLoss_X4 rfl dX7_leastLoss_17 ?_
  refine g_icmp_ge (tgt := 175) C dX7_leastLoss_20 (by decide) rfl rfl (fun c1 => ?_) (fun c1 => ?_)
  · have hf := if_t c1 hf
    exact g_mask [false, true, false, false, false, false, false, false, false, false, false, false, false, false] (he _ _ (Option.some.inj hf).symm)
  · have hf := if_f c1 hf
    refine g_iconst C dX7_leastLoss_23 ?_
    refine g_istore C dX7_leastLoss_24 (by decide) rfl ?_
    obtain ⟨q68, hl69, hf⟩ := lb_inv hf
    refine g_mask [true, true, true, false, true, false, true, true, false, false, false, false, false, false] (w_X7_leastLoss_26 C hr hlk hl69 ?_)
    · rintro y70 y71 y72 σ73 rfl
      refine g_iinc C dX7_leastLoss_169 rfl (by decide) rfl ?_
      refine g_goto (tgt := 11) C dX7_leastLoss_172 (by decide) ?_
      exact g_mask [true, true, true, false, true, false, true, false, false, false, false, false, false, false] (hc _ _ _ _ _ (Option.some.inj hf).symm)
set_option maxHeartbeats 4000000 in
set_option maxRecDepth 100000 in
theorem w_X7_leastLoss_11 (C : Cx p s m args c cX7_leastLoss 14 RX7 wsX7_leastLoss D ca A) (hr : meth.sig.returnType = (some .int)) (hlk : meth.locks = false) {n : Nat} {x1 x2 x4 x6 : Int} {σ : Mem} {b : (Int × Mem)} (h : itr (fun z : Int × Int × Int × Int × Mem => f_X7_leastLoss_11  z.1 z.2.1 z.2.2.1 z.2.2.2.1 z.2.2.2.2) n (x1, x2, x4, x6, σ) = some b) (he : ∀ (y1 : Int) (σ : Mem), b = (y1, σ) → G p l e rm_X7_leastLoss s m args below meth c 14 D ca ad A 0 0 (MQ below (Qi D ca ad A r0 σ0) args s 0 0 A) σ 175 [none, some (.int (iI y1)), none, none, none, none, none, none, none, none, none, none, none, none] []) : G p l e rm_X7_leastLoss s m args below meth c 14 D ca ad A 0 0 (MQ below (Qi D ca ad A r0 σ0) args s 0 0 A) σ 11 [some (.ref (ad 72)), some (.int (iI x1)), some (.long (lI x2)), none, some (.long (lI x4)), none, some (.int (iI x6)), none, none, none, none, none, none, none] [] :=
  itr_rule (P := fun z : Int × Int × Int × Int × Mem => G p l e rm_X7_leastLoss s m args below meth c 14 D ca ad A 0 0 (MQ below (Qi D ca ad A r0 σ0) args s 0 0 A) z.2.2.2.2 11 [some (.ref (ad 72)), some (.int (iI z.1)), some (.long (lI z.2.1)), none, some (.long (lI z.2.2.1)), none, some (.int (iI z.2.2.2.1)), none, none, none, none, none, none, none] []) (E := fun b => ∀ (y1 : Int) (σ : Mem), b = (y1, σ) → G p l e rm_X7_leastLoss s m args below meth c 14 D ca ad A 0 0 (MQ below (Qi D ca ad A r0 σ0) args s 0 0 A) σ 175 [none, some (.int (iI y1)), none, none, none, none, none, none, none, none, none, none, none, none] []) (fun z o hb hc he => it_X7_leastLoss_11 C hr hlk (fun _ _ _ _ _ e => hc _ e) (fun _ _ e => (he _ e) _ _ rfl) hb) n _ _ h he
set_option maxHeartbeats 4000000 in
set_option maxRecDepth 100000 in
theorem c_X7_leastLoss {σ : Mem} (hf : f_X7_leastLoss  σ = some (r0, σ0)) : CTi l D ca ad A yX7_leastLoss wsX7_leastLoss rm_X7_leastLoss [.ref (ad 72)] σ r0 σ0 := by
  refine ct_i (cc := cX7_leastLoss) (own := RX7) (maxL := 14) (ret := (some .int)) (lv0 := [some (.ref (ad 72)), none, none, none, none, none, none, none, none, none, none, none, none, none]) (by decide) rfl rfl rfl (Nat.le_of_ble_eq_true rfl) ?_
  intro p e s m below meth c C hr hlk hnm
  unfold f_X7_leastLoss at hf
  refine g_bipush C dX7_leastLoss_0 (by decide) ?_
  refine g_istore_n (i := 1) C dX7_leastLoss_2 rfl (by decide) rfl ?_
  refine g_lconst (z := 0) C dX7_leastLoss_3 (by decide) ?_
  refine g_lstore_n (i := 2) C dX7_leastLoss_4 rfl (by decide) rfl ?_
  refine g_lconst (z := 1) C dX7_leastLoss_5 (by decide) ?_
  refine g_lstore C dX7_leastLoss_6 (by decide) rfl ?_
  refine g_iconst C dX7_leastLoss_8 ?_
  refine g_istore C dX7_leastLoss_9 (by decide) rfl ?_
  obtain ⟨q74, hl75, hf⟩ := lb_inv hf
  refine g_mask [true, true, true, false, true, false, true, false, false, false, false, false, false, false] (w_X7_leastLoss_11 C hr hlk hl75 ?_)
  · rintro y76 σ77 rfl
    refine g_iload_n (i := 1) C dX7_leastLoss_175 rfl rfl ?_
    obtain ⟨e1, e2⟩ := some_inv hf
    exact g_iret C hr hlk e1 e2 dX7_leastLoss_176
/-! X7_wasted -/
abbrev rm_X7_wasted : Room := { frames := 0, cells := 0, slots := 0, locals := 0 }
theorem hiX7_wasted_X4 : ∀ w ∈ u_ws RX4 TX4 9, w ∈ wsX7_wasted := fun _ h => (List.mem_cons_of_mem _ (List.mem_append_right _ h))
theorem hiX7_wasted_X7 : ∀ w ∈ u_ws RX7 TX7 14, w ∈ wsX7_wasted := fun _ h => (List.mem_cons_of_mem _ (List.mem_append_left _ (List.mem_append_right _ h)))
set_option maxHeartbeats 4000000 in
set_option maxRecDepth 100000 in
theorem it_X7_wasted_4 (C : Cx p s m args c cX7_wasted 3 RX7 wsX7_wasted D ca A) (hr : meth.sig.returnType = (some .int)) (hlk : meth.locks = false) {o : (Int × Int × Mem) ⊕ (Int × Mem)} (hc : ∀ (x1 x2 : Int) (σ : Mem), o = .inl (x1, x2, σ) → G p l e rm_X7_wasted s m args below meth c 3 D ca ad A 0 0 (MQ below (Qi D ca ad A r0 σ0) args s 0 0 A) σ 4 [some (.ref (ad 72)), some (.int (iI x1)), some (.int (iI x2))] []) (he : ∀ (y1 : Int) (σ : Mem), o = .inr (y1, σ) → G p l e rm_X7_wasted s m args below meth c 3 D ca ad A 0 0 (MQ below (Qi D ca ad A r0 σ0) args s 0 0 A) σ 60 [none, some (.int (iI y1)), none] []) {x1 x2 : Int} {σ : Mem} (hf : f_X7_wasted_4  x1 x2 σ = some o) : G p l e rm_X7_wasted s m args below meth c 3 D ca ad A 0 0 (MQ below (Qi D ca ad A r0 σ0) args s 0 0 A) σ 4 [some (.ref (ad 72)), some (.int (iI x1)), some (.int (iI x2))] [] := by
  unfold f_X7_wasted_4 at hf
  refine g_iload_n (i := 2) C dX7_wasted_4 rfl rfl ?_
  refine g_aload_n (i := 0) C dX7_wasted_5 rfl rfl ?_
  refine gg_X7_market (i := 1) C hiX7_wasted_X7 rfl dX7_wasted_6 ?_
  refine gg_X4_sorts (i := 2) C (by decide) hiX7_wasted_X4 rfl dX7_wasted_9 ?_
  refine g_icmp_ge (tgt := 60) C dX7_wasted_12 (by decide) rfl rfl (fun c1 => ?_) (fun c1 => ?_)
  · have hf := if_t c1 hf
    exact g_mask [false, true, false] (he _ _ (Option.some.inj hf).symm)
  · have hf := if_f c1 hf
    refine g_aload_n (i := 0) C dX7_wasted_15 rfl rfl ?_
    refine gg_X7_place (i := 3) C hiX7_wasted_X7 rfl dX7_wasted_16 ?_
    refine g_iload_n (i := 2) C dX7_wasted_19 rfl rfl ?_
    obtain ⟨hb2, hf⟩ := if_inv hf
    refine g_iaload (N := 4) C (by decide) dX7_wasted_20 rfl hb2 ?_
    refine g_iconst C dX7_wasted_21 ?_
    refine g_icmp_eq (b' := 4) (tgt := 54) C dX7_wasted_22 (by decide) rfl (by decide) (fun c3 => ?_) (fun c3 => ?_)
    · have hf := if_t c3 hf
      refine g_iinc C dX7_wasted_54 rfl (by decide) rfl ?_
      refine g_goto (tgt := 4) C dX7_wasted_57 (by decide) ?_
      exact g_mask [true, true, true] (hc _ _ _ (Option.some.inj hf).symm)
    · have hf := if_f c3 hf
      refine g_iload_n (i := 1) C dX7_wasted_25 rfl rfl ?_
      refine g_aload_n (i := 0) C dX7_wasted_26 rfl rfl ?_
      refine gg_X7_market (i := 1) C hiX7_wasted_X7 rfl dX7_wasted_27 ?_
      refine gg_X4_chance (i := 4) (b := 11)  C (by decide) (by decide) hiX7_wasted_X4 rfl dX7_wasted_30 ?_
      refine g_iload_n (i := 2) C dX7_wasted_33 rfl rfl ?_
      refine g_iaload (N := 4) C (by decide) dX7_wasted_34 rfl hb2 ?_
      refine g_aload_n (i := 0) C dX7_wasted_35 rfl rfl ?_
      refine gg_X7_market (i := 1) C hiX7_wasted_X7 rfl dX7_wasted_36 ?_
      refine gg_X4_cost (i := 5) (b := 16)  C (by decide) (by decide) hiX7_wasted_X4 rfl dX7_wasted_39 ?_
      refine g_aload_n (i := 0) C dX7_wasted_42 rfl rfl ?_
      refine gg_X7_place (i := 3) C hiX7_wasted_X7 rfl dX7_wasted_43 ?_
      refine g_iload_n (i := 2) C dX7_wasted_46 rfl rfl ?_
      refine g_iaload (N := 4) C (by decide) dX7_wasted_47 rfl hb2 ?_
      obtain ⟨hb4, hf⟩ := if_inv hf
      refine g_aaload C (Or.inr ⟨(by decide), rfl, hb4⟩) dX7_wasted_48 rfl ?_
      refine g_iload_n (i := 2) C dX7_wasted_49 rfl rfl ?_
      refine g_iaload (N := 4) C (kI_row (by decide) hb4) dX7_wasted_50 rfl hb2 ?_
      refine g_imul C dX7_wasted_51 ?_
      refine g_iadd C dX7_wasted_52 ?_
      refine g_istore_n (i := 1) C dX7_wasted_53 rfl (by decide) rfl ?_
      refine g_iinc C dX7_wasted_54 rfl (by decide) rfl ?_
      refine g_goto (tgt := 4) C dX7_wasted_57 (by decide) ?_
      exact g_mask [true, true, true] (hc _ _ _ (Option.some.inj hf).symm)
set_option maxHeartbeats 4000000 in
set_option maxRecDepth 100000 in
theorem w_X7_wasted_4 (C : Cx p s m args c cX7_wasted 3 RX7 wsX7_wasted D ca A) (hr : meth.sig.returnType = (some .int)) (hlk : meth.locks = false) {n : Nat} {x1 x2 : Int} {σ : Mem} {b : (Int × Mem)} (h : itr (fun z : Int × Int × Mem => f_X7_wasted_4  z.1 z.2.1 z.2.2) n (x1, x2, σ) = some b) (he : ∀ (y1 : Int) (σ : Mem), b = (y1, σ) → G p l e rm_X7_wasted s m args below meth c 3 D ca ad A 0 0 (MQ below (Qi D ca ad A r0 σ0) args s 0 0 A) σ 60 [none, some (.int (iI y1)), none] []) : G p l e rm_X7_wasted s m args below meth c 3 D ca ad A 0 0 (MQ below (Qi D ca ad A r0 σ0) args s 0 0 A) σ 4 [some (.ref (ad 72)), some (.int (iI x1)), some (.int (iI x2))] [] :=
  itr_rule (P := fun z : Int × Int × Mem => G p l e rm_X7_wasted s m args below meth c 3 D ca ad A 0 0 (MQ below (Qi D ca ad A r0 σ0) args s 0 0 A) z.2.2 4 [some (.ref (ad 72)), some (.int (iI z.1)), some (.int (iI z.2.1))] []) (E := fun b => ∀ (y1 : Int) (σ : Mem), b = (y1, σ) → G p l e rm_X7_wasted s m args below meth c 3 D ca ad A 0 0 (MQ below (Qi D ca ad A r0 σ0) args s 0 0 A) σ 60 [none, some (.int (iI y1)), none] []) (fun z o hb hc he => it_X7_wasted_4 C hr hlk (fun _ _ _ e => hc _ e) (fun _ _ e => (he _ e) _ _ rfl) hb) n _ _ h he
set_option maxHeartbeats 4000000 in
set_option maxRecDepth 100000 in
theorem c_X7_wasted {σ : Mem} (hf : f_X7_wasted  σ = some (r0, σ0)) : CTi l D ca ad A yX7_wasted wsX7_wasted rm_X7_wasted [.ref (ad 72)] σ r0 σ0 := by
  refine ct_i (cc := cX7_wasted) (own := RX7) (maxL := 3) (ret := (some .int)) (lv0 := [some (.ref (ad 72)), none, none]) (by decide) rfl rfl rfl (Nat.le_of_ble_eq_true rfl) ?_
  intro p e s m below meth c C hr hlk hnm
  unfold f_X7_wasted at hf
  refine g_iconst C dX7_wasted_0 ?_
  refine g_istore_n (i := 1) C dX7_wasted_1 rfl (by decide) rfl ?_
  refine g_iconst C dX7_wasted_2 ?_
  refine g_istore_n (i := 2) C dX7_wasted_3 rfl (by decide) rfl ?_
  obtain ⟨q6, hl7, hf⟩ := lb_inv hf
  refine g_mask [true, true, true] (w_X7_wasted_4 C hr hlk hl7 ?_)
  · rintro y8 σ9 rfl
    refine g_iload_n (i := 1) C dX7_wasted_60 rfl rfl ?_
    obtain ⟨e1, e2⟩ := some_inv hf
    exact g_iret C hr hlk e1 e2 dX7_wasted_61
/-! X7_gainTop -/
abbrev rm_X7_gainTop : Room := { frames := 2, cells := 0, slots := 0, locals := 49 }
theorem hiX7_gainTop_X4 : ∀ w ∈ u_ws RX4 TX4 9, w ∈ wsX7_gainTop := fun _ h => (List.mem_cons_of_mem _ (List.mem_append_right _ h))
theorem hiX7_gainTop_X7 : ∀ w ∈ u_ws RX7 TX7 14, w ∈ wsX7_gainTop := fun _ h => (List.mem_cons_of_mem _ (List.mem_append_left _ (List.mem_append_right _ h)))
set_option maxHeartbeats 4000000 in
set_option maxRecDepth 100000 in
theorem c_X7_gainTop {v1 v2 : Int} {σ : Mem} (hf : f_X7_gainTop v1 v2 σ = some (r0, σ0)) : CTl l D ca ad A yX7_gainTop wsX7_gainTop rm_X7_gainTop [.ref (ad 72), .int (iI v1), .int (iI v2)] σ r0 σ0 := by
  refine ct_l (cc := cX7_gainTop) (own := RX7) (maxL := 7) (ret := (some .long)) (lv0 := [some (.ref (ad 72)), some (.int (iI v1)), some (.int (iI v2)), none, none, none, none]) (by decide) rfl rfl rfl (Nat.le_of_ble_eq_true rfl) ?_
  intro p e s m below meth c C hr hlk hnm
  unfold f_X7_gainTop at hf
  refine g_iload_n (i := 2) C dX7_gainTop_0 rfl rfl ?_
  refine g_if_ne (tgt := 15) C dX7_gainTop_1 (by decide) rfl (fun c1 => ?_) (fun c1 => ?_)
  · have hf := if_f c1 hf
    refine g_bipush C dX7_gainTop_15 (by decide) ?_
    refine g_aload_n (i := 0) C dX7_gainTop_17 rfl rfl ?_
    refine gg_X7_market (i := 1) C hiX7_gainTop_X7 rfl dX7_gainTop_18 ?_
    refine gg_X4_worth (i := 2) (b := 12)  C (by decide) (by decide) hiX7_gainTop_X4 rfl dX7_gainTop_21 ?_
    refine g_iload_n (i := 1) C dX7_gainTop_24 rfl rfl ?_
    obtain ⟨hb2, hf⟩ := if_inv hf
    refine g_iaload (N := 4) C (by decide) dX7_gainTop_25 rfl hb2 ?_
    refine g_imul C dX7_gainTop_26 ?_
    refine g_i2l C dX7_gainTop_27 rfl ?_
    refine g_lstore_n (i := 3) C dX7_gainTop_28 rfl (by decide) rfl ?_
    refine g_lload_n (i := 3) C dX7_gainTop_29 rfl rfl ?_
    refine g_bipush C dX7_gainTop_30 (by decide) ?_
    refine g_aload_n (i := 0) C dX7_gainTop_32 rfl rfl ?_
    refine gg_X7_market (i := 1) C hiX7_gainTop_X7 rfl dX7_gainTop_33 ?_
    refine gg_X4_away (i := 3) (b := 13)  C (by decide) (by decide) hiX7_gainTop_X4 rfl dX7_gainTop_36 ?_
    refine g_iload_n (i := 1) C dX7_gainTop_39 rfl rfl ?_
    refine g_iaload (N := 4) C (by decide) dX7_gainTop_40 rfl hb2 ?_
    refine g_imul C dX7_gainTop_41 ?_
    refine g_i2l C dX7_gainTop_42 rfl ?_
    refine g_maxl (i1 := 4) (i2 := 5) (i3 := 6) (i4 := 7) C rfl rfl rfl rfl (by decide) (Nat.le_of_ble_eq_true rfl) ⟨Nat.zero_le _, Nat.zero_le _⟩ dX7_gainTop_43 ?_
    refine g_lstore C dX7_gainTop_46 (by decide) rfl ?_
    refine g_ldc2 (i := 8) (z := 100) C dX7_gainTop_48 rfl (by decide) ?_
    refine g_aload_n (i := 0) C dX7_gainTop_51 rfl rfl ?_
    refine g_iload_n (i := 1) C dX7_gainTop_52 rfl rfl ?_
    obtain ⟨r6, σ5, h7, hf⟩ := ob_inv hf
    refine g_callVl C (c_X7_ownTop  h7) (cwV 1 C.2.2.2.2.1 gX7_gainTop_X7_ownTop rfl rfl rfl (by decide +kernel) ⟨Nat.le_of_ble_eq_true rfl, Nat.le_of_ble_eq_true rfl⟩) ob_X7 rfl rfl rfl rfl (Nat.le_of_ble_eq_true rfl) dX7_gainTop_53 ⟨Nat.zero_le _, Nat.zero_le _⟩ ?_
    refine g_lmul C dX7_gainTop_56 ?_
    refine g_lload C dX7_gainTop_57 rfl ?_
    refine g_aload_n (i := 0) C dX7_gainTop_59 rfl rfl ?_
    refine g_iload_n (i := 1) C dX7_gainTop_60 rfl rfl ?_
    obtain ⟨r9, σ8, h10, hf⟩ := ob_inv hf
    refine g_callVl C (c_X7_ownUnder  h10) (cwV 1 C.2.2.2.2.1 gX7_gainTop_X7_ownUnder rfl rfl rfl (by decide +kernel) ⟨Nat.le_of_ble_eq_true rfl, Nat.le_of_ble_eq_true rfl⟩) ob_X7 rfl rfl rfl rfl (Nat.le_of_ble_eq_true rfl) dX7_gainTop_61 ⟨Nat.zero_le _, Nat.zero_le _⟩ ?_
    refine g_lmul C dX7_gainTop_64 ?_
    refine g_lsub C dX7_gainTop_65 ?_
    obtain ⟨e1, e2⟩ := some_inv hf
    exact g_lret C hr hlk e1 e2 dX7_gainTop_66
  · have hf := if_t c1 hf
    refine g_aload_n (i := 0) C dX7_gainTop_4 rfl rfl ?_
    refine gg_X7_market (i := 1) C hiX7_gainTop_X7 rfl dX7_gainTop_5 ?_
    obtain ⟨r12, σ11, h13, hf⟩ := ob_inv hf
    refine g_callVi C (c_X4_meanWorth (by decide) h13) (cwV 0 C.2.2.2.2.1 gX7_gainTop_X4_meanWorth rfl rfl rfl (by decide +kernel) ⟨Nat.le_of_ble_eq_true rfl, Nat.le_of_ble_eq_true rfl⟩) (ob_X4 (by decide)) rfl rfl rfl rfl (Nat.le_of_ble_eq_true rfl) dX7_gainTop_8 ⟨Nat.zero_le _, Nat.zero_le _⟩ ?_
    refine g_i2l C dX7_gainTop_11 rfl ?_
    refine g_goto (tgt := 28) C dX7_gainTop_12 (by decide) ?_
    refine g_lstore_n (i := 3) C dX7_gainTop_28 rfl (by decide) rfl ?_
    refine g_lload_n (i := 3) C dX7_gainTop_29 rfl rfl ?_
    refine g_bipush C dX7_gainTop_30 (by decide) ?_
    refine g_aload_n (i := 0) C dX7_gainTop_32 rfl rfl ?_
    refine gg_X7_market (i := 1) C hiX7_gainTop_X7 rfl dX7_gainTop_33 ?_
    refine gg_X4_away (i := 3) (b := 13)  C (by decide) (by decide) hiX7_gainTop_X4 rfl dX7_gainTop_36 ?_
    refine g_iload_n (i := 1) C dX7_gainTop_39 rfl rfl ?_
    obtain ⟨hb14, hf⟩ := if_inv hf
    refine g_iaload (N := 4) C (by decide) dX7_gainTop_40 rfl hb14 ?_
    refine g_imul C dX7_gainTop_41 ?_
    refine g_i2l C dX7_gainTop_42 rfl ?_
    refine g_maxl (i1 := 4) (i2 := 5) (i3 := 6) (i4 := 7) C rfl rfl rfl rfl (by decide) (Nat.le_of_ble_eq_true rfl) ⟨Nat.zero_le _, Nat.zero_le _⟩ dX7_gainTop_43 ?_
    refine g_lstore C dX7_gainTop_46 (by decide) rfl ?_
    refine g_ldc2 (i := 8) (z := 100) C dX7_gainTop_48 rfl (by decide) ?_
    refine g_aload_n (i := 0) C dX7_gainTop_51 rfl rfl ?_
    refine g_iload_n (i := 1) C dX7_gainTop_52 rfl rfl ?_
    obtain ⟨r17, σ16, h18, hf⟩ := ob_inv hf
    refine g_callVl C (c_X7_ownTop  h18) (cwV 1 C.2.2.2.2.1 gX7_gainTop_X7_ownTop rfl rfl rfl (by decide +kernel) ⟨Nat.le_of_ble_eq_true rfl, Nat.le_of_ble_eq_true rfl⟩) ob_X7 rfl rfl rfl rfl (Nat.le_of_ble_eq_true rfl) dX7_gainTop_53 ⟨Nat.zero_le _, Nat.zero_le _⟩ ?_
    refine g_lmul C dX7_gainTop_56 ?_
    refine g_lload C dX7_gainTop_57 rfl ?_
    refine g_aload_n (i := 0) C dX7_gainTop_59 rfl rfl ?_
    refine g_iload_n (i := 1) C dX7_gainTop_60 rfl rfl ?_
    obtain ⟨r20, σ19, h21, hf⟩ := ob_inv hf
    refine g_callVl C (c_X7_ownUnder  h21) (cwV 1 C.2.2.2.2.1 gX7_gainTop_X7_ownUnder rfl rfl rfl (by decide +kernel) ⟨Nat.le_of_ble_eq_true rfl, Nat.le_of_ble_eq_true rfl⟩) ob_X7 rfl rfl rfl rfl (Nat.le_of_ble_eq_true rfl) dX7_gainTop_61 ⟨Nat.zero_le _, Nat.zero_le _⟩ ?_
    refine g_lmul C dX7_gainTop_64 ?_
    refine g_lsub C dX7_gainTop_65 ?_
    obtain ⟨e1, e2⟩ := some_inv hf
    exact g_lret C hr hlk e1 e2 dX7_gainTop_66
/-! X7_gainUnder -/
abbrev rm_X7_gainUnder : Room := { frames := 2, cells := 0, slots := 0, locals := 42 }
set_option maxHeartbeats 4000000 in
set_option maxRecDepth 100000 in
theorem c_X7_gainUnder {v1 : Int} {σ : Mem} (hf : f_X7_gainUnder v1 σ = some (r0, σ0)) : CTl l D ca ad A yX7_gainUnder wsX7_gainUnder rm_X7_gainUnder [.ref (ad 72), .int (iI v1)] σ r0 σ0 := by
  refine ct_l (cc := cX7_gainUnder) (own := RX7) (maxL := 2) (ret := (some .long)) (lv0 := [some (.ref (ad 72)), some (.int (iI v1))]) (by decide) rfl rfl rfl (Nat.le_of_ble_eq_true rfl) ?_
  intro p e s m below meth c C hr hlk hnm
  unfold f_X7_gainUnder at hf
  refine g_ldc2 (i := 1) (z := 100) C dX7_gainUnder_0 rfl (by decide) ?_
  refine g_aload_n (i := 0) C dX7_gainUnder_3 rfl rfl ?_
  refine g_iload_n (i := 1) C dX7_gainUnder_4 rfl rfl ?_
  obtain ⟨r2, σ1, h3, hf⟩ := ob_inv hf
  refine g_callVl C (c_X7_ownUnder  h3) (cwV 1 C.2.2.2.2.1 gX7_gainUnder_X7_ownUnder rfl rfl rfl (by decide +kernel) ⟨Nat.le_of_ble_eq_true rfl, Nat.le_of_ble_eq_true rfl⟩) ob_X7 rfl rfl rfl rfl (Nat.le_of_ble_eq_true rfl) dX7_gainUnder_5 ⟨Nat.zero_le _, Nat.zero_le _⟩ ?_
  refine g_lmul C dX7_gainUnder_8 ?_
  obtain ⟨e1, e2⟩ := some_inv hf
  exact g_lret C hr hlk e1 e2 dX7_gainUnder_9
end Wk
