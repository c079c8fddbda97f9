section Wk
variable {p : Program} {l : Launch} {e : Env} {s : State} {m : MethodId} {args : Array Value} {below : List Frame} {meth : Method} {c : Code}
variable {D : va_G} {ca : Ca} {ad : Int → Nat} {A : Nat → Prop} {r0 : Int} {σ0 : Mem}
/-! X4_mostWorth -/
abbrev rm_X4_mostWorth : Room := { frames := 1, cells := 0, slots := 0, locals := 13 }
theorem hiX4_mostWorth_X4 : ∀ w ∈ u_ws RX4 TX4 9, w ∈ wsX4_mostWorth := fun _ h => (List.mem_cons_of_mem _ (List.mem_append_right _ h))
set_option maxHeartbeats 4000000 in
set_option maxRecDepth 100000 in
theorem it_X4_mostWorth_4 (C : Cx p s m args c cX4_mostWorth 3 RX4 wsX4_mostWorth D ca A) (hr : meth.sig.returnType = (some .int)) (hlk : meth.locks = false) {t : Int} (ht : isMkt t) {o : (Int × Int × Mem) ⊕ (Int × Mem)} (hc : ∀ (x1 x2 : Int) (σ : Mem), o = .inl (x1, x2, σ) → G p l e rm_X4_mostWorth s m args below meth c 3 D ca ad A 0 0 (MQ below (Qi D ca ad A r0 σ0) args s 0 0 A) σ 4 [some (.ref (ad t)), some (.int (iI x1)), some (.int (iI x2))] []) (he : ∀ (y1 : Int) (σ : Mem), o = .inr (y1, σ) → G p l e rm_X4_mostWorth s m args below meth c 3 D ca ad A 0 0 (MQ below (Qi D ca ad A r0 σ0) args s 0 0 A) σ 29 [none, some (.int (iI y1)), none] []) {x1 x2 : Int} {σ : Mem} (hf : f_X4_mostWorth_4 t x1 x2 σ = some o) : G p l e rm_X4_mostWorth s m args below meth c 3 D ca ad A 0 0 (MQ below (Qi D ca ad A r0 σ0) args s 0 0 A) σ 4 [some (.ref (ad t)), some (.int (iI x1)), some (.int (iI x2))] [] := by
  unfold f_X4_mostWorth_4 at hf
  refine g_iload_n (i := 2) C dX4_mostWorth_4 rfl rfl ?_
  refine g_aload_n (i := 0) C dX4_mostWorth_5 rfl rfl ?_
  refine gg_X4_sorts (i := 1) C ht hiX4_mostWorth_X4 rfl dX4_mostWorth_6 ?_
  refine g_icmp_ge (tgt := 29) C dX4_mostWorth_9 (by decide) rfl rfl (fun c1 => ?_) (fun c1 => ?_)
  · have hf := if_t c1 hf
    exact g_mask [false, true, false] (he _ _ (Option.some.inj hf).symm)
  · have hf := if_f c1 hf
    refine g_iload_n (i := 1) C dX4_mostWorth_12 rfl rfl ?_
    refine g_aload_n (i := 0) C dX4_mostWorth_13 rfl rfl ?_
    refine gg_X4_worth (i := 2) C ht rfl hiX4_mostWorth_X4 rfl dX4_mostWorth_14 ?_
    refine g_iload_n (i := 2) C dX4_mostWorth_17 rfl rfl ?_
    obtain ⟨hb2, hf⟩ := if_inv hf
    refine g_iaload (N := 4) C (mk_arr2 ht) dX4_mostWorth_18 rfl hb2 ?_
    refine g_max (i1 := 3) (i2 := 4) (i3 := 5) (i4 := 6) C rfl rfl rfl rfl (by decide) (Nat.le_of_ble_eq_true rfl) ⟨Nat.zero_le _, Nat.zero_le _⟩ dX4_mostWorth_19 ?_
    refine g_istore_n (i := 1) C dX4_mostWorth_22 rfl (by decide) rfl ?_
    refine g_iinc C dX4_mostWorth_23 rfl (by decide) rfl ?_
    refine g_goto (tgt := 4) C dX4_mostWorth_26 (by decide) ?_
    exact g_mask [true, true, true] (hc _ _ _ (Option.some.inj hf).symm)
set_option maxHeartbeats 4000000 in
set_option maxRecDepth 100000 in
theorem w_X4_mostWorth_4 (C : Cx p s m args c cX4_mostWorth 3 RX4 wsX4_mostWorth D ca A) (hr : meth.sig.returnType = (some .int)) (hlk : meth.locks = false) {t : Int} (ht : isMkt t) {n : Nat} {x1 x2 : Int} {σ : Mem} {b : (Int × Mem)} (h : itr (fun z : Int × Int × Mem => f_X4_mostWorth_4 t z.1 z.2.1 z.2.2) n (x1, x2, σ) = some b) (he : ∀ (y1 : Int) (σ : Mem), b = (y1, σ) → G p l e rm_X4_mostWorth s m args below meth c 3 D ca ad A 0 0 (MQ below (Qi D ca ad A r0 σ0) args s 0 0 A) σ 29 [none, some (.int (iI y1)), none] []) : G p l e rm_X4_mostWorth s m args below meth c 3 D ca ad A 0 0 (MQ below (Qi D ca ad A r0 σ0) args s 0 0 A) σ 4 [some (.ref (ad t)), some (.int (iI x1)), some (.int (iI x2))] [] :=
  itr_rule (P := fun z : Int × Int × Mem => G p l e rm_X4_mostWorth s m args below meth c 3 D ca ad A 0 0 (MQ below (Qi D ca ad A r0 σ0) args s 0 0 A) z.2.2 4 [some (.ref (ad t)), some (.int (iI z.1)), some (.int (iI z.2.1))] []) (E := fun b => ∀ (y1 : Int) (σ : Mem), b = (y1, σ) → G p l e rm_X4_mostWorth s m args below meth c 3 D ca ad A 0 0 (MQ below (Qi D ca ad A r0 σ0) args s 0 0 A) σ 29 [none, some (.int (iI y1)), none] []) (fun z o hb hc he => it_X4_mostWorth_4 C hr hlk ht (fun _ _ _ e => hc _ e) (fun _ _ e => (he _ e) _ _ rfl) hb) n _ _ h he
set_option maxHeartbeats 4000000 in
set_option maxRecDepth 100000 in
theorem c_X4_mostWorth {t : Int} (ht : isMkt t) {σ : Mem} (hf : f_X4_mostWorth t σ = some (r0, σ0)) : CTi l D ca ad A yX4_mostWorth wsX4_mostWorth rm_X4_mostWorth [.ref (ad t)] σ r0 σ0 := by
  refine ct_i (cc := cX4_mostWorth) (own := RX4) (maxL := 3) (ret := (some .int)) (lv0 := [some (.ref (ad t)), none, none]) (by decide) rfl rfl rfl (Nat.le_of_ble_eq_true rfl) ?_
  intro p e s m below meth c C hr hlk hnm
  unfold f_X4_mostWorth at hf
  refine g_iconst C dX4_mostWorth_0 ?_
  refine g_istore_n (i := 1) C dX4_mostWorth_1 rfl (by decide) rfl ?_
  refine g_iconst C dX4_mostWorth_2 ?_
  refine g_istore_n (i := 2) C dX4_mostWorth_3 rfl (by decide) rfl ?_
  obtain ⟨q4, hl5, hf⟩ := lb_inv hf
  refine g_mask [true, true, true] (w_X4_mostWorth_4 C hr hlk ht hl5 ?_)
  · rintro y6 σ7 rfl
    refine g_iload_n (i := 1) C dX4_mostWorth_29 rfl rfl ?_
    obtain ⟨e1, e2⟩ := some_inv hf
    exact g_iret C hr hlk e1 e2 dX4_mostWorth_30
/-! X4_clear -/
abbrev rm_X4_clear : Room := { frames := 0, cells := 0, slots := 0, locals := 0 }
theorem hiX4_clear_X4 : ∀ w ∈ u_ws RX4 TX4 9, w ∈ wsX4_clear := fun _ h => (List.mem_cons_of_mem _ (List.mem_append_right _ h))
set_option maxHeartbeats 4000000 in
set_option maxRecDepth 100000 in
theorem c_X4_clear {t : Int} (ht : isMkt t) {σ : Mem} (hf : f_X4_clear t σ = some (r0, σ0)) : CTv l D ca ad A yX4_clear wsX4_clear rm_X4_clear [.ref (ad t)] σ σ0 := by
  refine ct_v (cc := cX4_clear) (own := RX4) (maxL := 1) (ret := none) (lv0 := [some (.ref (ad t))]) (by decide) rfl rfl rfl (Nat.le_of_ble_eq_true rfl) ?_
  intro p e s m below meth c C hr hlk hnm
  unfold f_X4_clear at hf
  refine g_aload_n (i := 0) C dX4_clear_0 rfl rfl ?_
  refine g_iconst C dX4_clear_1 ?_
  refine gp_X4_sorts (i := 1) C ht hiX4_clear_X4 rfl dX4_clear_2 ?_
  refine g_aload_n (i := 0) C dX4_clear_5 rfl rfl ?_
  refine g_iconst C dX4_clear_6 ?_
  refine gp_X4_marks (i := 2) C ht hiX4_clear_X4 rfl dX4_clear_7 ?_
  refine g_aload_n (i := 0) C dX4_clear_10 rfl rfl ?_
  refine g_iconst C dX4_clear_11 ?_
  refine gp_X4_rate (i := 3) C ht hiX4_clear_X4 rfl dX4_clear_12 ?_
  obtain ⟨e1, e2⟩ := some_inv hf
  exact g_vret C hr hlk e2 dX4_clear_15
/-! X4_takeFrom -/
abbrev rm_X4_takeFrom : Room := { frames := 1, cells := 0, slots := 0, locals := 18 }
theorem hiX4_takeFrom_X4 : ∀ w ∈ u_ws RX4 TX4 9, w ∈ wsX4_takeFrom := fun _ h => (List.mem_cons_of_mem _ (List.mem_append_right _ h))
set_option maxHeartbeats 4000000 in
set_option maxRecDepth 100000 in
theorem it_X4_takeFrom_96 (C : Cx p s m args c cX4_takeFrom 3 RX4 wsX4_takeFrom D ca A) (hr : meth.sig.returnType = none) (hlk : meth.locks = false) {t : Int} (ht : isMkt t) {u1 : Int} (hu1 : isMkt u1) {o : (Int × Mem) ⊕ (Mem)} (hc : ∀ (x2 : Int) (σ : Mem), o = .inl (x2, σ) → G p l e rm_X4_takeFrom s m args below meth c 3 D ca ad A 0 0 (MQ below (Qv D ca ad A σ0) args s 0 0 A) σ 96 [some (.ref (ad t)), some (.ref (ad u1)), some (.int (iI x2))] []) (he : ∀ (σ : Mem), o = .inr σ → G p l e rm_X4_takeFrom s m args below meth c 3 D ca ad A 0 0 (MQ below (Qv D ca ad A σ0) args s 0 0 A) σ 125 [none, none, none] []) {x2 : Int} {σ : Mem} (hf : f_X4_takeFrom_96 t u1 x2 σ = some o) : G p l e rm_X4_takeFrom s m args below meth c 3 D ca ad A 0 0 (MQ below (Qv D ca ad A σ0) args s 0 0 A) σ 96 [some (.ref (ad t)), some (.ref (ad u1)), some (.int (iI x2))] [] := by
  unfold f_X4_takeFrom_96 at hf
  refine g_iload_n (i := 2) C dX4_takeFrom_96 rfl rfl ?_
  refine g_iconst C dX4_takeFrom_97 ?_
  refine g_icmp_ge (b' := 4) (tgt := 125) C dX4_takeFrom_98 (by decide) rfl (by decide) (fun c9 => ?_) (fun c9 => ?_)
  · have hf := if_t c9 hf
    exact g_mask [false, false, false] (he _ (Option.some.inj hf).symm)
  · have hf := if_f c9 hf
    refine g_aload_n (i := 1) C dX4_takeFrom_101 rfl rfl ?_
    refine gg_X4_cost (i := 13) C hu1 rfl hiX4_takeFrom_X4 rfl dX4_takeFrom_102 ?_
    refine g_iload_n (i := 2) C dX4_takeFrom_105 rfl rfl ?_
    obtain ⟨hb10, hf⟩ := if_inv hf
    refine g_aaload C (Or.inr ⟨(mk_cost hu1), rfl, hb10⟩) dX4_takeFrom_106 rfl ?_
    refine g_iconst C dX4_takeFrom_107 ?_
    refine g_aload_n (i := 0) C dX4_takeFrom_108 rfl rfl ?_
    refine gg_X4_cost (i := 13) C ht rfl hiX4_takeFrom_X4 rfl dX4_takeFrom_109 ?_
    refine g_iload_n (i := 2) C dX4_takeFrom_112 rfl rfl ?_
    refine g_aaload C (Or.inr ⟨(mk_cost ht), rfl, hb10⟩) dX4_takeFrom_113 rfl ?_
    refine g_iconst C dX4_takeFrom_114 ?_
    refine g_iconst C dX4_takeFrom_115 ?_
    refine g_copyi (N := 4) (N2 := 4) (sp' := 0) (dp' := 0) (n' := 4) (i1 := 5) (i2 := 6) (i3 := 7) (i4 := 8) C (kI_row (mk_cost hu1) hb10) (kI_row (mk_cost ht) hb10) (by decide) (by decide) (by decide) (by decide) rfl rfl rfl rfl (by decide) (Nat.le_of_ble_eq_true rfl) dX4_takeFrom_116 ?_
    refine g_iinc C dX4_takeFrom_119 rfl (by decide) rfl ?_
    refine g_goto (tgt := 96) C dX4_takeFrom_122 (by decide) ?_
    exact g_mask [true, true, true] (hc _ _ (Option.some.inj hf).symm)
set_option maxHeartbeats 4000000 in
set_option maxRecDepth 100000 in
theorem w_X4_takeFrom_96 (C : Cx p s m args c cX4_takeFrom 3 RX4 wsX4_takeFrom D ca A) (hr : meth.sig.returnType = none) (hlk : meth.locks = false) {t : Int} (ht : isMkt t) {u1 : Int} (hu1 : isMkt u1) {n : Nat} {x2 : Int} {σ : Mem} {b : (Mem)} (h : itr (fun z : Int × Mem => f_X4_takeFrom_96 t u1 z.1 z.2) n (x2, σ) = some b) (he : ∀ (σ : Mem), b = σ → G p l e rm_X4_takeFrom s m args below meth c 3 D ca ad A 0 0 (MQ below (Qv D ca ad A σ0) args s 0 0 A) σ 125 [none, none, none] []) : G p l e rm_X4_takeFrom s m args below meth c 3 D ca ad A 0 0 (MQ below (Qv D ca ad A σ0) args s 0 0 A) σ 96 [some (.ref (ad t)), some (.ref (ad u1)), some (.int (iI x2))] [] :=
  itr_rule (P := fun z : Int × Mem => G p l e rm_X4_takeFrom s m args below meth c 3 D ca ad A 0 0 (MQ below (Qv D ca ad A σ0) args s 0 0 A) z.2 96 [some (.ref (ad t)), some (.ref (ad u1)), some (.int (iI z.1))] []) (E := fun b => ∀ (σ : Mem), b = σ → G p l e rm_X4_takeFrom s m args below meth c 3 D ca ad A 0 0 (MQ below (Qv D ca ad A σ0) args s 0 0 A) σ 125 [none, none, none] []) (fun z o hb hc he => it_X4_takeFrom_96 C hr hlk ht hu1 (fun _ _ e => hc _ e) (fun _ e => (he _ e) _ rfl) hb) n _ _ h he
set_option maxHeartbeats 4000000 in
set_option maxRecDepth 100000 in
theorem c_X4_takeFrom {t : Int} (ht : isMkt t) {u1 : Int} (hu1 : isMkt u1) {σ : Mem} (hf : f_X4_takeFrom t u1 σ = some (r0, σ0)) : CTv l D ca ad A yX4_takeFrom wsX4_takeFrom rm_X4_takeFrom [.ref (ad t), .ref (ad u1)] σ σ0 := by
  refine ct_v (cc := cX4_takeFrom) (own := RX4) (maxL := 3) (ret := none) (lv0 := [some (.ref (ad t)), some (.ref (ad u1)), none]) (by decide) rfl rfl rfl (Nat.le_of_ble_eq_true rfl) ?_
  intro p e s m below meth c C hr hlk hnm
  unfold f_X4_takeFrom at hf
  refine g_aload_n (i := 0) C dX4_takeFrom_0 rfl rfl ?_
  refine g_aload_n (i := 1) C dX4_takeFrom_1 rfl rfl ?_
  refine gg_X4_sorts (i := 1) C hu1 hiX4_takeFrom_X4 rfl dX4_takeFrom_2 ?_
  refine gp_X4_sorts (i := 1) C ht hiX4_takeFrom_X4 rfl dX4_takeFrom_5 ?_
  refine g_aload_n (i := 0) C dX4_takeFrom_8 rfl rfl ?_
  refine g_aload_n (i := 1) C dX4_takeFrom_9 rfl rfl ?_
  refine gg_X4_marks (i := 2) C hu1 hiX4_takeFrom_X4 rfl dX4_takeFrom_10 ?_
  refine gp_X4_marks (i := 2) C ht hiX4_takeFrom_X4 rfl dX4_takeFrom_13 ?_
  refine g_aload_n (i := 0) C dX4_takeFrom_16 rfl rfl ?_
  refine g_aload_n (i := 1) C dX4_takeFrom_17 rfl rfl ?_
  refine gg_X4_rate (i := 3) C hu1 hiX4_takeFrom_X4 rfl dX4_takeFrom_18 ?_
  refine gp_X4_rate (i := 3) C ht hiX4_takeFrom_X4 rfl dX4_takeFrom_21 ?_
  refine g_aload_n (i := 1) C dX4_takeFrom_24 rfl rfl ?_
  refine gg_X4_chance (i := 4) C hu1 rfl hiX4_takeFrom_X4 rfl dX4_takeFrom_25 ?_
  refine g_iconst C dX4_takeFrom_28 ?_
  refine g_aload_n (i := 0) C dX4_takeFrom_29 rfl rfl ?_
  refine gg_X4_chance (i := 4) C ht rfl hiX4_takeFrom_X4 rfl dX4_takeFrom_30 ?_
  refine g_iconst C dX4_takeFrom_33 ?_
  refine g_iconst C dX4_takeFrom_34 ?_
  refine g_copyi (N := 4) (N2 := 4) (sp' := 0) (dp' := 0) (n' := 4) (i1 := 5) (i2 := 6) (i3 := 7) (i4 := 8) C (mk_arr1 hu1) (mk_arr1 ht) (by decide) (by decide) (by decide) (by decide) rfl rfl rfl rfl (by decide) (Nat.le_of_ble_eq_true rfl) dX4_takeFrom_35 ?_
  refine g_aload_n (i := 1) C dX4_takeFrom_38 rfl rfl ?_
  refine gg_X4_worth (i := 9) C hu1 rfl hiX4_takeFrom_X4 rfl dX4_takeFrom_39 ?_
  refine g_iconst C dX4_takeFrom_42 ?_
  refine g_aload_n (i := 0) C dX4_takeFrom_43 rfl rfl ?_
  refine gg_X4_worth (i := 9) C ht rfl hiX4_takeFrom_X4 rfl dX4_takeFrom_44 ?_
  refine g_iconst C dX4_takeFrom_47 ?_
  refine g_iconst C dX4_takeFrom_48 ?_
  refine g_copyi (N := 4) (N2 := 4) (sp' := 0) (dp' := 0) (n' := 4) (i1 := 5) (i2 := 6) (i3 := 7) (i4 := 8) C (mk_arr2 hu1) (mk_arr2 ht) (by decide) (by decide) (by decide) (by decide) rfl rfl rfl rfl (by decide) (Nat.le_of_ble_eq_true rfl) dX4_takeFrom_49 ?_
  refine g_aload_n (i := 1) C dX4_takeFrom_52 rfl rfl ?_
  refine gg_X4_away (i := 10) C hu1 rfl hiX4_takeFrom_X4 rfl dX4_takeFrom_53 ?_
  refine g_iconst C dX4_takeFrom_56 ?_
  refine g_aload_n (i := 0) C dX4_takeFrom_57 rfl rfl ?_
  refine gg_X4_away (i := 10) C ht rfl hiX4_takeFrom_X4 rfl dX4_takeFrom_58 ?_
  refine g_iconst C dX4_takeFrom_61 ?_
  refine g_iconst C dX4_takeFrom_62 ?_
  refine g_copyi (N := 4) (N2 := 4) (sp' := 0) (dp' := 0) (n' := 4) (i1 := 5) (i2 := 6) (i3 := 7) (i4 := 8) C (mk_arr3 hu1) (mk_arr3 ht) (by decide) (by decide) (by decide) (by decide) rfl rfl rfl rfl (by decide) (Nat.le_of_ble_eq_true rfl) dX4_takeFrom_63 ?_
  refine g_aload_n (i := 1) C dX4_takeFrom_66 rfl rfl ?_
  refine gg_X4_use (i := 11) C hu1 rfl hiX4_takeFrom_X4 rfl dX4_takeFrom_67 ?_
  refine g_iconst C dX4_takeFrom_70 ?_
  refine g_aload_n (i := 0) C dX4_takeFrom_71 rfl rfl ?_
  refine gg_X4_use (i := 11) C ht rfl hiX4_takeFrom_X4 rfl dX4_takeFrom_72 ?_
  refine g_iconst C dX4_takeFrom_75 ?_
  refine g_iconst C dX4_takeFrom_76 ?_
  refine g_copyi (N := 4) (N2 := 4) (sp' := 0) (dp' := 0) (n' := 4) (i1 := 5) (i2 := 6) (i3 := 7) (i4 := 8) C (mk_arr4 hu1) (mk_arr4 ht) (by decide) (by decide) (by decide) (by decide) rfl rfl rfl rfl (by decide) (Nat.le_of_ble_eq_true rfl) dX4_takeFrom_77 ?_
  refine g_aload_n (i := 1) C dX4_takeFrom_80 rfl rfl ?_
  refine gg_X4_told (i := 12) C hu1 rfl hiX4_takeFrom_X4 rfl dX4_takeFrom_81 ?_
  refine g_iconst C dX4_takeFrom_84 ?_
  refine g_aload_n (i := 0) C dX4_takeFrom_85 rfl rfl ?_
  refine gg_X4_told (i := 12) C ht rfl hiX4_takeFrom_X4 rfl dX4_takeFrom_86 ?_
  refine g_iconst C dX4_takeFrom_89 ?_
  refine g_iconst C dX4_takeFrom_90 ?_
  refine g_copyi (N := 4) (N2 := 4) (sp' := 0) (dp' := 0) (n' := 4) (i1 := 5) (i2 := 6) (i3 := 7) (i4 := 8) C (mk_arr5 hu1) (mk_arr5 ht) (by decide) (by decide) (by decide) (by decide) rfl rfl rfl rfl (by decide) (Nat.le_of_ble_eq_true rfl) dX4_takeFrom_91 ?_
  refine g_iconst C dX4_takeFrom_94 ?_
  refine g_istore_n (i := 2) C dX4_takeFrom_95 rfl (by decide) rfl ?_
  obtain ⟨q12, hl13, hf⟩ := lb_inv hf
  refine g_mask [true, true, true] (w_X4_takeFrom_96 C hr hlk ht hu1 hl13 ?_)
  · rintro σ14 rfl
    obtain ⟨e1, e2⟩ := some_inv hf
    exact g_vret C hr hlk e2 dX4_takeFrom_125
/-! X4_hasSort -/
abbrev rm_X4_hasSort : Room := { frames := 0, cells := 0, slots := 0, locals := 0 }
theorem hiX4_hasSort_X4 : ∀ w ∈ u_ws RX4 TX4 9, w ∈ wsX4_hasSort := fun _ h => (List.mem_cons_of_mem _ (List.mem_append_right _ h))
set_option maxHeartbeats 4000000 in
set_option maxRecDepth 100000 in
theorem c_X4_hasSort {t : Int} (ht : isMkt t) {v1 : Int} {σ : Mem} (hf : f_X4_hasSort t v1 σ = some (r0, σ0)) : CTi l D ca ad A yX4_hasSort wsX4_hasSort rm_X4_hasSort [.ref (ad t), .int (iI v1)] σ r0 σ0 := by
  refine ct_i (cc := cX4_hasSort) (own := RX4) (maxL := 2) (ret := (some .boolean)) (lv0 := [some (.ref (ad t)), some (.int (iI v1))]) (by decide) rfl rfl rfl (Nat.le_of_ble_eq_true rfl) ?_
  intro p e s m below meth c C hr hlk hnm
  unfold f_X4_hasSort at hf
  refine g_iload_n (i := 1) C dX4_hasSort_0 rfl rfl ?_
  refine g_if_lt (tgt := 16) C dX4_hasSort_1 (by decide) rfl (fun c1 => ?_) (fun c1 => ?_)
  · have hf := if_t c1 hf
    refine g_iconst C dX4_hasSort_16 ?_
    obtain ⟨e1, e2⟩ := some_inv hf
    exact g_zret C hr hlk (by decide) e1 e2 dX4_hasSort_17
  · have hf := if_f c1 hf
    refine g_iload_n (i := 1) C dX4_hasSort_4 rfl rfl ?_
    refine g_aload_n (i := 0) C dX4_hasSort_5 rfl rfl ?_
    refine gg_X4_sorts (i := 1) C ht hiX4_hasSort_X4 rfl dX4_hasSort_6 ?_
    refine g_icmp_ge (tgt := 16) C dX4_hasSort_9 (by decide) rfl rfl (fun c2 => ?_) (fun c2 => ?_)
    · have hf := if_t c2 hf
      refine g_iconst C dX4_hasSort_16 ?_
      obtain ⟨e1, e2⟩ := some_inv hf
      exact g_zret C hr hlk (by decide) e1 e2 dX4_hasSort_17
    · have hf := if_f c2 hf
      refine g_iconst C dX4_hasSort_12 ?_
      refine g_goto (tgt := 17) C dX4_hasSort_13 (by decide) ?_
      obtain ⟨e1, e2⟩ := some_inv hf
      exact g_zret C hr hlk (by decide) e1 e2 dX4_hasSort_17
/-! X4_hasMark -/
abbrev rm_X4_hasMark : Room := { frames := 0, cells := 0, slots := 0, locals := 0 }
theorem hiX4_hasMark_X4 : ∀ w ∈ u_ws RX4 TX4 9, w ∈ wsX4_hasMark := fun _ h => (List.mem_cons_of_mem _ (List.mem_append_right _ h))
set_option maxHeartbeats 4000000 in
set_option maxRecDepth 100000 in
theorem c_X4_hasMark {t : Int} (ht : isMkt t) {v1 : Int} {σ : Mem} (hf : f_X4_hasMark t v1 σ = some (r0, σ0)) : CTi l D ca ad A yX4_hasMark wsX4_hasMark rm_X4_hasMark [.ref (ad t), .int (iI v1)] σ r0 σ0 := by
  refine ct_i (cc := cX4_hasMark) (own := RX4) (maxL := 2) (ret := (some .boolean)) (lv0 := [some (.ref (ad t)), some (.int (iI v1))]) (by decide) rfl rfl rfl (Nat.le_of_ble_eq_true rfl) ?_
  intro p e s m below meth c C hr hlk hnm
  unfold f_X4_hasMark at hf
  refine g_iload_n (i := 1) C dX4_hasMark_0 rfl rfl ?_
  refine g_if_lt (tgt := 16) C dX4_hasMark_1 (by decide) rfl (fun c1 => ?_) (fun c1 => ?_)
  · have hf := if_t c1 hf
    refine g_iconst C dX4_hasMark_16 ?_
    obtain ⟨e1, e2⟩ := some_inv hf
    exact g_zret C hr hlk (by decide) e1 e2 dX4_hasMark_17
  · have hf := if_f c1 hf
    refine g_iload_n (i := 1) C dX4_hasMark_4 rfl rfl ?_
    refine g_aload_n (i := 0) C dX4_hasMark_5 rfl rfl ?_
    refine gg_X4_marks (i := 1) C ht hiX4_hasMark_X4 rfl dX4_hasMark_6 ?_
    refine g_icmp_ge (tgt := 16) C dX4_hasMark_9 (by decide) rfl rfl (fun c2 => ?_) (fun c2 => ?_)
    · have hf := if_t c2 hf
      refine g_iconst C dX4_hasMark_16 ?_
      obtain ⟨e1, e2⟩ := some_inv hf
      exact g_zret C hr hlk (by decide) e1 e2 dX4_hasMark_17
    · have hf := if_f c2 hf
      refine g_iconst C dX4_hasMark_12 ?_
      refine g_goto (tgt := 17) C dX4_hasMark_13 (by decide) ?_
      obtain ⟨e1, e2⟩ := some_inv hf
      exact g_zret C hr hlk (by decide) e1 e2 dX4_hasMark_17
/-! X4_fitNumbers -/
abbrev rm_X4_fitNumbers : Room := { frames := 0, cells := 0, slots := 0, locals := 0 }
theorem hiX4_fitNumbers_X4 : ∀ w ∈ u_ws RX4 TX4 9, w ∈ wsX4_fitNumbers := fun _ h => (List.mem_cons_of_mem _ (List.mem_append_right _ h))
set_option maxHeartbeats 4000000 in
set_option maxRecDepth 100000 in
theorem it_X4_fitNumbers_4 (C : Cx p s m args c cX4_fitNumbers 3 RX4 wsX4_fitNumbers D ca A) (hr : meth.sig.returnType = (some .int)) (hlk : meth.locks = false) {t : Int} (ht : isMkt t) {o : (Int × Int × Mem) ⊕ (Int × Mem)} (hc : ∀ (x1 x2 : Int) (σ : Mem), o = .inl (x1, x2, σ) → G p l e rm_X4_fitNumbers s m args below meth c 3 D ca ad A 0 0 (MQ below (Qi D ca ad A r0 σ0) args s 0 0 A) σ 4 [some (.ref (ad t)), some (.int (iI x1)), some (.int (iI x2))] []) (he : ∀ (y1 : Int) (σ : Mem), o = .inr (y1, σ) → G p l e rm_X4_fitNumbers s m args below meth c 3 D ca ad A 0 0 (MQ below (Qi D ca ad A r0 σ0) args s 0 0 A) σ 22 [none, some (.int (iI y1)), none] []) {x1 x2 : Int} {σ : Mem} (hf : f_X4_fitNumbers_4 t x1 x2 σ = some o) : G p l e rm_X4_fitNumbers s m args below meth c 3 D ca ad A 0 0 (MQ below (Qi D ca ad A r0 σ0) args s 0 0 A) σ 4 [some (.ref (ad t)), some (.int (iI x1)), some (.int (iI x2))] [] := by
  unfold f_X4_fitNumbers_4 at hf
  refine g_iload_n (i := 2) C dX4_fitNumbers_4 rfl rfl ?_
  refine g_aload_n (i := 0) C dX4_fitNumbers_5 rfl rfl ?_
  refine gg_X4_sorts (i := 1) C ht hiX4_fitNumbers_X4 rfl dX4_fitNumbers_6 ?_
  refine g_icmp_ge (tgt := 22) C dX4_fitNumbers_9 (by decide) rfl rfl (fun c1 => ?_) (fun c1 => ?_)
  · have hf := if_t c1 hf
    exact g_mask [false, true, false] (he _ _ (Option.some.inj hf).symm)
  · have hf := if_f c1 hf
    refine g_iload_n (i := 1) C dX4_fitNumbers_12 rfl rfl ?_
    refine g_iconst C dX4_fitNumbers_13 ?_
    refine g_imul C dX4_fitNumbers_14 ?_
    refine g_istore_n (i := 1) C dX4_fitNumbers_15 rfl (by decide) rfl ?_
    refine g_iinc C dX4_fitNumbers_16 rfl (by decide) rfl ?_
    refine g_goto (tgt := 4) C dX4_fitNumbers_19 (by decide) ?_
    exact g_mask [true, true, true] (hc _ _ _ (Option.some.inj hf).symm)
set_option maxHeartbeats 4000000 in
set_option maxRecDepth 100000 in
theorem w_X4_fitNumbers_4 (C : Cx p s m args c cX4_fitNumbers 3 RX4 wsX4_fitNumbers D ca A) (hr : meth.sig.returnType = (some .int)) (hlk : meth.locks = false) {t : Int} (ht : isMkt t) {n : Nat} {x1 x2 : Int} {σ : Mem} {b : (Int × Mem)} (h : itr (fun z : Int × Int × Mem => f_X4_fitNumbers_4 t z.1 z.2.1 z.2.2) n (x1, x2, σ) = some b) (he : ∀ (y1 : Int) (σ : Mem), b = (y1, σ) → G p l e rm_X4_fitNumbers s m args below meth c 3 D ca ad A 0 0 (MQ below (Qi D ca ad A r0 σ0) args s 0 0 A) σ 22 [none, some (.int (iI y1)), none] []) : G p l e rm_X4_fitNumbers s m args below meth c 3 D ca ad A 0 0 (MQ below (Qi D ca ad A r0 σ0) args s 0 0 A) σ 4 [some (.ref (ad t)), some (.int (iI x1)), some (.int (iI x2))] [] :=
  itr_rule (P := fun z : Int × Int × Mem => G p l e rm_X4_fitNumbers s m args below meth c 3 D ca ad A 0 0 (MQ below (Qi D ca ad A r0 σ0) args s 0 0 A) z.2.2 4 [some (.ref (ad t)), some (.int (iI z.1)), some (.int (iI z.2.1))] []) (E := fun b => ∀ (y1 : Int) (σ : Mem), b = (y1, σ) → G p l e rm_X4_fitNumbers s m args below meth c 3 D ca ad A 0 0 (MQ below (Qi D ca ad A r0 σ0) args s 0 0 A) σ 22 [none, some (.int (iI y1)), none] []) (fun z o hb hc he => it_X4_fitNumbers_4 C hr hlk ht (fun _ _ _ e => hc _ e) (fun _ _ e => (he _ e) _ _ rfl) hb) n _ _ h he
set_option maxHeartbeats 4000000 in
set_option maxRecDepth 100000 in
theorem c_X4_fitNumbers {t : Int} (ht : isMkt t) {σ : Mem} (hf : f_X4_fitNumbers t σ = some (r0, σ0)) : CTi l D ca ad A yX4_fitNumbers wsX4_fitNumbers rm_X4_fitNumbers [.ref (ad t)] σ r0 σ0 := by
  refine ct_i (cc := cX4_fitNumbers) (own := RX4) (maxL := 3) (ret := (some .int)) (lv0 := [some (.ref (ad t)), none, none]) (by decide) rfl rfl rfl (Nat.le_of_ble_eq_true rfl) ?_
  intro p e s m below meth c C hr hlk hnm
  unfold f_X4_fitNumbers at hf
  refine g_iconst C dX4_fitNumbers_0 ?_
  refine g_istore_n (i := 1) C dX4_fitNumbers_1 rfl (by decide) rfl ?_
  refine g_iconst C dX4_fitNumbers_2 ?_
  refine g_istore_n (i := 2) C dX4_fitNumbers_3 rfl (by decide) rfl ?_
  obtain ⟨q2, hl3, hf⟩ := lb_inv hf
  refine g_mask [true, true, true] (w_X4_fitNumbers_4 C hr hlk ht hl3 ?_)
  · rintro y4 σ5 rfl
    refine g_iload_n (i := 1) C dX4_fitNumbers_22 rfl rfl ?_
    obtain ⟨e1, e2⟩ := some_inv hf
    exact g_iret C hr hlk e1 e2 dX4_fitNumbers_23
/-! X4_hasFit -/
abbrev rm_X4_hasFit : Room := { frames := 0, cells := 0, slots := 0, locals := 0 }
theorem hiX4_hasFit_X4 : ∀ w ∈ u_ws RX4 TX4 9, w ∈ wsX4_hasFit := fun _ h => (List.mem_cons_of_mem _ (List.mem_append_right _ h))
set_option maxHeartbeats 4000000 in
set_option maxRecDepth 100000 in
theorem it_X4_hasFit_10 (C : Cx p s m args c cX4_hasFit 5 RX4 wsX4_hasFit D ca A) (hr : meth.sig.returnType = (some .boolean)) (hlk : meth.locks = false) {t : Int} (ht : isMkt t) {o : (Int × Int × Mem) ⊕ ((Int × Mem) ⊕ (Int × Mem))} (hc : ∀ (x2 x3 : Int) (σ : Mem), o = .inl (x2, x3, σ) → G p l e rm_X4_hasFit s m args below meth c 5 D ca ad A 0 0 (MQ below (Qi D ca ad A r0 σ0) args s 0 0 A) σ 10 [some (.ref (ad t)), none, some (.int (iI x2)), some (.int (iI x3)), none] []) (he1 : ∀ (r1 : Int) (σ1 : Mem), o = .inr (.inl (r1, σ1)) → r1 = r0 ∧ σ1 = σ0) (he2 : ∀ (y2 : Int) (σ : Mem), o = .inr (.inr (y2, σ)) → G p l e rm_X4_hasFit s m args below meth c 5 D ca ad A 0 0 (MQ below (Qi D ca ad A r0 σ0) args s 0 0 A) σ 50 [none, none, some (.int (iI y2)), none, none] []) {x2 x3 : Int} {σ : Mem} (hf : f_X4_hasFit_10 t x2 x3 σ = some o) : G p l e rm_X4_hasFit s m args below meth c 5 D ca ad A 0 0 (MQ below (Qi D ca ad A r0 σ0) args s 0 0 A) σ 10 [some (.ref (ad t)), none, some (.int (iI x2)), some (.int (iI x3)), none] [] := by
  unfold f_X4_hasFit_10 at hf
  refine g_iload_n (i := 3) C dX4_hasFit_10 rfl rfl ?_
  refine g_aload_n (i := 0) C dX4_hasFit_11 rfl rfl ?_
  refine gg_X4_sorts (i := 1) C ht hiX4_hasFit_X4 rfl dX4_hasFit_12 ?_
  refine g_icmp_ge (tgt := 50) C dX4_hasFit_15 (by decide) rfl rfl (fun c8 => ?_) (fun c8 => ?_)
  · have hf := if_t c8 hf
    exact g_mask [false, false, true, false, false] (he2 _ _ (Option.some.inj hf).symm)
  · have hf := if_f c8 hf
    refine g_iload_n (i := 2) C dX4_hasFit_18 rfl rfl ?_
    refine g_iconst C dX4_hasFit_19 ?_
    refine g_irem (b' := 5) C dX4_hasFit_20 rfl (by decide) (by decide) ?_
    refine g_istore C dX4_hasFit_21 (by decide) rfl ?_
    refine g_iload C dX4_hasFit_23 rfl ?_
    refine g_iconst C dX4_hasFit_25 ?_
    refine g_icmp_eq (b' := 4) (tgt := 40) C dX4_hasFit_26 (by decide) rfl (by decide) (fun c10 => ?_) (fun c10 => ?_)
    · have hf := if_t c10 hf
      refine g_iload_n (i := 2) C dX4_hasFit_40 rfl rfl ?_
      refine g_iconst C dX4_hasFit_41 ?_
      refine g_idiv (b' := 5) C dX4_hasFit_42 rfl (by decide) (by decide) ?_
      refine g_istore_n (i := 2) C dX4_hasFit_43 rfl (by decide) rfl ?_
      refine g_iinc C dX4_hasFit_44 rfl (by decide) rfl ?_
      refine g_goto (tgt := 10) C dX4_hasFit_47 (by decide) ?_
      exact g_mask [true, false, true, true, false] (hc _ _ _ (Option.some.inj hf).symm)
    · have hf := if_f c10 hf
      refine g_iload C dX4_hasFit_29 rfl ?_
      refine g_aload_n (i := 0) C dX4_hasFit_31 rfl rfl ?_
      refine gg_X4_marks (i := 2) C ht hiX4_hasFit_X4 rfl dX4_hasFit_32 ?_
      refine g_icmp_lt (tgt := 40) C dX4_hasFit_35 (by decide) rfl rfl (fun c12 => ?_) (fun c12 => ?_)
      · have hf := if_t c12 hf
        refine g_iload_n (i := 2) C dX4_hasFit_40 rfl rfl ?_
        refine g_iconst C dX4_hasFit_41 ?_
        refine g_idiv (b' := 5) C dX4_hasFit_42 rfl (by decide) (by decide) ?_
        refine g_istore_n (i := 2) C dX4_hasFit_43 rfl (by decide) rfl ?_
        refine g_iinc C dX4_hasFit_44 rfl (by decide) rfl ?_
        refine g_goto (tgt := 10) C dX4_hasFit_47 (by decide) ?_
        exact g_mask [true, false, true, true, false] (hc _ _ _ (Option.some.inj hf).symm)
      · have hf := if_f c12 hf
        refine g_iconst C dX4_hasFit_38 ?_
        obtain ⟨e1, e2⟩ := he1 _ _ (Option.some.inj hf).symm
        exact g_zret C hr hlk (by decide) e1 e2 dX4_hasFit_39
set_option maxHeartbeats 4000000 in
set_option maxRecDepth 100000 in
theorem w_X4_hasFit_10 (C : Cx p s m args c cX4_hasFit 5 RX4 wsX4_hasFit D ca A) (hr : meth.sig.returnType = (some .boolean)) (hlk : meth.locks = false) {t : Int} (ht : isMkt t) {n : Nat} {x2 x3 : Int} {σ : Mem} {b : ((Int × Mem) ⊕ (Int × Mem))} (h : itr (fun z : Int × Int × Mem => f_X4_hasFit_10 t z.1 z.2.1 z.2.2) n (x2, x3, σ) = some b) (he1 : ∀ (r1 : Int) (σ1 : Mem), b = .inl (r1, σ1) → r1 = r0 ∧ σ1 = σ0) (he2 : ∀ (y2 : Int) (σ : Mem), b = .inr (y2, σ) → G p l e rm_X4_hasFit s m args below meth c 5 D ca ad A 0 0 (MQ below (Qi D ca ad A r0 σ0) args s 0 0 A) σ 50 [none, none, some (.int (iI y2)), none, none] []) : G p l e rm_X4_hasFit s m args below meth c 5 D ca ad A 0 0 (MQ below (Qi D ca ad A r0 σ0) args s 0 0 A) σ 10 [some (.ref (ad t)), none, some (.int (iI x2)), some (.int (iI x3)), none] [] :=
  itr_rule (P := fun z : Int × Int × Mem => G p l e rm_X4_hasFit s m args below meth c 5 D ca ad A 0 0 (MQ below (Qi D ca ad A r0 σ0) args s 0 0 A) z.2.2 10 [some (.ref (ad t)), none, some (.int (iI z.1)), some (.int (iI z.2.1)), none] []) (E := fun b => (∀ (r1 : Int) (σ1 : Mem), b = .inl (r1, σ1) → r1 = r0 ∧ σ1 = σ0) ∧ (∀ (y2 : Int) (σ : Mem), b = .inr (y2, σ) → G p l e rm_X4_hasFit s m args below meth c 5 D ca ad A 0 0 (MQ below (Qi D ca ad A r0 σ0) args s 0 0 A) σ 50 [none, none, some (.int (iI y2)), none, none] [])) (fun z o hb hc he => it_X4_hasFit_10 C hr hlk ht (fun _ _ _ e => hc _ e) (fun r1 σ1 e => (he _ e).1 r1 σ1 rfl) (fun _ _ e => (he _ e).2 _ _ rfl) hb) n _ _ h ⟨he1, he2⟩
set_option maxHeartbeats 4000000 in
set_option maxRecDepth 100000 in
theorem c_X4_hasFit {t : Int} (ht : isMkt t) {v1 : Int} {σ : Mem} (hf : f_X4_hasFit t v1 σ = some (r0, σ0)) : CTi l D ca ad A yX4_hasFit wsX4_hasFit rm_X4_hasFit [.ref (ad t), .int (iI v1)] σ r0 σ0 := by
  refine ct_i (cc := cX4_hasFit) (own := RX4) (maxL := 5) (ret := (some .boolean)) (lv0 := [some (.ref (ad t)), some (.int (iI v1)), none, none, none]) (by decide) rfl rfl rfl (Nat.le_of_ble_eq_true rfl) ?_
  intro p e s m below meth c C hr hlk hnm
  unfold f_X4_hasFit at hf
  refine g_iload_n (i := 1) C dX4_hasFit_0 rfl rfl ?_
  refine g_if_ge (tgt := 6) C dX4_hasFit_1 (by decide) rfl (fun c1 => ?_) (fun c1 => ?_)
  · have hf := if_t c1 hf
    refine g_iload_n (i := 1) C dX4_hasFit_6 rfl rfl ?_
    refine g_istore_n (i := 2) C dX4_hasFit_7 rfl (by decide) rfl ?_
    refine g_iconst C dX4_hasFit_8 ?_
    refine g_istore_n (i := 3) C dX4_hasFit_9 rfl (by decide) rfl ?_
    obtain ⟨q14, hl15, hf⟩ := lb_inv hf
    refine g_mask [true, false, true, true, false] (w_X4_hasFit_10 C hr hlk ht hl15 ?_ ?_)
    · rintro r1 σ1 rfl
      exact some_inv hf
    · rintro y16 σ17 rfl
      have hf := se_r hf
      refine g_iload_n (i := 2) C dX4_hasFit_50 rfl rfl ?_
      refine g_if_ne (tgt := 58) C dX4_hasFit_51 (by decide) rfl (fun c18 => ?_) (fun c18 => ?_)
      · have hf := if_f c18 hf
        refine g_iconst C dX4_hasFit_58 ?_
        obtain ⟨e1, e2⟩ := some_inv hf
        exact g_zret C hr hlk (by decide) e1 e2 dX4_hasFit_59
      · have hf := if_t c18 hf
        refine g_iconst C dX4_hasFit_54 ?_
        refine g_goto (tgt := 59) C dX4_hasFit_55 (by decide) ?_
        obtain ⟨e1, e2⟩ := some_inv hf
        exact g_zret C hr hlk (by decide) e1 e2 dX4_hasFit_59
  · have hf := if_f c1 hf
    refine g_iconst C dX4_hasFit_4 ?_
    obtain ⟨e1, e2⟩ := some_inv hf
    exact g_zret C hr hlk (by decide) e1 e2 dX4_hasFit_5
/-! X4_allMarks -/
abbrev rm_X4_allMarks : Room := { frames := 0, cells := 0, slots := 0, locals := 0 }
theorem hiX4_allMarks_X4 : ∀ w ∈ u_ws RX4 TX4 9, w ∈ wsX4_allMarks := fun _ h => (List.mem_cons_of_mem _ (List.mem_append_right _ h))
set_option maxHeartbeats 4000000 in
set_option maxRecDepth 100000 in
theorem c_X4_allMarks {t : Int} (ht : isMkt t) {σ : Mem} (hf : f_X4_allMarks t σ = some (r0, σ0)) : CTi l D ca ad A yX4_allMarks wsX4_allMarks rm_X4_allMarks [.ref (ad t)] σ r0 σ0 := by
  refine ct_i (cc := cX4_allMarks) (own := RX4) (maxL := 1) (ret := (some .int)) (lv0 := [some (.ref (ad t))]) (by decide) rfl rfl rfl (Nat.le_of_ble_eq_true rfl) ?_
  intro p e s m below meth c C hr hlk hnm
  unfold f_X4_allMarks at hf
  refine g_iconst C dX4_allMarks_0 ?_
  refine g_aload_n (i := 0) C dX4_allMarks_1 rfl rfl ?_
  refine gg_X4_marks (i := 1) C ht hiX4_allMarks_X4 rfl dX4_allMarks_2 ?_
  refine g_ishl C dX4_allMarks_5 ?_
  refine g_iconst C dX4_allMarks_6 ?_
  refine g_isub C dX4_allMarks_7 ?_
  obtain ⟨e1, e2⟩ := some_inv hf
  exact g_iret C hr hlk e1 e2 dX4_allMarks_8
/-! X4_toldAt -/
abbrev rm_X4_toldAt : Room := { frames := 0, cells := 0, slots := 0, locals := 0 }
theorem hiX4_toldAt_X4 : ∀ w ∈ u_ws RX4 TX4 9, w ∈ wsX4_toldAt := fun _ h => (List.mem_cons_of_mem _ (List.mem_append_right _ h))
set_option maxHeartbeats 4000000 in
set_option maxRecDepth 100000 in
theorem c_X4_toldAt {t : Int} (ht : isMkt t) {v1 : Int} {σ : Mem} (hf : f_X4_toldAt t v1 σ = some (r0, σ0)) : CTi l D ca ad A yX4_toldAt wsX4_toldAt rm_X4_toldAt [.ref (ad t), .int (iI v1)] σ r0 σ0 := by
  refine ct_i (cc := cX4_toldAt) (own := RX4) (maxL := 2) (ret := (some .int)) (lv0 := [some (.ref (ad t)), some (.int (iI v1))]) (by decide) rfl rfl rfl (Nat.le_of_ble_eq_true rfl) ?_
  intro p e s m below meth c C hr hlk hnm
  unfold f_X4_toldAt at hf
  refine g_aload_n (i := 0) C dX4_toldAt_0 rfl rfl ?_
  refine gg_X4_told (i := 1) C ht rfl hiX4_toldAt_X4 rfl dX4_toldAt_1 ?_
  refine g_iload_n (i := 1) C dX4_toldAt_4 rfl rfl ?_
  obtain ⟨hb1, hf⟩ := if_inv hf
  refine g_iaload (N := 4) C (mk_arr5 ht) dX4_toldAt_5 rfl hb1 ?_
  refine g_iconst C dX4_toldAt_6 ?_
  refine g_icmp_ne (b' := (-1)) (tgt := 15) C dX4_toldAt_7 (by decide) rfl (by decide) (fun c2 => ?_) (fun c2 => ?_)
  · have hf := if_f c2 hf
    refine g_aload_n (i := 0) C dX4_toldAt_15 rfl rfl ?_
    refine gg_X4_told (i := 1) C ht rfl hiX4_toldAt_X4 rfl dX4_toldAt_16 ?_
    refine g_iload_n (i := 1) C dX4_toldAt_19 rfl rfl ?_
    refine g_iaload (N := 4) C (mk_arr5 ht) dX4_toldAt_20 rfl hb1 ?_
    obtain ⟨e1, e2⟩ := some_inv hf
    exact g_iret C hr hlk e1 e2 dX4_toldAt_21
  · have hf := if_t c2 hf
    refine g_bipush C dX4_toldAt_10 (by decide) ?_
    refine g_goto (tgt := 21) C dX4_toldAt_12 (by decide) ?_
    obtain ⟨e1, e2⟩ := some_inv hf
    exact g_iret C hr hlk e1 e2 dX4_toldAt_21
/-! X4_addSort -/
abbrev rm_X4_addSort : Room := { frames := 0, cells := 0, slots := 0, locals := 0 }
theorem hiX4_addSort_X4 : ∀ w ∈ u_ws RX4 TX4 9, w ∈ wsX4_addSort := fun _ h => (List.mem_cons_of_mem _ (List.mem_append_right _ h))
set_option maxHeartbeats 4000000 in
set_option maxRecDepth 100000 in
theorem c_X4_addSort {t : Int} (ht : isMkt t) {v1 v2 v3 : Int} {σ : Mem} (hf : f_X4_addSort t v1 v2 v3 σ = some (r0, σ0)) : CTi l D ca ad A yX4_addSort wsX4_addSort rm_X4_addSort [.ref (ad t), .int (iI v1), .int (iI v2), .int (iI v3)] σ r0 σ0 := by
  refine ct_i (cc := cX4_addSort) (own := RX4) (maxL := 4) (ret := (some .boolean)) (lv0 := [some (.ref (ad t)), some (.int (iI v1)), some (.int (iI v2)), some (.int (iI v3))]) (by decide) rfl rfl rfl (Nat.le_of_ble_eq_true rfl) ?_
  intro p e s m below meth c C hr hlk hnm
  unfold f_X4_addSort at hf
  refine g_aload_n (i := 0) C dX4_addSort_0 rfl rfl ?_
  refine gg_X4_sorts (i := 1) C ht hiX4_addSort_X4 rfl dX4_addSort_1 ?_
  refine g_iconst C dX4_addSort_4 ?_
  refine g_icmp_eq (b' := 4) (tgt := 26) C dX4_addSort_5 (by decide) rfl (by decide) (fun c1 => ?_) (fun c1 => ?_)
  · have hf := if_t c1 hf
    refine g_iconst C dX4_addSort_26 ?_
    obtain ⟨e1, e2⟩ := some_inv hf
    exact g_zret C hr hlk (by decide) e1 e2 dX4_addSort_27
  · have hf := if_f c1 hf
    refine g_aload_n (i := 0) C dX4_addSort_8 rfl rfl ?_
    refine gg_X4_marks (i := 2) C ht hiX4_addSort_X4 rfl dX4_addSort_9 ?_
    refine g_if_gt (tgt := 26) C dX4_addSort_12 (by decide) rfl (fun c2 => ?_) (fun c2 => ?_)
    · have hf := if_t c2 hf
      refine g_iconst C dX4_addSort_26 ?_
      obtain ⟨e1, e2⟩ := some_inv hf
      exact g_zret C hr hlk (by decide) e1 e2 dX4_addSort_27
    · have hf := if_f c2 hf
      refine g_iload_n (i := 1) C dX4_addSort_15 rfl rfl ?_
      refine g_iconst C dX4_addSort_16 ?_
      refine g_icmp_lt (b' := 1) (tgt := 26) C dX4_addSort_17 (by decide) rfl (by decide) (fun c3 => ?_) (fun c3 => ?_)
      · have hf := if_t c3 hf
        refine g_iconst C dX4_addSort_26 ?_
        obtain ⟨e1, e2⟩ := some_inv hf
        exact g_zret C hr hlk (by decide) e1 e2 dX4_addSort_27
      · have hf := if_f c3 hf
        refine g_iload_n (i := 1) C dX4_addSort_20 rfl rfl ?_
        refine g_bipush C dX4_addSort_21 (by decide) ?_
        refine g_icmp_le (b' := 100) (tgt := 28) C dX4_addSort_23 (by decide) rfl (by decide) (fun c4 => ?_) (fun c4 => ?_)
        · have hf := if_t c4 hf
          refine g_aload_n (i := 0) C dX4_addSort_28 rfl rfl ?_
          refine gg_X4_chance (i := 3) C ht rfl hiX4_addSort_X4 rfl dX4_addSort_29 ?_
          refine g_aload_n (i := 0) C dX4_addSort_32 rfl rfl ?_
          refine gg_X4_sorts (i := 1) C ht hiX4_addSort_X4 rfl dX4_addSort_33 ?_
          refine g_iload_n (i := 1) C dX4_addSort_36 rfl rfl ?_
          obtain ⟨hb5, hf⟩ := if_inv hf
          refine g_iastore (N := 4) C (mk_arr1 ht) dX4_addSort_37 rfl hb5 ?_
          refine g_aload_n (i := 0) C dX4_addSort_38 rfl rfl ?_
          refine gg_X4_worth (i := 4) C ht rfl hiX4_addSort_X4 rfl dX4_addSort_39 ?_
          refine g_aload_n (i := 0) C dX4_addSort_42 rfl rfl ?_
          refine gg_X4_sorts (i := 1) C ht hiX4_addSort_X4 rfl dX4_addSort_43 ?_
          refine g_iload_n (i := 2) C dX4_addSort_46 rfl rfl ?_
          obtain ⟨hb7, hf⟩ := if_inv hf
          refine g_iastore (N := 4) C (mk_arr2 ht) dX4_addSort_47 rfl hb7 ?_
          refine g_aload_n (i := 0) C dX4_addSort_48 rfl rfl ?_
          refine gg_X4_away (i := 5) C ht rfl hiX4_addSort_X4 rfl dX4_addSort_49 ?_
          refine g_aload_n (i := 0) C dX4_addSort_52 rfl rfl ?_
          refine gg_X4_sorts (i := 1) C ht hiX4_addSort_X4 rfl dX4_addSort_53 ?_
          refine g_iload_n (i := 3) C dX4_addSort_56 rfl rfl ?_
          obtain ⟨hb9, hf⟩ := if_inv hf
          refine g_iastore (N := 4) C (mk_arr3 ht) dX4_addSort_57 rfl hb9 ?_
          refine g_aload_n (i := 0) C dX4_addSort_58 rfl rfl ?_
          refine g_dup C dX4_addSort_59 rfl ?_
          refine gg_X4_sorts (i := 1) C ht hiX4_addSort_X4 rfl dX4_addSort_60 ?_
          refine g_iconst C dX4_addSort_63 ?_
          refine g_iadd C dX4_addSort_64 ?_
          refine gp_X4_sorts (i := 1) C ht hiX4_addSort_X4 rfl dX4_addSort_65 ?_
          refine g_iconst C dX4_addSort_68 ?_
          obtain ⟨e1, e2⟩ := some_inv hf
          exact g_zret C hr hlk (by decide) e1 e2 dX4_addSort_69
        · have hf := if_f c4 hf
          refine g_iconst C dX4_addSort_26 ?_
          obtain ⟨e1, e2⟩ := some_inv hf
          exact g_zret C hr hlk (by decide) e1 e2 dX4_addSort_27
/-! X4_addMark -/
abbrev rm_X4_addMark : Room := { frames := 0, cells := 0, slots := 0, locals := 0 }
theorem hiX4_addMark_X4 : ∀ w ∈ u_ws RX4 TX4 9, w ∈ wsX4_addMark := fun _ h => (List.mem_cons_of_mem _ (List.mem_append_right _ h))
set_option maxHeartbeats 4000000 in
set_option maxRecDepth 100000 in
theorem it_X4_addMark_52 (C : Cx p s m args c cX4_addMark 4 RX4 wsX4_addMark D ca A) (hr : meth.sig.returnType = (some .boolean)) (hlk : meth.locks = false) {t : Int} (ht : isMkt t) {u1 : Int} (hu1 : kI 5 u1) {o : (Int × Mem) ⊕ (Mem)} (hc : ∀ (x3 : Int) (σ : Mem), o = .inl (x3, σ) → G p l e rm_X4_addMark s m args below meth c 4 D ca ad A 0 0 (MQ below (Qi D ca ad A r0 σ0) args s 0 0 A) σ 52 [some (.ref (ad t)), some (.ref (ad u1)), none, some (.int (iI x3))] []) (he : ∀ (σ : Mem), o = .inr σ → G p l e rm_X4_addMark s m args below meth c 4 D ca ad A 0 0 (MQ below (Qi D ca ad A r0 σ0) args s 0 0 A) σ 82 [some (.ref (ad t)), none, none, none] []) {x3 : Int} {σ : Mem} (hf : f_X4_addMark_52 t u1 x3 σ = some o) : G p l e rm_X4_addMark s m args below meth c 4 D ca ad A 0 0 (MQ below (Qi D ca ad A r0 σ0) args s 0 0 A) σ 52 [some (.ref (ad t)), some (.ref (ad u1)), none, some (.int (iI x3))] [] := by
  unfold f_X4_addMark_52 at hf
  refine g_iload_n (i := 3) C dX4_addMark_52 rfl rfl ?_
  refine g_aload_n (i := 0) C dX4_addMark_53 rfl rfl ?_
  refine gg_X4_sorts (i := 2) C ht hiX4_addMark_X4 rfl dX4_addMark_54 ?_
  refine g_icmp_ge (tgt := 82) C dX4_addMark_57 (by decide) rfl rfl (fun c8 => ?_) (fun c8 => ?_)
  · have hf := if_t c8 hf
    exact g_mask [true, false, false, false] (he _ (Option.some.inj hf).symm)
  · have hf := if_f c8 hf
    refine g_aload_n (i := 0) C dX4_addMark_60 rfl rfl ?_
    refine gg_X4_cost (i := 5) C ht rfl hiX4_addMark_X4 rfl dX4_addMark_61 ?_
    refine g_aload_n (i := 0) C dX4_addMark_64 rfl rfl ?_
    refine gg_X4_marks (i := 1) C ht hiX4_addMark_X4 rfl dX4_addMark_65 ?_
    obtain ⟨hb9, hf⟩ := if_inv hf
    refine g_aaload C (Or.inr ⟨(mk_cost ht), rfl, hb9⟩) dX4_addMark_68 rfl ?_
    refine g_iload_n (i := 3) C dX4_addMark_69 rfl rfl ?_
    refine g_aload_n (i := 1) C dX4_addMark_70 rfl rfl ?_
    refine g_iconst C dX4_addMark_71 ?_
    refine g_iload_n (i := 3) C dX4_addMark_72 rfl rfl ?_
    refine g_iadd C dX4_addMark_73 ?_
    obtain ⟨hb10, hf⟩ := if_inv hf
    refine g_iaload (N := 5) C hu1 dX4_addMark_74 rfl hb10 ?_
    obtain ⟨hb11, hf⟩ := if_inv hf
    refine g_iastore (N := 4) C (kI_row (mk_cost ht) hb9) dX4_addMark_75 rfl hb11 ?_
    refine g_iinc C dX4_addMark_76 rfl (by decide) rfl ?_
    refine g_goto (tgt := 52) C dX4_addMark_79 (by decide) ?_
    exact g_mask [true, true, false, true] (hc _ _ (Option.some.inj hf).symm)
set_option maxHeartbeats 4000000 in
set_option maxRecDepth 100000 in
theorem w_X4_addMark_52 (C : Cx p s m args c cX4_addMark 4 RX4 wsX4_addMark D ca A) (hr : meth.sig.returnType = (some .boolean)) (hlk : meth.locks = false) {t : Int} (ht : isMkt t) {u1 : Int} (hu1 : kI 5 u1) {n : Nat} {x3 : Int} {σ : Mem} {b : (Mem)} (h : itr (fun z : Int × Mem => f_X4_addMark_52 t u1 z.1 z.2) n (x3, σ) = some b) (he : ∀ (σ : Mem), b = σ → G p l e rm_X4_addMark s m args below meth c 4 D ca ad A 0 0 (MQ below (Qi D ca ad A r0 σ0) args s 0 0 A) σ 82 [some (.ref (ad t)), none, none, none] []) : G p l e rm_X4_addMark s m args below meth c 4 D ca ad A 0 0 (MQ below (Qi D ca ad A r0 σ0) args s 0 0 A) σ 52 [some (.ref (ad t)), some (.ref (ad u1)), none, some (.int (iI x3))] [] :=
  itr_rule (P := fun z : Int × Mem => G p l e rm_X4_addMark s m args below meth c 4 D ca ad A 0 0 (MQ below (Qi D ca ad A r0 σ0) args s 0 0 A) z.2 52 [some (.ref (ad t)), some (.ref (ad u1)), none, some (.int (iI z.1))] []) (E := fun b => ∀ (σ : Mem), b = σ → G p l e rm_X4_addMark s m args below meth c 4 D ca ad A 0 0 (MQ below (Qi D ca ad A r0 σ0) args s 0 0 A) σ 82 [some (.ref (ad t)), none, none, none] []) (fun z o hb hc he => it_X4_addMark_52 C hr hlk ht hu1 (fun _ _ e => hc _ e) (fun _ e => (he _ e) _ rfl) hb) n _ _ h he
set_option maxHeartbeats 4000000 in
set_option maxRecDepth 100000 in
theorem c_X4_addMark {t : Int} (ht : isMkt t) {u1 : Int} (hu1 : kI 5 u1) {v2 : Int} {σ : Mem} (hf : f_X4_addMark t u1 v2 σ = some (r0, σ0)) : CTi l D ca ad A yX4_addMark wsX4_addMark rm_X4_addMark [.ref (ad t), .ref (ad u1), .int (iI v2)] σ r0 σ0 := by
  refine ct_i (cc := cX4_addMark) (own := RX4) (maxL := 4) (ret := (some .boolean)) (lv0 := [some (.ref (ad t)), some (.ref (ad u1)), some (.int (iI v2)), none]) (by decide) rfl rfl rfl (Nat.le_of_ble_eq_true rfl) ?_
  intro p e s m below meth c C hr hlk hnm
  unfold f_X4_addMark at hf
  refine g_aload_n (i := 0) C dX4_addMark_0 rfl rfl ?_
  refine gg_X4_marks (i := 1) C ht hiX4_addMark_X4 rfl dX4_addMark_1 ?_
  refine g_iconst C dX4_addMark_4 ?_
  refine g_icmp_eq (b' := 4) (tgt := 26) C dX4_addMark_5 (by decide) rfl (by decide) (fun c1 => ?_) (fun c1 => ?_)
  · have hf := if_t c1 hf
    refine g_iconst C dX4_addMark_26 ?_
    obtain ⟨e1, e2⟩ := some_inv hf
    exact g_zret C hr hlk (by decide) e1 e2 dX4_addMark_27
  · have hf := if_f c1 hf
    refine g_aload_n (i := 1) C dX4_addMark_8 rfl rfl ?_
    refine g_iconst C dX4_addMark_9 ?_
    refine g_iaload (N := 5) (j := 0) C hu1 dX4_addMark_10 (by decide) (by decide) ?_
    refine g_bipush C dX4_addMark_11 (by decide) ?_
    refine g_icmp_gt (b' := 99) (tgt := 26) C dX4_addMark_13 (by decide) rfl (by decide) (fun c2 => ?_) (fun c2 => ?_)
    · have hf := if_t c2 hf
      refine g_iconst C dX4_addMark_26 ?_
      obtain ⟨e1, e2⟩ := some_inv hf
      exact g_zret C hr hlk (by decide) e1 e2 dX4_addMark_27
    · have hf := if_f c2 hf
      refine g_iload_n (i := 2) C dX4_addMark_16 rfl rfl ?_
      refine g_iconst C dX4_addMark_17 ?_
      refine g_aload_n (i := 0) C dX4_addMark_18 rfl rfl ?_
      refine gg_X4_sorts (i := 2) C ht hiX4_addMark_X4 rfl dX4_addMark_19 ?_
      refine g_iadd C dX4_addMark_22 ?_
      refine g_icmp_eq (tgt := 28) C dX4_addMark_23 (by decide) rfl rfl (fun c3 => ?_) (fun c3 => ?_)
      · have hf := if_t c3 hf
        refine g_aload_n (i := 0) C dX4_addMark_28 rfl rfl ?_
        refine gg_X4_use (i := 3) C ht rfl hiX4_addMark_X4 rfl dX4_addMark_29 ?_
        refine g_aload_n (i := 0) C dX4_addMark_32 rfl rfl ?_
        refine gg_X4_marks (i := 1) C ht hiX4_addMark_X4 rfl dX4_addMark_33 ?_
        refine g_aload_n (i := 1) C dX4_addMark_36 rfl rfl ?_
        refine g_iconst C dX4_addMark_37 ?_
        refine g_iaload (N := 5) (j := 0) C hu1 dX4_addMark_38 (by decide) (by decide) ?_
        obtain ⟨hb4, hf⟩ := if_inv hf
        refine g_iastore (N := 4) C (mk_arr4 ht) dX4_addMark_39 rfl hb4 ?_
        refine g_aload_n (i := 0) C dX4_addMark_40 rfl rfl ?_
        refine gg_X4_told (i := 4) C ht rfl hiX4_addMark_X4 rfl dX4_addMark_41 ?_
        refine g_aload_n (i := 0) C dX4_addMark_44 rfl rfl ?_
        refine gg_X4_marks (i := 1) C ht hiX4_addMark_X4 rfl dX4_addMark_45 ?_
        refine g_iconst C dX4_addMark_48 ?_
        obtain ⟨hb6, hf⟩ := if_inv hf
        refine g_iastore (N := 4) C (mk_arr5 ht) dX4_addMark_49 rfl hb6 ?_
        refine g_iconst C dX4_addMark_50 ?_
        refine g_istore_n (i := 3) C dX4_addMark_51 rfl (by decide) rfl ?_
        obtain ⟨q13, hl14, hf⟩ := lb_inv hf
        refine g_mask [true, true, false, true] (w_X4_addMark_52 C hr hlk ht hu1 hl14 ?_)
        · rintro σ15 rfl
          refine g_aload_n (i := 0) C dX4_addMark_82 rfl rfl ?_
          refine g_dup C dX4_addMark_83 rfl ?_
          refine gg_X4_marks (i := 1) C ht hiX4_addMark_X4 rfl dX4_addMark_84 ?_
          refine g_iconst C dX4_addMark_87 ?_
          refine g_iadd C dX4_addMark_88 ?_
          refine gp_X4_marks (i := 1) C ht hiX4_addMark_X4 rfl dX4_addMark_89 ?_
          refine g_iconst C dX4_addMark_92 ?_
          obtain ⟨e1, e2⟩ := some_inv hf
          exact g_zret C hr hlk (by decide) e1 e2 dX4_addMark_93
      · have hf := if_f c3 hf
        refine g_iconst C dX4_addMark_26 ?_
        obtain ⟨e1, e2⟩ := some_inv hf
        exact g_zret C hr hlk (by decide) e1 e2 dX4_addMark_27
/-! X4_tell -/
abbrev rm_X4_tell : Room := { frames := 1, cells := 0, slots := 0, locals := 21 }
theorem hiX4_tell_X4 : ∀ w ∈ u_ws RX4 TX4 9, w ∈ wsX4_tell := fun _ h => (List.mem_cons_of_mem _ (List.mem_append_right _ h))
set_option maxHeartbeats 4000000 in
set_option maxRecDepth 100000 in
theorem c_X4_tell {t : Int} (ht : isMkt t) {v1 v2 : Int} {σ : Mem} (hf : f_X4_tell t v1 v2 σ = some (r0, σ0)) : CTi l D ca ad A yX4_tell wsX4_tell rm_X4_tell [.ref (ad t), .int (iI v1), .int (iI v2)] σ r0 σ0 := by
  refine ct_i (cc := cX4_tell) (own := RX4) (maxL := 3) (ret := (some .boolean)) (lv0 := [some (.ref (ad t)), some (.int (iI v1)), some (.int (iI v2))]) (by decide) rfl rfl rfl (Nat.le_of_ble_eq_true rfl) ?_
  intro p e s m below meth c C hr hlk hnm
  unfold f_X4_tell at hf
  refine g_aload_n (i := 0) C dX4_tell_0 rfl rfl ?_
  refine g_iload_n (i := 1) C dX4_tell_1 rfl rfl ?_
  obtain ⟨r2, σ1, h3, hf⟩ := ob_inv hf
  refine g_callVi C (c_X4_hasMark ht h3) (cwV 1 C.2.2.2.2.1 gX4_tell_X4_hasMark rfl rfl rfl (by decide +kernel) ⟨Nat.le_of_ble_eq_true rfl, Nat.le_of_ble_eq_true rfl⟩) (ob_X4 ht) rfl rfl rfl rfl (Nat.le_of_ble_eq_true rfl) dX4_tell_2 ⟨Nat.zero_le _, Nat.zero_le _⟩ ?_
  refine g_if_eq (tgt := 16) C dX4_tell_5 (by decide) rfl (fun c4 => ?_) (fun c4 => ?_)
  · have hf := if_t c4 hf
    refine g_iconst C dX4_tell_16 ?_
    obtain ⟨e1, e2⟩ := some_inv hf
    exact g_zret C hr hlk (by decide) e1 e2 dX4_tell_17
  · have hf := if_f c4 hf
    refine g_aload_n (i := 0) C dX4_tell_8 rfl rfl ?_
    refine g_iload_n (i := 2) C dX4_tell_9 rfl rfl ?_
    obtain ⟨r6, σ5, h7, hf⟩ := ob_inv hf
    refine g_callVi C (c_X4_hasSort ht h7) (cwV 1 C.2.2.2.2.1 gX4_tell_X4_hasSort rfl rfl rfl (by decide +kernel) ⟨Nat.le_of_ble_eq_true rfl, Nat.le_of_ble_eq_true rfl⟩) (ob_X4 ht) rfl rfl rfl rfl (Nat.le_of_ble_eq_true rfl) dX4_tell_10 ⟨Nat.zero_le _, Nat.zero_le _⟩ ?_
    refine g_if_ne (tgt := 18) C dX4_tell_13 (by decide) rfl (fun c8 => ?_) (fun c8 => ?_)
    · have hf := if_f c8 hf
      refine g_aload_n (i := 0) C dX4_tell_18 rfl rfl ?_
      refine gg_X4_told (i := 1) C ht rfl hiX4_tell_X4 rfl dX4_tell_19 ?_
      refine g_iload_n (i := 1) C dX4_tell_22 rfl rfl ?_
      refine g_iload_n (i := 2) C dX4_tell_23 rfl rfl ?_
      obtain ⟨hb9, hf⟩ := if_inv hf
      refine g_iastore (N := 4) C (mk_arr5 ht) dX4_tell_24 rfl hb9 ?_
      refine g_iconst C dX4_tell_25 ?_
      obtain ⟨e1, e2⟩ := some_inv hf
      exact g_zret C hr hlk (by decide) e1 e2 dX4_tell_26
    · have hf := if_t c8 hf
      refine g_iconst C dX4_tell_16 ?_
      obtain ⟨e1, e2⟩ := some_inv hf
      exact g_zret C hr hlk (by decide) e1 e2 dX4_tell_17
/-! X4_join -/
abbrev rm_X4_join : Room := { frames := 1, cells := 0, slots := 0, locals := 15 }
theorem hiX4_join_X4 : ∀ w ∈ u_ws RX4 TX4 9, w ∈ wsX4_join := fun _ h => (List.mem_cons_of_mem _ (List.mem_append_right _ h))
set_option maxHeartbeats 4000000 in
set_option maxRecDepth 100000 in
theorem it_X4_join_50 (C : Cx p s m args c cX4_join 4 RX4 wsX4_join D ca A) (hr : meth.sig.returnType = (some .int)) (hlk : meth.locks = false) {t : Int} (ht : isMkt t) {p1 p2 : Int} {o : (Int × Mem) ⊕ (Mem)} (hc : ∀ (x3 : Int) (σ : Mem), o = .inl (x3, σ) → G p l e rm_X4_join s m args below meth c 4 D ca ad A 0 0 (MQ below (Qi D ca ad A r0 σ0) args s 0 0 A) σ 50 [some (.ref (ad t)), some (.int (iI p1)), some (.int (iI p2)), some (.int (iI x3))] []) (he : ∀ (σ : Mem), o = .inr σ → G p l e rm_X4_join s m args below meth c 4 D ca ad A 0 0 (MQ below (Qi D ca ad A r0 σ0) args s 0 0 A) σ 98 [some (.ref (ad t)), none, none, none] []) {x3 : Int} {σ : Mem} (hf : f_X4_join_50 t p1 p2 x3 σ = some o) : G p l e rm_X4_join s m args below meth c 4 D ca ad A 0 0 (MQ below (Qi D ca ad A r0 σ0) args s 0 0 A) σ 50 [some (.ref (ad t)), some (.int (iI p1)), some (.int (iI p2)), some (.int (iI x3))] [] := by
  unfold f_X4_join_50 at hf
  refine g_iload_n (i := 3) C dX4_join_50 rfl rfl ?_
  refine g_aload_n (i := 0) C dX4_join_51 rfl rfl ?_
  refine gg_X4_sorts (i := 8) C ht hiX4_join_X4 rfl dX4_join_52 ?_
  refine g_icmp_ge (tgt := 98) C dX4_join_55 (by decide) rfl rfl (fun c8 => ?_) (fun c8 => ?_)
  · have hf := if_t c8 hf
    exact g_mask [true, false, false, false] (he _ (Option.some.inj hf).symm)
  · have hf := if_f c8 hf
    refine g_aload_n (i := 0) C dX4_join_58 rfl rfl ?_
    refine gg_X4_cost (i := 9) C ht rfl hiX4_join_X4 rfl dX4_join_59 ?_
    refine g_aload_n (i := 0) C dX4_join_62 rfl rfl ?_
    refine gg_X4_marks (i := 1) C ht hiX4_join_X4 rfl dX4_join_63 ?_
    obtain ⟨hb9, hf⟩ := if_inv hf
    refine g_aaload C (Or.inr ⟨(mk_cost ht), rfl, hb9⟩) dX4_join_66 rfl ?_
    refine g_iload_n (i := 3) C dX4_join_67 rfl rfl ?_
    refine g_sipush C dX4_join_68 (by decide) ?_
    refine g_aload_n (i := 0) C dX4_join_71 rfl rfl ?_
    refine gg_X4_cost (i := 9) C ht rfl hiX4_join_X4 rfl dX4_join_72 ?_
    refine g_iload_n (i := 1) C dX4_join_75 rfl rfl ?_
    obtain ⟨hb10, hf⟩ := if_inv hf
    refine g_aaload C (Or.inr ⟨(mk_cost ht), rfl, hb10⟩) dX4_join_76 rfl ?_
    refine g_iload_n (i := 3) C dX4_join_77 rfl rfl ?_
    obtain ⟨hb11, hf⟩ := if_inv hf
    refine g_iaload (N := 4) C (kI_row (mk_cost ht) hb10) dX4_join_78 rfl hb11 ?_
    refine g_aload_n (i := 0) C dX4_join_79 rfl rfl ?_
    refine gg_X4_cost (i := 9) C ht rfl hiX4_join_X4 rfl dX4_join_80 ?_
    refine g_iload_n (i := 2) C dX4_join_83 rfl rfl ?_
    obtain ⟨hb12, hf⟩ := if_inv hf
    refine g_aaload C (Or.inr ⟨(mk_cost ht), rfl, hb12⟩) dX4_join_84 rfl ?_
    refine g_iload_n (i := 3) C dX4_join_85 rfl rfl ?_
    refine g_iaload (N := 4) C (kI_row (mk_cost ht) hb12) dX4_join_86 rfl hb11 ?_
    refine g_iadd C dX4_join_87 ?_
    refine g_min (i1 := 3) (i2 := 4) (i3 := 5) (i4 := 6) C rfl rfl rfl rfl (by decide) (Nat.le_of_ble_eq_true rfl) ⟨Nat.zero_le _, Nat.zero_le _⟩ dX4_join_88 ?_
    refine g_iastore (N := 4) C (kI_row (mk_cost ht) hb9) dX4_join_91 rfl hb11 ?_
    refine g_iinc C dX4_join_92 rfl (by decide) rfl ?_
    refine g_goto (tgt := 50) C dX4_join_95 (by decide) ?_
    exact g_mask [true, true, true, true] (hc _ _ (Option.some.inj hf).symm)
set_option maxHeartbeats 4000000 in
set_option maxRecDepth 100000 in
theorem w_X4_join_50 (C : Cx p s m args c cX4_join 4 RX4 wsX4_join D ca A) (hr : meth.sig.returnType = (some .int)) (hlk : meth.locks = false) {t : Int} (ht : isMkt t) {p1 p2 : Int} {n : Nat} {x3 : Int} {σ : Mem} {b : (Mem)} (h : itr (fun z : Int × Mem => f_X4_join_50 t p1 p2 z.1 z.2) n (x3, σ) = some b) (he : ∀ (σ : Mem), b = σ → G p l e rm_X4_join s m args below meth c 4 D ca ad A 0 0 (MQ below (Qi D ca ad A r0 σ0) args s 0 0 A) σ 98 [some (.ref (ad t)), none, none, none] []) : G p l e rm_X4_join s m args below meth c 4 D ca ad A 0 0 (MQ below (Qi D ca ad A r0 σ0) args s 0 0 A) σ 50 [some (.ref (ad t)), some (.int (iI p1)), some (.int (iI p2)), some (.int (iI x3))] [] :=
  itr_rule (P := fun z : Int × Mem => G p l e rm_X4_join s m args below meth c 4 D ca ad A 0 0 (MQ below (Qi D ca ad A r0 σ0) args s 0 0 A) z.2 50 [some (.ref (ad t)), some (.int (iI p1)), some (.int (iI p2)), some (.int (iI z.1))] []) (E := fun b => ∀ (σ : Mem), b = σ → G p l e rm_X4_join s m args below meth c 4 D ca ad A 0 0 (MQ below (Qi D ca ad A r0 σ0) args s 0 0 A) σ 98 [some (.ref (ad t)), none, none, none] []) (fun z o hb hc he => it_X4_join_50 C hr hlk ht (fun _ _ e => hc _ e) (fun _ e => (he _ e) _ rfl) hb) n _ _ h he
set_option maxHeartbeats 4000000 in
set_option maxRecDepth 100000 in
theorem c_X4_join {t : Int} (ht : isMkt t) {v1 v2 : Int} {σ : Mem} (hf : f_X4_join t v1 v2 σ = some (r0, σ0)) : CTi l D ca ad A yX4_join wsX4_join rm_X4_join [.ref (ad t), .int (iI v1), .int (iI v2)] σ r0 σ0 := by
  refine ct_i (cc := cX4_join) (own := RX4) (maxL := 4) (ret := (some .int)) (lv0 := [some (.ref (ad t)), some (.int (iI v1)), some (.int (iI v2)), none]) (by decide) rfl rfl rfl (Nat.le_of_ble_eq_true rfl) ?_
  intro p e s m below meth c C hr hlk hnm
  unfold f_X4_join at hf
  refine g_aload_n (i := 0) C dX4_join_0 rfl rfl ?_
  refine gg_X4_marks (i := 1) C ht hiX4_join_X4 rfl dX4_join_1 ?_
  refine g_iconst C dX4_join_4 ?_
  refine g_icmp_ne (b' := 4) (tgt := 11) C dX4_join_5 (by decide) rfl (by decide) (fun c1 => ?_) (fun c1 => ?_)
  · have hf := if_f c1 hf
    refine g_aload_n (i := 0) C dX4_join_11 rfl rfl ?_
    refine gg_X4_use (i := 2) C ht rfl hiX4_join_X4 rfl dX4_join_12 ?_
    refine g_aload_n (i := 0) C dX4_join_15 rfl rfl ?_
    refine gg_X4_marks (i := 1) C ht hiX4_join_X4 rfl dX4_join_16 ?_
    refine g_bipush C dX4_join_19 (by decide) ?_
    refine g_aload_n (i := 0) C dX4_join_21 rfl rfl ?_
    refine gg_X4_use (i := 2) C ht rfl hiX4_join_X4 rfl dX4_join_22 ?_
    refine g_iload_n (i := 1) C dX4_join_25 rfl rfl ?_
    obtain ⟨hb2, hf⟩ := if_inv hf
    refine g_iaload (N := 4) C (mk_arr4 ht) dX4_join_26 rfl hb2 ?_
    refine g_aload_n (i := 0) C dX4_join_27 rfl rfl ?_
    refine gg_X4_use (i := 2) C ht rfl hiX4_join_X4 rfl dX4_join_28 ?_
    refine g_iload_n (i := 2) C dX4_join_31 rfl rfl ?_
    obtain ⟨hb3, hf⟩ := if_inv hf
    refine g_iaload (N := 4) C (mk_arr4 ht) dX4_join_32 rfl hb3 ?_
    refine g_iadd C dX4_join_33 ?_
    refine g_min (i1 := 3) (i2 := 4) (i3 := 5) (i4 := 6) C rfl rfl rfl rfl (by decide) (Nat.le_of_ble_eq_true rfl) ⟨Nat.zero_le _, Nat.zero_le _⟩ dX4_join_34 ?_
    obtain ⟨hb4, hf⟩ := if_inv hf
    refine g_iastore (N := 4) C (mk_arr4 ht) dX4_join_37 rfl hb4 ?_
    refine g_aload_n (i := 0) C dX4_join_38 rfl rfl ?_
    refine gg_X4_told (i := 7) C ht rfl hiX4_join_X4 rfl dX4_join_39 ?_
    refine g_aload_n (i := 0) C dX4_join_42 rfl rfl ?_
    refine gg_X4_marks (i := 1) C ht hiX4_join_X4 rfl dX4_join_43 ?_
    refine g_iconst C dX4_join_46 ?_
    obtain ⟨hb6, hf⟩ := if_inv hf
    refine g_iastore (N := 4) C (mk_arr5 ht) dX4_join_47 rfl hb6 ?_
    refine g_iconst C dX4_join_48 ?_
    refine g_istore_n (i := 3) C dX4_join_49 rfl (by decide) rfl ?_
    obtain ⟨q14, hl15, hf⟩ := lb_inv hf
    refine g_mask [true, true, true, true] (w_X4_join_50 C hr hlk ht hl15 ?_)
    · rintro σ16 rfl
      refine g_aload_n (i := 0) C dX4_join_98 rfl rfl ?_
      refine g_dup C dX4_join_99 rfl ?_
      refine gg_X4_marks (i := 1) C ht hiX4_join_X4 rfl dX4_join_100 ?_
      refine g_iconst C dX4_join_103 ?_
      refine g_iadd C dX4_join_104 ?_
      refine gp_X4_marks (i := 1) C ht hiX4_join_X4 rfl dX4_join_105 ?_
      refine g_aload_n (i := 0) C dX4_join_108 rfl rfl ?_
      refine gg_X4_marks (i := 1) C ht hiX4_join_X4 rfl dX4_join_109 ?_
      refine g_iconst C dX4_join_112 ?_
      refine g_isub C dX4_join_113 ?_
      obtain ⟨e1, e2⟩ := some_inv hf
      exact g_iret C hr hlk e1 e2 dX4_join_114
  · have hf := if_t c1 hf
    refine g_bipush C dX4_join_8 (by decide) ?_
    obtain ⟨e1, e2⟩ := some_inv hf
    exact g_iret C hr hlk e1 e2 dX4_join_10
/-! X4_isWhole -/
abbrev rm_X4_isWhole : Room := { frames := 0, cells := 0, slots := 0, locals := 0 }
theorem hiX4_isWhole_X4 : ∀ w ∈ u_ws RX4 TX4 9, w ∈ wsX4_isWhole := fun _ h => (List.mem_cons_of_mem _ (List.mem_append_right _ h))
set_option maxHeartbeats 4000000 in
set_option maxRecDepth 100000 in
theorem it_X4_isWhole_4 (C : Cx p s m args c cX4_isWhole 3 RX4 wsX4_isWhole D ca A) (hr : meth.sig.returnType = (some .boolean)) (hlk : meth.locks = false) {t : Int} (ht : isMkt t) {o : (Int × Int × Mem) ⊕ (Int × Mem)} (hc : ∀ (x1 x2 : Int) (σ : Mem), o = .inl (x1, x2, σ) → G p l e rm_X4_isWhole s m args below meth c 3 D ca ad A 0 0 (MQ below (Qi D ca ad A r0 σ0) args s 0 0 A) σ 4 [some (.ref (ad t)), some (.int (iI x1)), some (.int (iI x2))] []) (he : ∀ (y1 : Int) (σ : Mem), o = .inr (y1, σ) → G p l e rm_X4_isWhole s m args below meth c 3 D ca ad A 0 0 (MQ below (Qi D ca ad A r0 σ0) args s 0 0 A) σ 27 [some (.ref (ad t)), some (.int (iI y1)), none] []) {x1 x2 : Int} {σ : Mem} (hf : f_X4_isWhole_4 t x1 x2 σ = some o) : G p l e rm_X4_isWhole s m args below meth c 3 D ca ad A 0 0 (MQ below (Qi D ca ad A r0 σ0) args s 0 0 A) σ 4 [some (.ref (ad t)), some (.int (iI x1)), some (.int (iI x2))] [] := by
  unfold f_X4_isWhole_4 at hf
  refine g_iload_n (i := 2) C dX4_isWhole_4 rfl rfl ?_
  refine g_aload_n (i := 0) C dX4_isWhole_5 rfl rfl ?_
  refine gg_X4_sorts (i := 1) C ht hiX4_isWhole_X4 rfl dX4_isWhole_6 ?_
  refine g_icmp_ge (tgt := 27) C dX4_isWhole_9 (by decide) rfl rfl (fun c1 => ?_) (fun c1 => ?_)
  · have hf := if_t c1 hf
    exact g_mask [true, true, false] (he _ _ (Option.some.inj hf).symm)
  · have hf := if_f c1 hf
    refine g_iload_n (i := 1) C dX4_isWhole_12 rfl rfl ?_
    refine g_aload_n (i := 0) C dX4_isWhole_13 rfl rfl ?_
    refine gg_X4_chance (i := 2) C ht rfl hiX4_isWhole_X4 rfl dX4_isWhole_14 ?_
    refine g_iload_n (i := 2) C dX4_isWhole_17 rfl rfl ?_
    obtain ⟨hb2, hf⟩ := if_inv hf
    refine g_iaload (N := 4) C (mk_arr1 ht) dX4_isWhole_18 rfl hb2 ?_
    refine g_iadd C dX4_isWhole_19 ?_
    refine g_istore_n (i := 1) C dX4_isWhole_20 rfl (by decide) rfl ?_
    refine g_iinc C dX4_isWhole_21 rfl (by decide) rfl ?_
    refine g_goto (tgt := 4) C dX4_isWhole_24 (by decide) ?_
    exact g_mask [true, true, true] (hc _ _ _ (Option.some.inj hf).symm)
set_option maxHeartbeats 4000000 in
set_option maxRecDepth 100000 in
theorem w_X4_isWhole_4 (C : Cx p s m args c cX4_isWhole 3 RX4 wsX4_isWhole D ca A) (hr : meth.sig.returnType = (some .boolean)) (hlk : meth.locks = false) {t : Int} (ht : isMkt t) {n : Nat} {x1 x2 : Int} {σ : Mem} {b : (Int × Mem)} (h : itr (fun z : Int × Int × Mem => f_X4_isWhole_4 t z.1 z.2.1 z.2.2) n (x1, x2, σ) = some b) (he : ∀ (y1 : Int) (σ : Mem), b = (y1, σ) → G p l e rm_X4_isWhole s m args below meth c 3 D ca ad A 0 0 (MQ below (Qi D ca ad A r0 σ0) args s 0 0 A) σ 27 [some (.ref (ad t)), some (.int (iI y1)), none] []) : G p l e rm_X4_isWhole s m args below meth c 3 D ca ad A 0 0 (MQ below (Qi D ca ad A r0 σ0) args s 0 0 A) σ 4 [some (.ref (ad t)), some (.int (iI x1)), some (.int (iI x2))] [] :=
  itr_rule (P := fun z : Int × Int × Mem => G p l e rm_X4_isWhole s m args below meth c 3 D ca ad A 0 0 (MQ below (Qi D ca ad A r0 σ0) args s 0 0 A) z.2.2 4 [some (.ref (ad t)), some (.int (iI z.1)), some (.int (iI z.2.1))] []) (E := fun b => ∀ (y1 : Int) (σ : Mem), b = (y1, σ) → G p l e rm_X4_isWhole s m args below meth c 3 D ca ad A 0 0 (MQ below (Qi D ca ad A r0 σ0) args s 0 0 A) σ 27 [some (.ref (ad t)), some (.int (iI y1)), none] []) (fun z o hb hc he => it_X4_isWhole_4 C hr hlk ht (fun _ _ _ e => hc _ e) (fun _ _ e => (he _ e) _ _ rfl) hb) n _ _ h he
set_option maxHeartbeats 4000000 in
set_option maxRecDepth 100000 in
theorem c_X4_isWhole {t : Int} (ht : isMkt t) {σ : Mem} (hf : f_X4_isWhole t σ = some (r0, σ0)) : CTi l D ca ad A yX4_isWhole wsX4_isWhole rm_X4_isWhole [.ref (ad t)] σ r0 σ0 := by
  refine ct_i (cc := cX4_isWhole) (own := RX4) (maxL := 3) (ret := (some .boolean)) (lv0 := [some (.ref (ad t)), none, none]) (by decide) rfl rfl rfl (Nat.le_of_ble_eq_true rfl) ?_
  intro p e s m below meth c C hr hlk hnm
  unfold f_X4_isWhole at hf
  refine g_iconst C dX4_isWhole_0 ?_
  refine g_istore_n (i := 1) C dX4_isWhole_1 rfl (by decide) rfl ?_
  refine g_iconst C dX4_isWhole_2 ?_
  refine g_istore_n (i := 2) C dX4_isWhole_3 rfl (by decide) rfl ?_
  obtain ⟨q4, hl5, hf⟩ := lb_inv hf
  refine g_mask [true, true, true] (w_X4_isWhole_4 C hr hlk ht hl5 ?_)
  · rintro y6 σ7 rfl
    refine g_iload_n (i := 1) C dX4_isWhole_27 rfl rfl ?_
    refine g_bipush C dX4_isWhole_28 (by decide) ?_
    refine g_icmp_ne (b' := 100) (tgt := 44) C dX4_isWhole_30 (by decide) rfl (by decide) (fun c8 => ?_) (fun c8 => ?_)
    · have hf := if_f c8 hf
      refine g_iconst C dX4_isWhole_44 ?_
      obtain ⟨e1, e2⟩ := some_inv hf
      exact g_zret C hr hlk (by decide) e1 e2 dX4_isWhole_45
    · have hf := if_t c8 hf
      refine g_aload_n (i := 0) C dX4_isWhole_33 rfl rfl ?_
      refine gg_X4_marks (i := 3) C ht hiX4_isWhole_X4 rfl dX4_isWhole_34 ?_
      refine g_if_le (tgt := 44) C dX4_isWhole_37 (by decide) rfl (fun c9 => ?_) (fun c9 => ?_)
      · have hf := if_t c9 hf
        refine g_iconst C dX4_isWhole_44 ?_
        obtain ⟨e1, e2⟩ := some_inv hf
        exact g_zret C hr hlk (by decide) e1 e2 dX4_isWhole_45
      · have hf := if_f c9 hf
        refine g_iconst C dX4_isWhole_40 ?_
        refine g_goto (tgt := 45) C dX4_isWhole_41 (by decide) ?_
        obtain ⟨e1, e2⟩ := some_inv hf
        exact g_zret C hr hlk (by decide) e1 e2 dX4_isWhole_45
/-! X4_moveChance -/
abbrev rm_X4_moveChance : Room := { frames := 0, cells := 0, slots := 0, locals := 0 }
theorem hiX4_moveChance_X4 : ∀ w ∈ u_ws RX4 TX4 9, w ∈ wsX4_moveChance := fun _ h => (List.mem_cons_of_mem _ (List.mem_append_right _ h))
set_option maxHeartbeats 4000000 in
set_option maxRecDepth 100000 in
theorem c_X4_moveChance {t : Int} (ht : isMkt t) {v1 v2 v3 : Int} {σ : Mem} (hf : f_X4_moveChance t v1 v2 v3 σ = some (r0, σ0)) : CTv l D ca ad A yX4_moveChance wsX4_moveChance rm_X4_moveChance [.ref (ad t), .int (iI v1), .int (iI v2), .int (iI v3)] σ σ0 := by
  refine ct_v (cc := cX4_moveChance) (own := RX4) (maxL := 4) (ret := none) (lv0 := [some (.ref (ad t)), some (.int (iI v1)), some (.int (iI v2)), some (.int (iI v3))]) (by decide) rfl rfl rfl (Nat.le_of_ble_eq_true rfl) ?_
  intro p e s m below meth c C hr hlk hnm
  unfold f_X4_moveChance at hf
  refine g_aload_n (i := 0) C dX4_moveChance_0 rfl rfl ?_
  refine gg_X4_chance (i := 1) C ht rfl hiX4_moveChance_X4 rfl dX4_moveChance_1 ?_
  refine g_iload_n (i := 1) C dX4_moveChance_4 rfl rfl ?_
  refine g_dup2 C dX4_moveChance_5 rfl rfl ?_
  obtain ⟨hb1, hf⟩ := if_inv hf
  refine g_iaload (N := 4) C (mk_arr1 ht) dX4_moveChance_6 rfl hb1 ?_
  refine g_iload_n (i := 3) C dX4_moveChance_7 rfl rfl ?_
  refine g_isub C dX4_moveChance_8 ?_
  refine g_iastore (N := 4) C (mk_arr1 ht) dX4_moveChance_9 rfl hb1 ?_
  refine g_aload_n (i := 0) C dX4_moveChance_10 rfl rfl ?_
  refine gg_X4_chance (i := 1) C ht rfl hiX4_moveChance_X4 rfl dX4_moveChance_11 ?_
  refine g_iload_n (i := 2) C dX4_moveChance_14 rfl rfl ?_
  refine g_dup2 C dX4_moveChance_15 rfl rfl ?_
  obtain ⟨hb3, hf⟩ := if_inv hf
  refine g_iaload (N := 4) C (mk_arr1 ht) dX4_moveChance_16 rfl hb3 ?_
  refine g_iload_n (i := 3) C dX4_moveChance_17 rfl rfl ?_
  refine g_iadd C dX4_moveChance_18 ?_
  refine g_iastore (N := 4) C (mk_arr1 ht) dX4_moveChance_19 rfl hb3 ?_
  obtain ⟨e1, e2⟩ := some_inv hf
  exact g_vret C hr hlk e2 dX4_moveChance_20
/-! X4_sortDrawn -/
abbrev rm_X4_sortDrawn : Room := { frames := 0, cells := 0, slots := 0, locals := 0 }
theorem hiX4_sortDrawn_X4 : ∀ w ∈ u_ws RX4 TX4 9, w ∈ wsX4_sortDrawn := fun _ h => (List.mem_cons_of_mem _ (List.mem_append_right _ h))
set_option maxHeartbeats 4000000 in
set_option maxRecDepth 100000 in
theorem it_X4_sortDrawn_4 (C : Cx p s m args c cX4_sortDrawn 4 RX4 wsX4_sortDrawn D ca A) (hr : meth.sig.returnType = (some .int)) (hlk : meth.locks = false) {t : Int} (ht : isMkt t) {p1 : Int} {o : (Int × Int × Mem) ⊕ ((Int × Mem) ⊕ (Mem))} (hc : ∀ (x2 x3 : Int) (σ : Mem), o = .inl (x2, x3, σ) → G p l e rm_X4_sortDrawn s m args below meth c 4 D ca ad A 0 0 (MQ below (Qi D ca ad A r0 σ0) args s 0 0 A) σ 4 [some (.ref (ad t)), some (.int (iI p1)), some (.int (iI x2)), some (.int (iI x3))] []) (he1 : ∀ (r1 : Int) (σ1 : Mem), o = .inr (.inl (r1, σ1)) → r1 = r0 ∧ σ1 = σ0) (he2 : ∀ (σ : Mem), o = .inr (.inr σ) → G p l e rm_X4_sortDrawn s m args below meth c 4 D ca ad A 0 0 (MQ below (Qi D ca ad A r0 σ0) args s 0 0 A) σ 34 [none, none, none, none] []) {x2 x3 : Int} {σ : Mem} (hf : f_X4_sortDrawn_4 t p1 x2 x3 σ = some o) : G p l e rm_X4_sortDrawn s m args below meth c 4 D ca ad A 0 0 (MQ below (Qi D ca ad A r0 σ0) args s 0 0 A) σ 4 [some (.ref (ad t)), some (.int (iI p1)), some (.int (iI x2)), some (.int (iI x3))] [] := by
  unfold f_X4_sortDrawn_4 at hf
  refine g_iload_n (i := 3) C dX4_sortDrawn_4 rfl rfl ?_
  refine g_aload_n (i := 0) C dX4_sortDrawn_5 rfl rfl ?_
  refine gg_X4_sorts (i := 1) C ht hiX4_sortDrawn_X4 rfl dX4_sortDrawn_6 ?_
  refine g_icmp_ge (tgt := 34) C dX4_sortDrawn_9 (by decide) rfl rfl (fun c5 => ?_) (fun c5 => ?_)
  · have hf := if_t c5 hf
    exact g_mask [false, false, false, false] (he2 _ (Option.some.inj hf).symm)
  · have hf := if_f c5 hf
    refine g_iload_n (i := 2) C dX4_sortDrawn_12 rfl rfl ?_
    refine g_aload_n (i := 0) C dX4_sortDrawn_13 rfl rfl ?_
    refine gg_X4_chance (i := 2) C ht rfl hiX4_sortDrawn_X4 rfl dX4_sortDrawn_14 ?_
    refine g_iload_n (i := 3) C dX4_sortDrawn_17 rfl rfl ?_
    obtain ⟨hb6, hf⟩ := if_inv hf
    refine g_iaload (N := 4) C (mk_arr1 ht) dX4_sortDrawn_18 rfl hb6 ?_
    refine g_iadd C dX4_sortDrawn_19 ?_
    refine g_istore_n (i := 2) C dX4_sortDrawn_20 rfl (by decide) rfl ?_
    refine g_iload_n (i := 1) C dX4_sortDrawn_21 rfl rfl ?_
    refine g_iload_n (i := 2) C dX4_sortDrawn_22 rfl rfl ?_
    refine g_icmp_ge (tgt := 28) C dX4_sortDrawn_23 (by decide) rfl rfl (fun c8 => ?_) (fun c8 => ?_)
    · have hf := if_t c8 hf
      refine g_iinc C dX4_sortDrawn_28 rfl (by decide) rfl ?_
      refine g_goto (tgt := 4) C dX4_sortDrawn_31 (by decide) ?_
      exact g_mask [true, true, true, true] (hc _ _ _ (Option.some.inj hf).symm)
    · have hf := if_f c8 hf
      refine g_iload_n (i := 3) C dX4_sortDrawn_26 rfl rfl ?_
      obtain ⟨e1, e2⟩ := he1 _ _ (Option.some.inj hf).symm
      exact g_iret C hr hlk e1 e2 dX4_sortDrawn_27
set_option maxHeartbeats 4000000 in
set_option maxRecDepth 100000 in
theorem w_X4_sortDrawn_4 (C : Cx p s m args c cX4_sortDrawn 4 RX4 wsX4_sortDrawn D ca A) (hr : meth.sig.returnType = (some .int)) (hlk : meth.locks = false) {t : Int} (ht : isMkt t) {p1 : Int} {n : Nat} {x2 x3 : Int} {σ : Mem} {b : ((Int × Mem) ⊕ (Mem))} (h : itr (fun z : Int × Int × Mem => f_X4_sortDrawn_4 t p1 z.1 z.2.1 z.2.2) n (x2, x3, σ) = some b) (he1 : ∀ (r1 : Int) (σ1 : Mem), b = .inl (r1, σ1) → r1 = r0 ∧ σ1 = σ0) (he2 : ∀ (σ : Mem), b = .inr σ → G p l e rm_X4_sortDrawn s m args below meth c 4 D ca ad A 0 0 (MQ below (Qi D ca ad A r0 σ0) args s 0 0 A) σ 34 [none, none, none, none] []) : G p l e rm_X4_sortDrawn s m args below meth c 4 D ca ad A 0 0 (MQ below (Qi D ca ad A r0 σ0) args s 0 0 A) σ 4 [some (.ref (ad t)), some (.int (iI p1)), some (.int (iI x2)), some (.int (iI x3))] [] :=
  itr_rule (P := fun z : Int × Int × Mem => G p l e rm_X4_sortDrawn s m args below meth c 4 D ca ad A 0 0 (MQ below (Qi D ca ad A r0 σ0) args s 0 0 A) z.2.2 4 [some (.ref (ad t)), some (.int (iI p1)), some (.int (iI z.1)), some (.int (iI z.2.1))] []) (E := fun b => (∀ (r1 : Int) (σ1 : Mem), b = .inl (r1, σ1) → r1 = r0 ∧ σ1 = σ0) ∧ (∀ (σ : Mem), b = .inr σ → G p l e rm_X4_sortDrawn s m args below meth c 4 D ca ad A 0 0 (MQ below (Qi D ca ad A r0 σ0) args s 0 0 A) σ 34 [none, none, none, none] [])) (fun z o hb hc he => it_X4_sortDrawn_4 C hr hlk ht (fun _ _ _ e => hc _ e) (fun r1 σ1 e => (he _ e).1 r1 σ1 rfl) (fun _ e => (he _ e).2 _ rfl) hb) n _ _ h ⟨he1, he2⟩
set_option maxHeartbeats 4000000 in
set_option maxRecDepth 100000 in
theorem c_X4_sortDrawn {t : Int} (ht : isMkt t) {v1 : Int} {σ : Mem} (hf : f_X4_sortDrawn t v1 σ = some (r0, σ0)) : CTi l D ca ad A yX4_sortDrawn wsX4_sortDrawn rm_X4_sortDrawn [.ref (ad t), .int (iI v1)] σ r0 σ0 := by
  refine ct_i (cc := cX4_sortDrawn) (own := RX4) (maxL := 4) (ret := (some .int)) (lv0 := [some (.ref (ad t)), some (.int (iI v1)), none, none]) (by decide) rfl rfl rfl (Nat.le_of_ble_eq_true rfl) ?_
  intro p e s m below meth c C hr hlk hnm
  unfold f_X4_sortDrawn at hf
  refine g_iconst C dX4_sortDrawn_0 ?_
  refine g_istore_n (i := 2) C dX4_sortDrawn_1 rfl (by decide) rfl ?_
  refine g_iconst C dX4_sortDrawn_2 ?_
  refine g_istore_n (i := 3) C dX4_sortDrawn_3 rfl (by decide) rfl ?_
  obtain ⟨q9, hl10, hf⟩ := lb_inv hf
  refine g_mask [true, true, true, true] (w_X4_sortDrawn_4 C hr hlk ht hl10 ?_ ?_)
  · rintro r1 σ1 rfl
    exact some_inv hf
  · rintro σ11 rfl
    have hf := se_r hf
    refine g_iconst C dX4_sortDrawn_34 ?_
    obtain ⟨e1, e2⟩ := some_inv hf
    exact g_iret C hr hlk e1 e2 dX4_sortDrawn_35
/-! X4_leastWorth -/
abbrev rm_X4_leastWorth : Room := { frames := 1, cells := 0, slots := 0, locals := 13 }
theorem hiX4_leastWorth_X4 : ∀ w ∈ u_ws RX4 TX4 9, w ∈ wsX4_leastWorth := fun _ h => (List.mem_cons_of_mem _ (List.mem_append_right _ h))
set_option maxHeartbeats 4000000 in
set_option maxRecDepth 100000 in
theorem it_X4_leastWorth_6 (C : Cx p s m args c cX4_leastWorth 3 RX4 wsX4_leastWorth D ca A) (hr : meth.sig.returnType = (some .int)) (hlk : meth.locks = false) {t : Int} (ht : isMkt t) {o : (Int × Int × Mem) ⊕ (Int × Mem)} (hc : ∀ (x1 x2 : Int) (σ : Mem), o = .inl (x1, x2, σ) → G p l e rm_X4_leastWorth s m args below meth c 3 D ca ad A 0 0 (MQ below (Qi D ca ad A r0 σ0) args s 0 0 A) σ 6 [some (.ref (ad t)), some (.int (iI x1)), some (.int (iI x2))] []) (he : ∀ (y1 : Int) (σ : Mem), o = .inr (y1, σ) → G p l e rm_X4_leastWorth s m args below meth c 3 D ca ad A 0 0 (MQ below (Qi D ca ad A r0 σ0) args s 0 0 A) σ 31 [none, some (.int (iI y1)), none] []) {x1 x2 : Int} {σ : Mem} (hf : f_X4_leastWorth_6 t x1 x2 σ = some o) : G p l e rm_X4_leastWorth s m args below meth c 3 D ca ad A 0 0 (MQ below (Qi D ca ad A r0 σ0) args s 0 0 A) σ 6 [some (.ref (ad t)), some (.int (iI x1)), some (.int (iI x2))] [] := by
  unfold f_X4_leastWorth_6 at hf
  refine g_iload_n (i := 2) C dX4_leastWorth_6 rfl rfl ?_
  refine g_aload_n (i := 0) C dX4_leastWorth_7 rfl rfl ?_
  refine gg_X4_sorts (i := 1) C ht hiX4_leastWorth_X4 rfl dX4_leastWorth_8 ?_
  refine g_icmp_ge (tgt := 31) C dX4_leastWorth_11 (by decide) rfl rfl (fun c1 => ?_) (fun c1 => ?_)
  · have hf := if_t c1 hf
    exact g_mask [false, true, false] (he _ _ (Option.some.inj hf).symm)
  · have hf := if_f c1 hf
    refine g_iload_n (i := 1) C dX4_leastWorth_14 rfl rfl ?_
    refine g_aload_n (i := 0) C dX4_leastWorth_15 rfl rfl ?_
    refine gg_X4_worth (i := 2) C ht rfl hiX4_leastWorth_X4 rfl dX4_leastWorth_16 ?_
    refine g_iload_n (i := 2) C dX4_leastWorth_19 rfl rfl ?_
    obtain ⟨hb2, hf⟩ := if_inv hf
    refine g_iaload (N := 4) C (mk_arr2 ht) dX4_leastWorth_20 rfl hb2 ?_
    refine g_min (i1 := 3) (i2 := 4) (i3 := 5) (i4 := 6) C rfl rfl rfl rfl (by decide) (Nat.le_of_ble_eq_true rfl) ⟨Nat.zero_le _, Nat.zero_le _⟩ dX4_leastWorth_21 ?_
    refine g_istore_n (i := 1) C dX4_leastWorth_24 rfl (by decide) rfl ?_
    refine g_iinc C dX4_leastWorth_25 rfl (by decide) rfl ?_
    refine g_goto (tgt := 6) C dX4_leastWorth_28 (by decide) ?_
    exact g_mask [true, true, true] (hc _ _ _ (Option.some.inj hf).symm)
set_option maxHeartbeats 4000000 in
set_option maxRecDepth 100000 in
theorem w_X4_leastWorth_6 (C : Cx p s m args c cX4_leastWorth 3 RX4 wsX4_leastWorth D ca A) (hr : meth.sig.returnType = (some .int)) (hlk : meth.locks = false) {t : Int} (ht : isMkt t) {n : Nat} {x1 x2 : Int} {σ : Mem} {b : (Int × Mem)} (h : itr (fun z : Int × Int × Mem => f_X4_leastWorth_6 t z.1 z.2.1 z.2.2) n (x1, x2, σ) = some b) (he : ∀ (y1 : Int) (σ : Mem), b = (y1, σ) → G p l e rm_X4_leastWorth s m args below meth c 3 D ca ad A 0 0 (MQ below (Qi D ca ad A r0 σ0) args s 0 0 A) σ 31 [none, some (.int (iI y1)), none] []) : G p l e rm_X4_leastWorth s m args below meth c 3 D ca ad A 0 0 (MQ below (Qi D ca ad A r0 σ0) args s 0 0 A) σ 6 [some (.ref (ad t)), some (.int (iI x1)), some (.int (iI x2))] [] :=
  itr_rule (P := fun z : Int × Int × Mem => G p l e rm_X4_leastWorth s m args below meth c 3 D ca ad A 0 0 (MQ below (Qi D ca ad A r0 σ0) args s 0 0 A) z.2.2 6 [some (.ref (ad t)), some (.int (iI z.1)), some (.int (iI z.2.1))] []) (E := fun b => ∀ (y1 : Int) (σ : Mem), b = (y1, σ) → G p l e rm_X4_leastWorth s m args below meth c 3 D ca ad A 0 0 (MQ below (Qi D ca ad A r0 σ0) args s 0 0 A) σ 31 [none, some (.int (iI y1)), none] []) (fun z o hb hc he => it_X4_leastWorth_6 C hr hlk ht (fun _ _ _ e => hc _ e) (fun _ _ e => (he _ e) _ _ rfl) hb) n _ _ h he
set_option maxHeartbeats 4000000 in
set_option maxRecDepth 100000 in
theorem c_X4_leastWorth {t : Int} (ht : isMkt t) {σ : Mem} (hf : f_X4_leastWorth t σ = some (r0, σ0)) : CTi l D ca ad A yX4_leastWorth wsX4_leastWorth rm_X4_leastWorth [.ref (ad t)] σ r0 σ0 := by
  refine ct_i (cc := cX4_leastWorth) (own := RX4) (maxL := 3) (ret := (some .int)) (lv0 := [some (.ref (ad t)), none, none]) (by decide) rfl rfl rfl (Nat.le_of_ble_eq_true rfl) ?_
  intro p e s m below meth c C hr hlk hnm
  unfold f_X4_leastWorth at hf
  refine g_sipush C dX4_leastWorth_0 (by decide) ?_
  refine g_istore_n (i := 1) C dX4_leastWorth_3 rfl (by decide) rfl ?_
  refine g_iconst C dX4_leastWorth_4 ?_
  refine g_istore_n (i := 2) C dX4_leastWorth_5 rfl (by decide) rfl ?_
  obtain ⟨q4, hl5, hf⟩ := lb_inv hf
  refine g_mask [true, true, true] (w_X4_leastWorth_6 C hr hlk ht hl5 ?_)
  · rintro y6 σ7 rfl
    refine g_iload_n (i := 1) C dX4_leastWorth_31 rfl rfl ?_
    obtain ⟨e1, e2⟩ := some_inv hf
    exact g_iret C hr hlk e1 e2 dX4_leastWorth_32
/-! X4_meanWorth -/
abbrev rm_X4_meanWorth : Room := { frames := 0, cells := 0, slots := 0, locals := 0 }
theorem hiX4_meanWorth_X4 : ∀ w ∈ u_ws RX4 TX4 9, w ∈ wsX4_meanWorth := fun _ h => (List.mem_cons_of_mem _ (List.mem_append_right _ h))
set_option maxHeartbeats 4000000 in
set_option maxRecDepth 100000 in
theorem it_X4_meanWorth_4 (C : Cx p s m args c cX4_meanWorth 3 RX4 wsX4_meanWorth D ca A) (hr : meth.sig.returnType = (some .int)) (hlk : meth.locks = false) {t : Int} (ht : isMkt t) {o : (Int × Int × Mem) ⊕ (Int × Mem)} (hc : ∀ (x1 x2 : Int) (σ : Mem), o = .inl (x1, x2, σ) → G p l e rm_X4_meanWorth s m args below meth c 3 D ca ad A 0 0 (MQ below (Qi D ca ad A r0 σ0) args s 0 0 A) σ 4 [some (.ref (ad t)), some (.int (iI x1)), some (.int (iI x2))] []) (he : ∀ (y1 : Int) (σ : Mem), o = .inr (y1, σ) → G p l e rm_X4_meanWorth s m args below meth c 3 D ca ad A 0 0 (MQ below (Qi D ca ad A r0 σ0) args s 0 0 A) σ 34 [none, some (.int (iI y1)), none] []) {x1 x2 : Int} {σ : Mem} (hf : f_X4_meanWorth_4 t x1 x2 σ = some o) : G p l e rm_X4_meanWorth s m args below meth c 3 D ca ad A 0 0 (MQ below (Qi D ca ad A r0 σ0) args s 0 0 A) σ 4 [some (.ref (ad t)), some (.int (iI x1)), some (.int (iI x2))] [] := by
  unfold f_X4_meanWorth_4 at hf
  refine g_iload_n (i := 2) C dX4_meanWorth_4 rfl rfl ?_
  refine g_aload_n (i := 0) C dX4_meanWorth_5 rfl rfl ?_
  refine gg_X4_sorts (i := 1) C ht hiX4_meanWorth_X4 rfl dX4_meanWorth_6 ?_
  refine g_icmp_ge (tgt := 34) C dX4_meanWorth_9 (by decide) rfl rfl (fun c1 => ?_) (fun c1 => ?_)
  · have hf := if_t c1 hf
    exact g_mask [false, true, false] (he _ _ (Option.some.inj hf).symm)
  · have hf := if_f c1 hf
    refine g_iload_n (i := 1) C dX4_meanWorth_12 rfl rfl ?_
    refine g_aload_n (i := 0) C dX4_meanWorth_13 rfl rfl ?_
    refine gg_X4_chance (i := 2) C ht rfl hiX4_meanWorth_X4 rfl dX4_meanWorth_14 ?_
    refine g_iload_n (i := 2) C dX4_meanWorth_17 rfl rfl ?_
    obtain ⟨hb2, hf⟩ := if_inv hf
    refine g_iaload (N := 4) C (mk_arr1 ht) dX4_meanWorth_18 rfl hb2 ?_
    refine g_aload_n (i := 0) C dX4_meanWorth_19 rfl rfl ?_
    refine gg_X4_worth (i := 3) C ht rfl hiX4_meanWorth_X4 rfl dX4_meanWorth_20 ?_
    refine g_iload_n (i := 2) C dX4_meanWorth_23 rfl rfl ?_
    refine g_iaload (N := 4) C (mk_arr2 ht) dX4_meanWorth_24 rfl hb2 ?_
    refine g_imul C dX4_meanWorth_25 ?_
    refine g_iadd C dX4_meanWorth_26 ?_
    refine g_istore_n (i := 1) C dX4_meanWorth_27 rfl (by decide) rfl ?_
    refine g_iinc C dX4_meanWorth_28 rfl (by decide) rfl ?_
    refine g_goto (tgt := 4) C dX4_meanWorth_31 (by decide) ?_
    exact g_mask [true, true, true] (hc _ _ _ (Option.some.inj hf).symm)
set_option maxHeartbeats 4000000 in
set_option maxRecDepth 100000 in
theorem w_X4_meanWorth_4 (C : Cx p s m args c cX4_meanWorth 3 RX4 wsX4_meanWorth D ca A) (hr : meth.sig.returnType = (some .int)) (hlk : meth.locks = false) {t : Int} (ht : isMkt t) {n : Nat} {x1 x2 : Int} {σ : Mem} {b : (Int × Mem)} (h : itr (fun z : Int × Int × Mem => f_X4_meanWorth_4 t z.1 z.2.1 z.2.2) n (x1, x2, σ) = some b) (he : ∀ (y1 : Int) (σ : Mem), b = (y1, σ) → G p l e rm_X4_meanWorth s m args below meth c 3 D ca ad A 0 0 (MQ below (Qi D ca ad A r0 σ0) args s 0 0 A) σ 34 [none, some (.int (iI y1)), none] []) : G p l e rm_X4_meanWorth s m args below meth c 3 D ca ad A 0 0 (MQ below (Qi D ca ad A r0 σ0) args s 0 0 A) σ 4 [some (.ref (ad t)), some (.int (iI x1)), some (.int (iI x2))] [] :=
  itr_rule (P := fun z : Int × Int × Mem => G p l e rm_X4_meanWorth s m args below meth c 3 D ca ad A 0 0 (MQ below (Qi D ca ad A r0 σ0) args s 0 0 A) z.2.2 4 [some (.ref (ad t)), some (.int (iI z.1)), some (.int (iI z.2.1))] []) (E := fun b => ∀ (y1 : Int) (σ : Mem), b = (y1, σ) → G p l e rm_X4_meanWorth s m args below meth c 3 D ca ad A 0 0 (MQ below (Qi D ca ad A r0 σ0) args s 0 0 A) σ 34 [none, some (.int (iI y1)), none] []) (fun z o hb hc he => it_X4_meanWorth_4 C hr hlk ht (fun _ _ _ e => hc _ e) (fun _ _ e => (he _ e) _ _ rfl) hb) n _ _ h he
set_option maxHeartbeats 4000000 in
set_option maxRecDepth 100000 in
theorem c_X4_meanWorth {t : Int} (ht : isMkt t) {σ : Mem} (hf : f_X4_meanWorth t σ = some (r0, σ0)) : CTi l D ca ad A yX4_meanWorth wsX4_meanWorth rm_X4_meanWorth [.ref (ad t)] σ r0 σ0 := by
  refine ct_i (cc := cX4_meanWorth) (own := RX4) (maxL := 3) (ret := (some .int)) (lv0 := [some (.ref (ad t)), none, none]) (by decide) rfl rfl rfl (Nat.le_of_ble_eq_true rfl) ?_
  intro p e s m below meth c C hr hlk hnm
  unfold f_X4_meanWorth at hf
  refine g_iconst C dX4_meanWorth_0 ?_
  refine g_istore_n (i := 1) C dX4_meanWorth_1 rfl (by decide) rfl ?_
  refine g_iconst C dX4_meanWorth_2 ?_
  refine g_istore_n (i := 2) C dX4_meanWorth_3 rfl (by decide) rfl ?_
  obtain ⟨q4, hl5, hf⟩ := lb_inv hf
  refine g_mask [true, true, true] (w_X4_meanWorth_4 C hr hlk ht hl5 ?_)
  · rintro y6 σ7 rfl
    refine g_iload_n (i := 1) C dX4_meanWorth_34 rfl rfl ?_
    obtain ⟨e1, e2⟩ := some_inv hf
    exact g_iret C hr hlk e1 e2 dX4_meanWorth_35
/-! X4_toldThoughts -/
abbrev rm_X4_toldThoughts : Room := { frames := 0, cells := 0, slots := 0, locals := 0 }
theorem hiX4_toldThoughts_X4 : ∀ w ∈ u_ws RX4 TX4 9, w ∈ wsX4_toldThoughts := fun _ h => (List.mem_cons_of_mem _ (List.mem_append_right _ h))
set_option maxHeartbeats 4000000 in
set_option maxRecDepth 100000 in
theorem it_X4_toldThoughts_4 (C : Cx p s m args c cX4_toldThoughts 3 RX4 wsX4_toldThoughts D ca A) (hr : meth.sig.returnType = (some .int)) (hlk : meth.locks = false) {t : Int} (ht : isMkt t) {o : (Int × Int × Mem) ⊕ (Int × Mem)} (hc : ∀ (x1 x2 : Int) (σ : Mem), o = .inl (x1, x2, σ) → G p l e rm_X4_toldThoughts s m args below meth c 3 D ca ad A 0 0 (MQ below (Qi D ca ad A r0 σ0) args s 0 0 A) σ 4 [some (.ref (ad t)), some (.int (iI x1)), some (.int (iI x2))] []) (he : ∀ (y1 : Int) (σ : Mem), o = .inr (y1, σ) → G p l e rm_X4_toldThoughts s m args below meth c 3 D ca ad A 0 0 (MQ below (Qi D ca ad A r0 σ0) args s 0 0 A) σ 31 [none, some (.int (iI y1)), none] []) {x1 x2 : Int} {σ : Mem} (hf : f_X4_toldThoughts_4 t x1 x2 σ = some o) : G p l e rm_X4_toldThoughts s m args below meth c 3 D ca ad A 0 0 (MQ below (Qi D ca ad A r0 σ0) args s 0 0 A) σ 4 [some (.ref (ad t)), some (.int (iI x1)), some (.int (iI x2))] [] := by
  unfold f_X4_toldThoughts_4 at hf
  refine g_iload_n (i := 2) C dX4_toldThoughts_4 rfl rfl ?_
  refine g_aload_n (i := 0) C dX4_toldThoughts_5 rfl rfl ?_
  refine gg_X4_marks (i := 1) C ht hiX4_toldThoughts_X4 rfl dX4_toldThoughts_6 ?_
  refine g_icmp_ge (tgt := 31) C dX4_toldThoughts_9 (by decide) rfl rfl (fun c1 => ?_) (fun c1 => ?_)
  · have hf := if_t c1 hf
    exact g_mask [false, true, false] (he _ _ (Option.some.inj hf).symm)
  · have hf := if_f c1 hf
    refine g_aload_n (i := 0) C dX4_toldThoughts_12 rfl rfl ?_
    refine gg_X4_told (i := 2) C ht rfl hiX4_toldThoughts_X4 rfl dX4_toldThoughts_13 ?_
    refine g_iload_n (i := 2) C dX4_toldThoughts_16 rfl rfl ?_
    obtain ⟨hb2, hf⟩ := if_inv hf
    refine g_iaload (N := 4) C (mk_arr5 ht) dX4_toldThoughts_17 rfl hb2 ?_
    refine g_iconst C dX4_toldThoughts_18 ?_
    refine g_icmp_eq (b' := (-1)) (tgt := 25) C dX4_toldThoughts_19 (by decide) rfl (by decide) (fun c3 => ?_) (fun c3 => ?_)
    · have hf := if_t c3 hf
      refine g_iinc C dX4_toldThoughts_25 rfl (by decide) rfl ?_
      refine g_goto (tgt := 4) C dX4_toldThoughts_28 (by decide) ?_
      exact g_mask [true, true, true] (hc _ _ _ (Option.some.inj hf).symm)
    · have hf := if_f c3 hf
      refine g_iinc C dX4_toldThoughts_22 rfl (by decide) rfl ?_
      refine g_iinc C dX4_toldThoughts_25 rfl (by decide) rfl ?_
      refine g_goto (tgt := 4) C dX4_toldThoughts_28 (by decide) ?_
      exact g_mask [true, true, true] (hc _ _ _ (Option.some.inj hf).symm)
set_option maxHeartbeats 4000000 in
set_option maxRecDepth 100000 in
theorem w_X4_toldThoughts_4 (C : Cx p s m args c cX4_toldThoughts 3 RX4 wsX4_toldThoughts D ca A) (hr : meth.sig.returnType = (some .int)) (hlk : meth.locks = false) {t : Int} (ht : isMkt t) {n : Nat} {x1 x2 : Int} {σ : Mem} {b : (Int × Mem)} (h : itr (fun z : Int × Int × Mem => f_X4_toldThoughts_4 t z.1 z.2.1 z.2.2) n (x1, x2, σ) = some b) (he : ∀ (y1 : Int) (σ : Mem), b = (y1, σ) → G p l e rm_X4_toldThoughts s m args below meth c 3 D ca ad A 0 0 (MQ below (Qi D ca ad A r0 σ0) args s 0 0 A) σ 31 [none, some (.int (iI y1)), none] []) : G p l e rm_X4_toldThoughts s m args below meth c 3 D ca ad A 0 0 (MQ below (Qi D ca ad A r0 σ0) args s 0 0 A) σ 4 [some (.ref (ad t)), some (.int (iI x1)), some (.int (iI x2))] [] :=
  itr_rule (P := fun z : Int × Int × Mem => G p l e rm_X4_toldThoughts s m args below meth c 3 D ca ad A 0 0 (MQ below (Qi D ca ad A r0 σ0) args s 0 0 A) z.2.2 4 [some (.ref (ad t)), some (.int (iI z.1)), some (.int (iI z.2.1))] []) (E := fun b => ∀ (y1 : Int) (σ : Mem), b = (y1, σ) → G p l e rm_X4_toldThoughts s m args below meth c 3 D ca ad A 0 0 (MQ below (Qi D ca ad A r0 σ0) args s 0 0 A) σ 31 [none, some (.int (iI y1)), none] []) (fun z o hb hc he => it_X4_toldThoughts_4 C hr hlk ht (fun _ _ _ e => hc _ e) (fun _ _ e => (he _ e) _ _ rfl) hb) n _ _ h he
set_option maxHeartbeats 4000000 in
set_option maxRecDepth 100000 in
theorem c_X4_toldThoughts {t : Int} (ht : isMkt t) {σ : Mem} (hf : f_X4_toldThoughts t σ = some (r0, σ0)) : CTi l D ca ad A yX4_toldThoughts wsX4_toldThoughts rm_X4_toldThoughts [.ref (ad t)] σ r0 σ0 := by
  refine ct_i (cc := cX4_toldThoughts) (own := RX4) (maxL := 3) (ret := (some .int)) (lv0 := [some (.ref (ad t)), none, none]) (by decide) rfl rfl rfl (Nat.le_of_ble_eq_true rfl) ?_
  intro p e s m below meth c C hr hlk hnm
  unfold f_X4_toldThoughts at hf
  refine g_iconst C dX4_toldThoughts_0 ?_
  refine g_istore_n (i := 1) C dX4_toldThoughts_1 rfl (by decide) rfl ?_
  refine g_iconst C dX4_toldThoughts_2 ?_
  refine g_istore_n (i := 2) C dX4_toldThoughts_3 rfl (by decide) rfl ?_
  obtain ⟨q4, hl5, hf⟩ := lb_inv hf
  refine g_mask [true, true, true] (w_X4_toldThoughts_4 C hr hlk ht hl5 ?_)
  · rintro y6 σ7 rfl
    refine g_iload_n (i := 1) C dX4_toldThoughts_31 rfl rfl ?_
    obtain ⟨e1, e2⟩ := some_inv hf
    exact g_iret C hr hlk e1 e2 dX4_toldThoughts_32
/-! X4_allWorth -/
abbrev rm_X4_allWorth : Room := { frames := 0, cells := 0, slots := 0, locals := 0 }
theorem hiX4_allWorth_X4 : ∀ w ∈ u_ws RX4 TX4 9, w ∈ wsX4_allWorth := fun _ h => (List.mem_cons_of_mem _ (List.mem_append_right _ h))
set_option maxHeartbeats 4000000 in
set_option maxRecDepth 100000 in
theorem it_X4_allWorth_4 (C : Cx p s m args c cX4_allWorth 3 RX4 wsX4_allWorth D ca A) (hr : meth.sig.returnType = (some .int)) (hlk : meth.locks = false) {t : Int} (ht : isMkt t) {o : (Int × Int × Mem) ⊕ (Int × Mem)} (hc : ∀ (x1 x2 : Int) (σ : Mem), o = .inl (x1, x2, σ) → G p l e rm_X4_allWorth s m args below meth c 3 D ca ad A 0 0 (MQ below (Qi D ca ad A r0 σ0) args s 0 0 A) σ 4 [some (.ref (ad t)), some (.int (iI x1)), some (.int (iI x2))] []) (he : ∀ (y1 : Int) (σ : Mem), o = .inr (y1, σ) → G p l e rm_X4_allWorth s m args below meth c 3 D ca ad A 0 0 (MQ below (Qi D ca ad A r0 σ0) args s 0 0 A) σ 27 [none, some (.int (iI y1)), none] []) {x1 x2 : Int} {σ : Mem} (hf : f_X4_allWorth_4 t x1 x2 σ = some o) : G p l e rm_X4_allWorth s m args below meth c 3 D ca ad A 0 0 (MQ below (Qi D ca ad A r0 σ0) args s 0 0 A) σ 4 [some (.ref (ad t)), some (.int (iI x1)), some (.int (iI x2))] [] := by
  unfold f_X4_allWorth_4 at hf
  refine g_iload_n (i := 2) C dX4_allWorth_4 rfl rfl ?_
  refine g_aload_n (i := 0) C dX4_allWorth_5 rfl rfl ?_
  refine gg_X4_sorts (i := 1) C ht hiX4_allWorth_X4 rfl dX4_allWorth_6 ?_
  refine g_icmp_ge (tgt := 27) C dX4_allWorth_9 (by decide) rfl rfl (fun c1 => ?_) (fun c1 => ?_)
  · have hf := if_t c1 hf
    exact g_mask [false, true, false] (he _ _ (Option.some.inj hf).symm)
  · have hf := if_f c1 hf
    refine g_iload_n (i := 1) C dX4_allWorth_12 rfl rfl ?_
    refine g_aload_n (i := 0) C dX4_allWorth_13 rfl rfl ?_
    refine gg_X4_worth (i := 2) C ht rfl hiX4_allWorth_X4 rfl dX4_allWorth_14 ?_
    refine g_iload_n (i := 2) C dX4_allWorth_17 rfl rfl ?_
    obtain ⟨hb2, hf⟩ := if_inv hf
    refine g_iaload (N := 4) C (mk_arr2 ht) dX4_allWorth_18 rfl hb2 ?_
    refine g_iadd C dX4_allWorth_19 ?_
    refine g_istore_n (i := 1) C dX4_allWorth_20 rfl (by decide) rfl ?_
    refine g_iinc C dX4_allWorth_21 rfl (by decide) rfl ?_
    refine g_goto (tgt := 4) C dX4_allWorth_24 (by decide) ?_
    exact g_mask [true, true, true] (hc _ _ _ (Option.some.inj hf).symm)
set_option maxHeartbeats 4000000 in
set_option maxRecDepth 100000 in
theorem w_X4_allWorth_4 (C : Cx p s m args c cX4_allWorth 3 RX4 wsX4_allWorth D ca A) (hr : meth.sig.returnType = (some .int)) (hlk : meth.locks = false) {t : Int} (ht : isMkt t) {n : Nat} {x1 x2 : Int} {σ : Mem} {b : (Int × Mem)} (h : itr (fun z : Int × Int × Mem => f_X4_allWorth_4 t z.1 z.2.1 z.2.2) n (x1, x2, σ) = some b) (he : ∀ (y1 : Int) (σ : Mem), b = (y1, σ) → G p l e rm_X4_allWorth s m args below meth c 3 D ca ad A 0 0 (MQ below (Qi D ca ad A r0 σ0) args s 0 0 A) σ 27 [none, some (.int (iI y1)), none] []) : G p l e rm_X4_allWorth s m args below meth c 3 D ca ad A 0 0 (MQ below (Qi D ca ad A r0 σ0) args s 0 0 A) σ 4 [some (.ref (ad t)), some (.int (iI x1)), some (.int (iI x2))] [] :=
  itr_rule (P := fun z : Int × Int × Mem => G p l e rm_X4_allWorth s m args below meth c 3 D ca ad A 0 0 (MQ below (Qi D ca ad A r0 σ0) args s 0 0 A) z.2.2 4 [some (.ref (ad t)), some (.int (iI z.1)), some (.int (iI z.2.1))] []) (E := fun b => ∀ (y1 : Int) (σ : Mem), b = (y1, σ) → G p l e rm_X4_allWorth s m args below meth c 3 D ca ad A 0 0 (MQ below (Qi D ca ad A r0 σ0) args s 0 0 A) σ 27 [none, some (.int (iI y1)), none] []) (fun z o hb hc he => it_X4_allWorth_4 C hr hlk ht (fun _ _ _ e => hc _ e) (fun _ _ e => (he _ e) _ _ rfl) hb) n _ _ h he
set_option maxHeartbeats 4000000 in
set_option maxRecDepth 100000 in
theorem c_X4_allWorth {t : Int} (ht : isMkt t) {σ : Mem} (hf : f_X4_allWorth t σ = some (r0, σ0)) : CTi l D ca ad A yX4_allWorth wsX4_allWorth rm_X4_allWorth [.ref (ad t)] σ r0 σ0 := by
  refine ct_i (cc := cX4_allWorth) (own := RX4) (maxL := 3) (ret := (some .int)) (lv0 := [some (.ref (ad t)), none, none]) (by decide) rfl rfl rfl (Nat.le_of_ble_eq_true rfl) ?_
  intro p e s m below meth c C hr hlk hnm
  unfold f_X4_allWorth at hf
  refine g_iconst C dX4_allWorth_0 ?_
  refine g_istore_n (i := 1) C dX4_allWorth_1 rfl (by decide) rfl ?_
  refine g_iconst C dX4_allWorth_2 ?_
  refine g_istore_n (i := 2) C dX4_allWorth_3 rfl (by decide) rfl ?_
  obtain ⟨q4, hl5, hf⟩ := lb_inv hf
  refine g_mask [true, true, true] (w_X4_allWorth_4 C hr hlk ht hl5 ?_)
  · rintro y6 σ7 rfl
    refine g_iload_n (i := 1) C dX4_allWorth_27 rfl rfl ?_
    obtain ⟨e1, e2⟩ := some_inv hf
    exact g_iret C hr hlk e1 e2 dX4_allWorth_28
/-! X4_allCosts -/
abbrev rm_X4_allCosts : Room := { frames := 0, cells := 0, slots := 0, locals := 0 }
theorem hiX4_allCosts_X4 : ∀ w ∈ u_ws RX4 TX4 9, w ∈ wsX4_allCosts := fun _ h => (List.mem_cons_of_mem _ (List.mem_append_right _ h))
set_option maxHeartbeats 4000000 in
set_option maxRecDepth 100000 in
theorem it_X4_allCosts_14 (C : Cx p s m args c cX4_allCosts 4 RX4 wsX4_allCosts D ca A) (hr : meth.sig.returnType = (some .int)) (hlk : meth.locks = false) {t : Int} (ht : isMkt t) {p2 : Int} {o : (Int × Int × Mem) ⊕ (Int × Mem)} (hc : ∀ (x1 x3 : Int) (σ : Mem), o = .inl (x1, x3, σ) → G p l e rm_X4_allCosts s m args below meth c 4 D ca ad A 0 0 (MQ below (Qi D ca ad A r0 σ0) args s 0 0 A) σ 14 [some (.ref (ad t)), some (.int (iI x1)), some (.int (iI p2)), some (.int (iI x3))] []) (he : ∀ (y1 : Int) (σ : Mem), o = .inr (y1, σ) → G p l e rm_X4_allCosts s m args below meth c 4 D ca ad A 0 0 (MQ below (Qi D ca ad A r0 σ0) args s 0 0 A) σ 39 [some (.ref (ad t)), some (.int (iI y1)), some (.int (iI p2)), none] []) {x1 x3 : Int} {σ : Mem} (hf : f_X4_allCosts_14 t p2 x1 x3 σ = some o) : G p l e rm_X4_allCosts s m args below meth c 4 D ca ad A 0 0 (MQ below (Qi D ca ad A r0 σ0) args s 0 0 A) σ 14 [some (.ref (ad t)), some (.int (iI x1)), some (.int (iI p2)), some (.int (iI x3))] [] := by
  unfold f_X4_allCosts_14 at hf
  refine g_iload_n (i := 3) C dX4_allCosts_14 rfl rfl ?_
  refine g_aload_n (i := 0) C dX4_allCosts_15 rfl rfl ?_
  refine gg_X4_sorts (i := 2) C ht hiX4_allCosts_X4 rfl dX4_allCosts_16 ?_
  refine g_icmp_ge (tgt := 39) C dX4_allCosts_19 (by decide) rfl rfl (fun c2 => ?_) (fun c2 => ?_)
  · have hf := if_t c2 hf
    exact g_mask [true, true, true, false] (he _ _ (Option.some.inj hf).symm)
  · have hf := if_f c2 hf
    refine g_iload_n (i := 1) C dX4_allCosts_22 rfl rfl ?_
    refine g_aload_n (i := 0) C dX4_allCosts_23 rfl rfl ?_
    refine gg_X4_cost (i := 3) C ht rfl hiX4_allCosts_X4 rfl dX4_allCosts_24 ?_
    refine g_iload_n (i := 2) C dX4_allCosts_27 rfl rfl ?_
    obtain ⟨hb3, hf⟩ := if_inv hf
    refine g_aaload C (Or.inr ⟨(mk_cost ht), rfl, hb3⟩) dX4_allCosts_28 rfl ?_
    refine g_iload_n (i := 3) C dX4_allCosts_29 rfl rfl ?_
    obtain ⟨hb4, hf⟩ := if_inv hf
    refine g_iaload (N := 4) C (kI_row (mk_cost ht) hb3) dX4_allCosts_30 rfl hb4 ?_
    refine g_iadd C dX4_allCosts_31 ?_
    refine g_istore_n (i := 1) C dX4_allCosts_32 rfl (by decide) rfl ?_
    refine g_iinc C dX4_allCosts_33 rfl (by decide) rfl ?_
    refine g_goto (tgt := 14) C dX4_allCosts_36 (by decide) ?_
    exact g_mask [true, true, true, true] (hc _ _ _ (Option.some.inj hf).symm)
set_option maxHeartbeats 4000000 in
set_option maxRecDepth 100000 in
theorem w_X4_allCosts_14 (C : Cx p s m args c cX4_allCosts 4 RX4 wsX4_allCosts D ca A) (hr : meth.sig.returnType = (some .int)) (hlk : meth.locks = false) {t : Int} (ht : isMkt t) {p2 : Int} {n : Nat} {x1 x3 : Int} {σ : Mem} {b : (Int × Mem)} (h : itr (fun z : Int × Int × Mem => f_X4_allCosts_14 t p2 z.1 z.2.1 z.2.2) n (x1, x3, σ) = some b) (he : ∀ (y1 : Int) (σ : Mem), b = (y1, σ) → G p l e rm_X4_allCosts s m args below meth c 4 D ca ad A 0 0 (MQ below (Qi D ca ad A r0 σ0) args s 0 0 A) σ 39 [some (.ref (ad t)), some (.int (iI y1)), some (.int (iI p2)), none] []) : G p l e rm_X4_allCosts s m args below meth c 4 D ca ad A 0 0 (MQ below (Qi D ca ad A r0 σ0) args s 0 0 A) σ 14 [some (.ref (ad t)), some (.int (iI x1)), some (.int (iI p2)), some (.int (iI x3))] [] :=
  itr_rule (P := fun z : Int × Int × Mem => G p l e rm_X4_allCosts s m args below meth c 4 D ca ad A 0 0 (MQ below (Qi D ca ad A r0 σ0) args s 0 0 A) z.2.2 14 [some (.ref (ad t)), some (.int (iI z.1)), some (.int (iI p2)), some (.int (iI z.2.1))] []) (E := fun b => ∀ (y1 : Int) (σ : Mem), b = (y1, σ) → G p l e rm_X4_allCosts s m args below meth c 4 D ca ad A 0 0 (MQ below (Qi D ca ad A r0 σ0) args s 0 0 A) σ 39 [some (.ref (ad t)), some (.int (iI y1)), some (.int (iI p2)), none] []) (fun z o hb hc he => it_X4_allCosts_14 C hr hlk ht (fun _ _ _ e => hc _ e) (fun _ _ e => (he _ e) _ _ rfl) hb) n _ _ h he
set_option maxHeartbeats 4000000 in
set_option maxRecDepth 100000 in
theorem it_X4_allCosts_4 (C : Cx p s m args c cX4_allCosts 4 RX4 wsX4_allCosts D ca A) (hr : meth.sig.returnType = (some .int)) (hlk : meth.locks = false) {t : Int} (ht : isMkt t) {o : (Int × Int × Mem) ⊕ (Int × Mem)} (hc : ∀ (x1 x2 : Int) (σ : Mem), o = .inl (x1, x2, σ) → G p l e rm_X4_allCosts s m args below meth c 4 D ca ad A 0 0 (MQ below (Qi D ca ad A r0 σ0) args s 0 0 A) σ 4 [some (.ref (ad t)), some (.int (iI x1)), some (.int (iI x2)), none] []) (he : ∀ (y1 : Int) (σ : Mem), o = .inr (y1, σ) → G p l e rm_X4_allCosts s m args below meth c 4 D ca ad A 0 0 (MQ below (Qi D ca ad A r0 σ0) args s 0 0 A) σ 45 [none, some (.int (iI y1)), none, none] []) {x1 x2 : Int} {σ : Mem} (hf : f_X4_allCosts_4 t x1 x2 σ = some o) : G p l e rm_X4_allCosts s m args below meth c 4 D ca ad A 0 0 (MQ below (Qi D ca ad A r0 σ0) args s 0 0 A) σ 4 [some (.ref (ad t)), some (.int (iI x1)), some (.int (iI x2)), none] [] := by
  unfold f_X4_allCosts_4 at hf
  refine g_iload_n (i := 2) C dX4_allCosts_4 rfl rfl ?_
  refine g_aload_n (i := 0) C dX4_allCosts_5 rfl rfl ?_
  refine gg_X4_marks (i := 1) C ht hiX4_allCosts_X4 rfl dX4_allCosts_6 ?_
  refine g_icmp_ge (tgt := 45) C dX4_allCosts_9 (by decide) rfl rfl (fun c1 => ?_) (fun c1 => ?_)
  · have hf := if_t c1 hf
    exact g_mask [false, true, false, false] (he _ _ (Option.some.inj hf).symm)
  · have hf := if_f c1 hf
    refine g_iconst C dX4_allCosts_12 ?_
    refine g_istore_n (i := 3) C dX4_allCosts_13 rfl (by decide) rfl ?_
    obtain ⟨q6, hl7, hf⟩ := lb_inv hf
    refine g_mask [true, true, true, true] (w_X4_allCosts_14 C hr hlk ht hl7 ?_)
    · rintro y8 σ9 rfl
      refine g_iinc C dX4_allCosts_39 rfl (by decide) rfl ?_
      refine g_goto (tgt := 4) C dX4_allCosts_42 (by decide) ?_
      exact g_mask [true, true, true, false] (hc _ _ _ (Option.some.inj hf).symm)
set_option maxHeartbeats 4000000 in
set_option maxRecDepth 100000 in
theorem w_X4_allCosts_4 (C : Cx p s m args c cX4_allCosts 4 RX4 wsX4_allCosts D ca A) (hr : meth.sig.returnType = (some .int)) (hlk : meth.locks = false) {t : Int} (ht : isMkt t) {n : Nat} {x1 x2 : Int} {σ : Mem} {b : (Int × Mem)} (h : itr (fun z : Int × Int × Mem => f_X4_allCosts_4 t z.1 z.2.1 z.2.2) n (x1, x2, σ) = some b) (he : ∀ (y1 : Int) (σ : Mem), b = (y1, σ) → G p l e rm_X4_allCosts s m args below meth c 4 D ca ad A 0 0 (MQ below (Qi D ca ad A r0 σ0) args s 0 0 A) σ 45 [none, some (.int (iI y1)), none, none] []) : G p l e rm_X4_allCosts s m args below meth c 4 D ca ad A 0 0 (MQ below (Qi D ca ad A r0 σ0) args s 0 0 A) σ 4 [some (.ref (ad t)), some (.int (iI x1)), some (.int (iI x2)), none] [] :=
  itr_rule (P := fun z : Int × Int × Mem => G p l e rm_X4_allCosts s m args below meth c 4 D ca ad A 0 0 (MQ below (Qi D ca ad A r0 σ0) args s 0 0 A) z.2.2 4 [some (.ref (ad t)), some (.int (iI z.1)), some (.int (iI z.2.1)), none] []) (E := fun b => ∀ (y1 : Int) (σ : Mem), b = (y1, σ) → G p l e rm_X4_allCosts s m args below meth c 4 D ca ad A 0 0 (MQ below (Qi D ca ad A r0 σ0) args s 0 0 A) σ 45 [none, some (.int (iI y1)), none, none] []) (fun z o hb hc he => it_X4_allCosts_4 C hr hlk ht (fun _ _ _ e => hc _ e) (fun _ _ e => (he _ e) _ _ rfl) hb) n _ _ h he
set_option maxHeartbeats 4000000 in
set_option maxRecDepth 100000 in
theorem c_X4_allCosts {t : Int} (ht : isMkt t) {σ : Mem} (hf : f_X4_allCosts t σ = some (r0, σ0)) : CTi l D ca ad A yX4_allCosts wsX4_allCosts rm_X4_allCosts [.ref (ad t)] σ r0 σ0 := by
  refine ct_i (cc := cX4_allCosts) (own := RX4) (maxL := 4) (ret := (some .int)) (lv0 := [some (.ref (ad t)), none, none, none]) (by decide) rfl rfl rfl (Nat.le_of_ble_eq_true rfl) ?_
  intro p e s m below meth c C hr hlk hnm
  unfold f_X4_allCosts at hf
  refine g_iconst C dX4_allCosts_0 ?_
  refine g_istore_n (i := 1) C dX4_allCosts_1 rfl (by decide) rfl ?_
  refine g_iconst C dX4_allCosts_2 ?_
  refine g_istore_n (i := 2) C dX4_allCosts_3 rfl (by decide) rfl ?_
  obtain ⟨q10, hl11, hf⟩ := lb_inv hf
  refine g_mask [true, true, true, false] (w_X4_allCosts_4 C hr hlk ht hl11 ?_)
  · rintro y12 σ13 rfl
    refine g_iload_n (i := 1) C dX4_allCosts_45 rfl rfl ?_
    obtain ⟨e1, e2⟩ := some_inv hf
    exact g_iret C hr hlk e1 e2 dX4_allCosts_46
/-! J6_bitCount_0f7a4 -/
abbrev rm_J6_bitCount_0f7a4 : Room := { frames := 0, cells := 0, slots := 0, locals := 0 }
set_option maxHeartbeats 4000000 in
set_option maxRecDepth 100000 in
theorem c_J6_bitCount_0f7a4 {v0 : Int} {σ : Mem} (hf : f_J6_bitCount_0f7a4 v0 σ = some (r0, σ0)) : CTi l D ca ad A yJ6_bitCount_0f7a4 wsJ6_bitCount_0f7a4 rm_J6_bitCount_0f7a4 [.int (iI v0)] σ r0 σ0 := by
  refine ct_i (cc := cJ6_bitCount_0f7a4) (own := RJ6) (maxL := 1) (ret := (some .int)) (lv0 := [some (.int (iI v0))]) (by decide) rfl rfl rfl (Nat.le_of_ble_eq_true rfl) ?_
  intro p e s m below meth c C hr hlk hnm
  unfold f_J6_bitCount_0f7a4 at hf
  refine g_iload_n (i := 0) C dJ6_bitCount_0f7a4_0 rfl rfl ?_
  refine g_iload_n (i := 0) C dJ6_bitCount_0f7a4_1 rfl rfl ?_
  refine g_iconst C dJ6_bitCount_0f7a4_2 ?_
  refine g_iushr C dJ6_bitCount_0f7a4_3 ?_
  refine g_ldcw (i := 1) (z := 1431655765) C dJ6_bitCount_0f7a4_4 rfl (by decide) ?_
  refine g_iand C dJ6_bitCount_0f7a4_7 ?_
  refine g_isub C dJ6_bitCount_0f7a4_8 ?_
  refine g_istore_n (i := 0) C dJ6_bitCount_0f7a4_9 rfl (by decide) rfl ?_
  refine g_iload_n (i := 0) C dJ6_bitCount_0f7a4_10 rfl rfl ?_
  refine g_ldcw (i := 2) (z := 858993459) C dJ6_bitCount_0f7a4_11 rfl (by decide) ?_
  refine g_iand C dJ6_bitCount_0f7a4_14 ?_
  refine g_iload_n (i := 0) C dJ6_bitCount_0f7a4_15 rfl rfl ?_
  refine g_iconst C dJ6_bitCount_0f7a4_16 ?_
  refine g_iushr C dJ6_bitCount_0f7a4_17 ?_
  refine g_ldcw (i := 2) (z := 858993459) C dJ6_bitCount_0f7a4_18 rfl (by decide) ?_
  refine g_iand C dJ6_bitCount_0f7a4_21 ?_
  refine g_iadd C dJ6_bitCount_0f7a4_22 ?_
  refine g_istore_n (i := 0) C dJ6_bitCount_0f7a4_23 rfl (by decide) rfl ?_
  refine g_iload_n (i := 0) C dJ6_bitCount_0f7a4_24 rfl rfl ?_
  refine g_iload_n (i := 0) C dJ6_bitCount_0f7a4_25 rfl rfl ?_
  refine g_iconst C dJ6_bitCount_0f7a4_26 ?_
  refine g_iushr C dJ6_bitCount_0f7a4_27 ?_
  refine g_iadd C dJ6_bitCount_0f7a4_28 ?_
  refine g_ldcw (i := 3) (z := 252645135) C dJ6_bitCount_0f7a4_29 rfl (by decide) ?_
  refine g_iand C dJ6_bitCount_0f7a4_32 ?_
  refine g_istore_n (i := 0) C dJ6_bitCount_0f7a4_33 rfl (by decide) rfl ?_
  refine g_iload_n (i := 0) C dJ6_bitCount_0f7a4_34 rfl rfl ?_
  refine g_iload_n (i := 0) C dJ6_bitCount_0f7a4_35 rfl rfl ?_
  refine g_bipush C dJ6_bitCount_0f7a4_36 (by decide) ?_
  refine g_iushr C dJ6_bitCount_0f7a4_38 ?_
  refine g_iadd C dJ6_bitCount_0f7a4_39 ?_
  refine g_istore_n (i := 0) C dJ6_bitCount_0f7a4_40 rfl (by decide) rfl ?_
  refine g_iload_n (i := 0) C dJ6_bitCount_0f7a4_41 rfl rfl ?_
  refine g_iload_n (i := 0) C dJ6_bitCount_0f7a4_42 rfl rfl ?_
  refine g_bipush C dJ6_bitCount_0f7a4_43 (by decide) ?_
  refine g_iushr C dJ6_bitCount_0f7a4_45 ?_
  refine g_iadd C dJ6_bitCount_0f7a4_46 ?_
  refine g_istore_n (i := 0) C dJ6_bitCount_0f7a4_47 rfl (by decide) rfl ?_
  refine g_iload_n (i := 0) C dJ6_bitCount_0f7a4_48 rfl rfl ?_
  refine g_bipush C dJ6_bitCount_0f7a4_49 (by decide) ?_
  refine g_iand C dJ6_bitCount_0f7a4_51 ?_
  obtain ⟨e1, e2⟩ := some_inv hf
  exact g_iret C hr hlk e1 e2 dJ6_bitCount_0f7a4_52
/-! X8_clear -/
abbrev rm_X8_clear : Room := { frames := 0, cells := 0, slots := 0, locals := 0 }
theorem hiX8_clear_X8 : ∀ w ∈ u_ws RX8 TX8 4, w ∈ wsX8_clear := fun _ h => (List.mem_cons_of_mem _ (List.mem_append_right _ h))
set_option maxHeartbeats 4000000 in
set_option maxRecDepth 100000 in
theorem c_X8_clear {t : Int} (ht : isShf t) {σ : Mem} (hf : f_X8_clear t σ = some (r0, σ0)) : CTv l D ca ad A yX8_clear wsX8_clear rm_X8_clear [.ref (ad t)] σ σ0 := by
  refine ct_v (cc := cX8_clear) (own := RX8) (maxL := 1) (ret := none) (lv0 := [some (.ref (ad t))]) (by decide) rfl rfl rfl (Nat.le_of_ble_eq_true rfl) ?_
  intro p e s m below meth c C hr hlk hnm
  unfold f_X8_clear at hf
  refine g_aload_n (i := 0) C dX8_clear_0 rfl rfl ?_
  refine g_iconst C dX8_clear_1 ?_
  refine gp_X8_rowSort (i := 1) C ht hiX8_clear_X8 rfl dX8_clear_2 ?_
  refine g_aload_n (i := 0) C dX8_clear_5 rfl rfl ?_
  refine g_iconst C dX8_clear_6 ?_
  refine gp_X8_size (i := 2) C ht hiX8_clear_X8 rfl dX8_clear_7 ?_
  refine g_aload_n (i := 0) C dX8_clear_10 rfl rfl ?_
  refine g_null C dX8_clear_11 ?_
  refine g_fit_null (i := 3) C ht hiX8_clear_X8 rfl dX8_clear_12 ?_
  obtain ⟨e1, e2⟩ := some_inv hf
  exact g_vret C hr hlk e2 dX8_clear_15
/-! J7_fill_53178 -/
abbrev rm_J7_fill_53178 : Room := { frames := 0, cells := 0, slots := 0, locals := 0 }
set_option maxHeartbeats 4000000 in
set_option maxRecDepth 100000 in
theorem it_J7_fill_53178_5 (C : Cx p s m args c cJ7_fill_53178 4 RJ7 wsJ7_fill_53178 D ca A) (hr : meth.sig.returnType = none) (hlk : meth.locks = false) {u0 : Int} (hu0 : kI 120 u0) {p1 p3 : Int} {o : (Int × Mem) ⊕ (Mem)} (hc : ∀ (x2 : Int) (σ : Mem), o = .inl (x2, σ) → G p l e rm_J7_fill_53178 s m args below meth c 4 D ca ad A 0 0 (MQ below (Qv D ca ad A σ0) args s 0 0 A) σ 5 [some (.ref (ad u0)), some (.int (iI p1)), some (.int (iI x2)), some (.int (iI p3))] []) (he : ∀ (σ : Mem), o = .inr σ → G p l e rm_J7_fill_53178 s m args below meth c 4 D ca ad A 0 0 (MQ below (Qv D ca ad A σ0) args s 0 0 A) σ 20 [none, none, none, none] []) {x2 : Int} {σ : Mem} (hf : f_J7_fill_53178_5 u0 p1 p3 x2 σ = some o) : G p l e rm_J7_fill_53178 s m args below meth c 4 D ca ad A 0 0 (MQ below (Qv D ca ad A σ0) args s 0 0 A) σ 5 [some (.ref (ad u0)), some (.int (iI p1)), some (.int (iI x2)), some (.int (iI p3))] [] := by
  unfold f_J7_fill_53178_5 at hf
  refine g_iload_n (i := 2) C dJ7_fill_53178_5 rfl rfl ?_
  refine g_iload_n (i := 3) C dJ7_fill_53178_6 rfl rfl ?_
  refine g_icmp_ge (tgt := 20) C dJ7_fill_53178_7 (by decide) rfl rfl (fun c1 => ?_) (fun c1 => ?_)
  · have hf := if_t c1 hf
    exact g_mask [false, false, false, false] (he _ (Option.some.inj hf).symm)
  · have hf := if_f c1 hf
    refine g_aload_n (i := 0) C dJ7_fill_53178_10 rfl rfl ?_
    refine g_iload_n (i := 2) C dJ7_fill_53178_11 rfl rfl ?_
    refine g_iload_n (i := 1) C dJ7_fill_53178_12 rfl rfl ?_
    obtain ⟨hb2, hf⟩ := if_inv hf
    refine g_iastore (N := 120) C hu0 dJ7_fill_53178_13 rfl hb2 ?_
    refine g_iinc C dJ7_fill_53178_14 rfl (by decide) rfl ?_
    refine g_goto (tgt := 5) C dJ7_fill_53178_17 (by decide) ?_
    exact g_mask [true, true, true, true] (hc _ _ (Option.some.inj hf).symm)
set_option maxHeartbeats 4000000 in
set_option maxRecDepth 100000 in
theorem w_J7_fill_53178_5 (C : Cx p s m args c cJ7_fill_53178 4 RJ7 wsJ7_fill_53178 D ca A) (hr : meth.sig.returnType = none) (hlk : meth.locks = false) {u0 : Int} (hu0 : kI 120 u0) {p1 p3 : Int} {n : Nat} {x2 : Int} {σ : Mem} {b : (Mem)} (h : itr (fun z : Int × Mem => f_J7_fill_53178_5 u0 p1 p3 z.1 z.2) n (x2, σ) = some b) (he : ∀ (σ : Mem), b = σ → G p l e rm_J7_fill_53178 s m args below meth c 4 D ca ad A 0 0 (MQ below (Qv D ca ad A σ0) args s 0 0 A) σ 20 [none, none, none, none] []) : G p l e rm_J7_fill_53178 s m args below meth c 4 D ca ad A 0 0 (MQ below (Qv D ca ad A σ0) args s 0 0 A) σ 5 [some (.ref (ad u0)), some (.int (iI p1)), some (.int (iI x2)), some (.int (iI p3))] [] :=
  itr_rule (P := fun z : Int × Mem => G p l e rm_J7_fill_53178 s m args below meth c 4 D ca ad A 0 0 (MQ below (Qv D ca ad A σ0) args s 0 0 A) z.2 5 [some (.ref (ad u0)), some (.int (iI p1)), some (.int (iI z.1)), some (.int (iI p3))] []) (E := fun b => ∀ (σ : Mem), b = σ → G p l e rm_J7_fill_53178 s m args below meth c 4 D ca ad A 0 0 (MQ below (Qv D ca ad A σ0) args s 0 0 A) σ 20 [none, none, none, none] []) (fun z o hb hc he => it_J7_fill_53178_5 C hr hlk hu0 (fun _ _ e => hc _ e) (fun _ e => (he _ e) _ rfl) hb) n _ _ h he
set_option maxHeartbeats 4000000 in
set_option maxRecDepth 100000 in
theorem c_J7_fill_53178 {u0 : Int} (hu0 : kI 120 u0) {v1 : Int} {σ : Mem} (hf : f_J7_fill_53178 u0 v1 σ = some (r0, σ0)) : CTv l D ca ad A yJ7_fill_53178 wsJ7_fill_53178 rm_J7_fill_53178 [.ref (ad u0), .int (iI v1)] σ σ0 := by
  refine ct_v (cc := cJ7_fill_53178) (own := RJ7) (maxL := 4) (ret := none) (lv0 := [some (.ref (ad u0)), some (.int (iI v1)), none, none]) (by decide) rfl rfl rfl (Nat.le_of_ble_eq_true rfl) ?_
  intro p e s m below meth c C hr hlk hnm
  unfold f_J7_fill_53178 at hf
  refine g_iconst C dJ7_fill_53178_0 ?_
  refine g_istore_n (i := 2) C dJ7_fill_53178_1 rfl (by decide) rfl ?_
  refine g_aload_n (i := 0) C dJ7_fill_53178_2 rfl rfl ?_
  refine g_alen (N := 120) C hu0 dJ7_fill_53178_3 ?_
  refine g_istore_n (i := 3) C dJ7_fill_53178_4 rfl (by decide) rfl ?_
  obtain ⟨q4, hl5, hf⟩ := lb_inv hf
  refine g_mask [true, true, true, true] (w_J7_fill_53178_5 C hr hlk hu0 hl5 ?_)
  · rintro σ6 rfl
    obtain ⟨e1, e2⟩ := some_inv hf
    exact g_vret C hr hlk e2 dJ7_fill_53178_20
/-! X8_holdRow -/
abbrev rm_X8_holdRow : Room := { frames := 1, cells := 0, slots := 0, locals := 23 }
theorem hiX8_holdRow_X8 : ∀ w ∈ u_ws RX8 TX8 4, w ∈ wsX8_holdRow := fun _ h => (List.mem_cons_of_mem _ (List.mem_append_right _ h))
set_option maxHeartbeats 4000000 in
set_option maxRecDepth 100000 in
theorem c_X8_holdRow {t : Int} (ht : isShf t) {v1 v2 : Int} {σ : Mem} (hf : f_X8_holdRow t v1 v2 σ = some (r0, σ0)) : CTv l D ca ad A yX8_holdRow wsX8_holdRow rm_X8_holdRow [.ref (ad t), .int (iI v1), .int (iI v2)] σ σ0 := by
  refine ct_v (cc := cX8_holdRow) (own := RX8) (maxL := 3) (ret := none) (lv0 := [some (.ref (ad t)), some (.int (iI v1)), some (.int (iI v2))]) (by decide) rfl rfl rfl (Nat.le_of_ble_eq_true rfl) ?_
  intro p e s m below meth c C hr hlk hnm
  unfold f_X8_holdRow at hf
  refine g_aload_n (i := 0) C dX8_holdRow_0 rfl rfl ?_
  obtain ⟨r2, σ1, h3, hf⟩ := ob_inv hf
  refine g_callVv C (c_X8_clear ht h3) (cwV 0 C.2.2.2.2.1 gX8_holdRow_X8_clear rfl rfl rfl (by decide +kernel) ⟨Nat.le_of_ble_eq_true rfl, Nat.le_of_ble_eq_true rfl⟩) (ob_X8 ht) rfl rfl rfl rfl (Nat.le_of_ble_eq_true rfl) dX8_holdRow_1 ⟨Nat.zero_le _, Nat.zero_le _⟩ ?_
  refine g_aload_n (i := 0) C dX8_holdRow_4 rfl rfl ?_
  refine g_iload_n (i := 1) C dX8_holdRow_5 rfl rfl ?_
  refine gp_X8_rowSort (i := 1) C ht hiX8_holdRow_X8 rfl dX8_holdRow_6 ?_
  refine g_aload_n (i := 0) C dX8_holdRow_9 rfl rfl ?_
  refine g_iload_n (i := 2) C dX8_holdRow_10 rfl rfl ?_
  refine gp_X8_size (i := 2) C ht hiX8_holdRow_X8 rfl dX8_holdRow_11 ?_
  refine g_aload_n (i := 0) C dX8_holdRow_14 rfl rfl ?_
  refine gg_X8_values (i := 3) C ht rfl hiX8_holdRow_X8 rfl dX8_holdRow_15 ?_
  refine g_iconst C dX8_holdRow_18 ?_
  obtain ⟨r7, σ6, h8, hf⟩ := ob_inv hf
  refine g_callSv C (c_J7_fill_53178 (sh_arr ht) h8) (va_cwS 2 C.2.2.2.2.1 gX8_holdRow_J7_fill_53178 rfl rfl rfl (by decide +kernel) ⟨Nat.le_of_ble_eq_true rfl, Nat.le_of_ble_eq_true rfl⟩) rfl rfl (Nat.le_of_ble_eq_true rfl) dX8_holdRow_19 ⟨Nat.zero_le _, Nat.zero_le _⟩ ?_
  obtain ⟨e1, e2⟩ := some_inv hf
  exact g_vret C hr hlk e2 dX8_holdRow_22
/-! X8_isBare -/
abbrev rm_X8_isBare : Room := { frames := 0, cells := 0, slots := 0, locals := 0 }
theorem hiX8_isBare_X8 : ∀ w ∈ u_ws RX8 TX8 4, w ∈ wsX8_isBare := fun _ h => (List.mem_cons_of_mem _ (List.mem_append_right _ h))
set_option maxHeartbeats 4000000 in
set_option maxRecDepth 100000 in
theorem c_X8_isBare {t : Int} (ht : isShf t) {σ : Mem} (hf : f_X8_isBare t σ = some (r0, σ0)) : CTi l D ca ad A yX8_isBare wsX8_isBare rm_X8_isBare [.ref (ad t)] σ r0 σ0 := by
  refine ct_i (cc := cX8_isBare) (own := RX8) (maxL := 1) (ret := (some .boolean)) (lv0 := [some (.ref (ad t))]) (by decide) rfl rfl rfl (Nat.le_of_ble_eq_true rfl) ?_
  intro p e s m below meth c C hr hlk hnm
  unfold f_X8_isBare at hf
  refine g_aload_n (i := 0) C dX8_isBare_0 rfl rfl ?_
  refine g_fit_nn (i := 1) (tgt := 19) C ht hiX8_isBare_X8 rfl dX8_isBare_1 dX8_isBare_4 (by decide) (fun hf_1 => ?_) (fun hf_1 => ?_)
  · have hf := if_f hf_1 hf
    refine g_iconst C dX8_isBare_19 ?_
    obtain ⟨e1, e2⟩ := some_inv hf
    exact g_zret C hr hlk (by decide) e1 e2 dX8_isBare_20
  · have hf := if_t hf_1 hf
    refine g_aload_n (i := 0) C dX8_isBare_7 rfl rfl ?_
    refine gg_X8_rowSort (i := 2) C ht hiX8_isBare_X8 rfl dX8_isBare_8 ?_
    refine g_iconst C dX8_isBare_11 ?_
    refine g_icmp_ne (b' := (-1)) (tgt := 19) C dX8_isBare_12 (by decide) rfl (by decide) (fun c2 => ?_) (fun c2 => ?_)
    · have hf := if_f c2 hf
      refine g_iconst C dX8_isBare_19 ?_
      obtain ⟨e1, e2⟩ := some_inv hf
      exact g_zret C hr hlk (by decide) e1 e2 dX8_isBare_20
    · have hf := if_t c2 hf
      refine g_iconst C dX8_isBare_15 ?_
      refine g_goto (tgt := 20) C dX8_isBare_16 (by decide) ?_
      obtain ⟨e1, e2⟩ := some_inv hf
      exact g_zret C hr hlk (by decide) e1 e2 dX8_isBare_20
/-! X8_holdsRow -/
abbrev rm_X8_holdsRow : Room := { frames := 0, cells := 0, slots := 0, locals := 0 }
theorem hiX8_holdsRow_X8 : ∀ w ∈ u_ws RX8 TX8 4, w ∈ wsX8_holdsRow := fun _ h => (List.mem_cons_of_mem _ (List.mem_append_right _ h))
set_option maxHeartbeats 4000000 in
set_option maxRecDepth 100000 in
theorem c_X8_holdsRow {t : Int} (ht : isShf t) {σ : Mem} (hf : f_X8_holdsRow t σ = some (r0, σ0)) : CTi l D ca ad A yX8_holdsRow wsX8_holdsRow rm_X8_holdsRow [.ref (ad t)] σ r0 σ0 := by
  refine ct_i (cc := cX8_holdsRow) (own := RX8) (maxL := 1) (ret := (some .boolean)) (lv0 := [some (.ref (ad t))]) (by decide) rfl rfl rfl (Nat.le_of_ble_eq_true rfl) ?_
  intro p e s m below meth c C hr hlk hnm
  unfold f_X8_holdsRow at hf
  refine g_aload_n (i := 0) C dX8_holdsRow_0 rfl rfl ?_
  refine gg_X8_rowSort (i := 1) C ht hiX8_holdsRow_X8 rfl dX8_holdsRow_1 ?_
  refine g_iconst C dX8_holdsRow_4 ?_
  refine g_icmp_eq (b' := (-1)) (tgt := 12) C dX8_holdsRow_5 (by decide) rfl (by decide) (fun c1 => ?_) (fun c1 => ?_)
  · have hf := if_t c1 hf
    refine g_iconst C dX8_holdsRow_12 ?_
    obtain ⟨e1, e2⟩ := some_inv hf
    exact g_zret C hr hlk (by decide) e1 e2 dX8_holdsRow_13
  · have hf := if_f c1 hf
    refine g_iconst C dX8_holdsRow_8 ?_
    refine g_goto (tgt := 13) C dX8_holdsRow_9 (by decide) ?_
    obtain ⟨e1, e2⟩ := some_inv hf
    exact g_zret C hr hlk (by decide) e1 e2 dX8_holdsRow_13
/-! X8_holdsRowOf -/
abbrev rm_X8_holdsRowOf : Room := { frames := 1, cells := 0, slots := 0, locals := 20 }
theorem hiX8_holdsRowOf_X8 : ∀ w ∈ u_ws RX8 TX8 4, w ∈ wsX8_holdsRowOf := fun _ h => (List.mem_cons_of_mem _ (List.mem_append_right _ h))
set_option maxHeartbeats 4000000 in
set_option maxRecDepth 100000 in
theorem c_X8_holdsRowOf {t : Int} (ht : isShf t) {v1 : Int} {σ : Mem} (hf : f_X8_holdsRowOf t v1 σ = some (r0, σ0)) : CTi l D ca ad A yX8_holdsRowOf wsX8_holdsRowOf rm_X8_holdsRowOf [.ref (ad t), .int (iI v1)] σ r0 σ0 := by
  refine ct_i (cc := cX8_holdsRowOf) (own := RX8) (maxL := 2) (ret := (some .boolean)) (lv0 := [some (.ref (ad t)), some (.int (iI v1))]) (by decide) rfl rfl rfl (Nat.le_of_ble_eq_true rfl) ?_
  intro p e s m below meth c C hr hlk hnm
  unfold f_X8_holdsRowOf at hf
  refine g_aload_n (i := 0) C dX8_holdsRowOf_0 rfl rfl ?_
  obtain ⟨r2, σ1, h3, hf⟩ := ob_inv hf
  refine g_callVi C (c_X8_holdsRow ht h3) (cwV 0 C.2.2.2.2.1 gX8_holdsRowOf_X8_holdsRow rfl rfl rfl (by decide +kernel) ⟨Nat.le_of_ble_eq_true rfl, Nat.le_of_ble_eq_true rfl⟩) (ob_X8 ht) rfl rfl rfl rfl (Nat.le_of_ble_eq_true rfl) dX8_holdsRowOf_1 ⟨Nat.zero_le _, Nat.zero_le _⟩ ?_
  refine g_if_eq (tgt := 19) C dX8_holdsRowOf_4 (by decide) rfl (fun c4 => ?_) (fun c4 => ?_)
  · have hf := if_t c4 hf
    refine g_iconst C dX8_holdsRowOf_19 ?_
    obtain ⟨e1, e2⟩ := some_inv hf
    exact g_zret C hr hlk (by decide) e1 e2 dX8_holdsRowOf_20
  · have hf := if_f c4 hf
    refine g_aload_n (i := 0) C dX8_holdsRowOf_7 rfl rfl ?_
    refine gg_X8_rowSort (i := 1) C ht hiX8_holdsRowOf_X8 rfl dX8_holdsRowOf_8 ?_
    refine g_iload_n (i := 1) C dX8_holdsRowOf_11 rfl rfl ?_
    refine g_icmp_ne (tgt := 19) C dX8_holdsRowOf_12 (by decide) rfl rfl (fun c5 => ?_) (fun c5 => ?_)
    · have hf := if_f c5 hf
      refine g_iconst C dX8_holdsRowOf_19 ?_
      obtain ⟨e1, e2⟩ := some_inv hf
      exact g_zret C hr hlk (by decide) e1 e2 dX8_holdsRowOf_20
    · have hf := if_t c5 hf
      refine g_iconst C dX8_holdsRowOf_15 ?_
      refine g_goto (tgt := 20) C dX8_holdsRowOf_16 (by decide) ?_
      obtain ⟨e1, e2⟩ := some_inv hf
      exact g_zret C hr hlk (by decide) e1 e2 dX8_holdsRowOf_20
/-! X8_hasPlaces -/
abbrev rm_X8_hasPlaces : Room := { frames := 0, cells := 0, slots := 0, locals := 0 }
theorem hiX8_hasPlaces_X8 : ∀ w ∈ u_ws RX8 TX8 4, w ∈ wsX8_hasPlaces := fun _ h => (List.mem_cons_of_mem _ (List.mem_append_right _ h))
set_option maxHeartbeats 4000000 in
set_option maxRecDepth 100000 in
theorem c_X8_hasPlaces {t : Int} (ht : isShf t) {v1 v2 : Int} {σ : Mem} (hf : f_X8_hasPlaces t v1 v2 σ = some (r0, σ0)) : CTi l D ca ad A yX8_hasPlaces wsX8_hasPlaces rm_X8_hasPlaces [.ref (ad t), .int (iI v1), .int (iI v2)] σ r0 σ0 := by
  refine ct_i (cc := cX8_hasPlaces) (own := RX8) (maxL := 3) (ret := (some .boolean)) (lv0 := [some (.ref (ad t)), some (.int (iI v1)), some (.int (iI v2))]) (by decide) rfl rfl rfl (Nat.le_of_ble_eq_true rfl) ?_
  intro p e s m below meth c C hr hlk hnm
  unfold f_X8_hasPlaces at hf
  refine g_iload_n (i := 1) C dX8_hasPlaces_0 rfl rfl ?_
  refine g_if_lt (tgt := 30) C dX8_hasPlaces_1 (by decide) rfl (fun c1 => ?_) (fun c1 => ?_)
  · have hf := if_t c1 hf
    refine g_iconst C dX8_hasPlaces_30 ?_
    obtain ⟨e1, e2⟩ := some_inv hf
    exact g_zret C hr hlk (by decide) e1 e2 dX8_hasPlaces_31
  · have hf := if_f c1 hf
    refine g_iload_n (i := 2) C dX8_hasPlaces_4 rfl rfl ?_
    refine g_if_lt (tgt := 30) C dX8_hasPlaces_5 (by decide) rfl (fun c2 => ?_) (fun c2 => ?_)
    · have hf := if_t c2 hf
      refine g_iconst C dX8_hasPlaces_30 ?_
      obtain ⟨e1, e2⟩ := some_inv hf
      exact g_zret C hr hlk (by decide) e1 e2 dX8_hasPlaces_31
    · have hf := if_f c2 hf
      refine g_iload_n (i := 2) C dX8_hasPlaces_8 rfl rfl ?_
      refine g_aload_n (i := 0) C dX8_hasPlaces_9 rfl rfl ?_
      refine gg_X8_size (i := 1) C ht hiX8_hasPlaces_X8 rfl dX8_hasPlaces_10 ?_
      refine g_icmp_gt (tgt := 30) C dX8_hasPlaces_13 (by decide) rfl rfl (fun c3 => ?_) (fun c3 => ?_)
      · have hf := if_t c3 hf
        refine g_iconst C dX8_hasPlaces_30 ?_
        obtain ⟨e1, e2⟩ := some_inv hf
        exact g_zret C hr hlk (by decide) e1 e2 dX8_hasPlaces_31
      · have hf := if_f c3 hf
        refine g_iload_n (i := 1) C dX8_hasPlaces_16 rfl rfl ?_
        refine g_aload_n (i := 0) C dX8_hasPlaces_17 rfl rfl ?_
        refine gg_X8_size (i := 1) C ht hiX8_hasPlaces_X8 rfl dX8_hasPlaces_18 ?_
        refine g_iload_n (i := 2) C dX8_hasPlaces_21 rfl rfl ?_
        refine g_isub C dX8_hasPlaces_22 ?_
        refine g_icmp_gt (tgt := 30) C dX8_hasPlaces_23 (by decide) rfl rfl (fun c4 => ?_) (fun c4 => ?_)
        · have hf := if_t c4 hf
          refine g_iconst C dX8_hasPlaces_30 ?_
          obtain ⟨e1, e2⟩ := some_inv hf
          exact g_zret C hr hlk (by decide) e1 e2 dX8_hasPlaces_31
        · have hf := if_f c4 hf
          refine g_iconst C dX8_hasPlaces_26 ?_
          refine g_goto (tgt := 31) C dX8_hasPlaces_27 (by decide) ?_
          obtain ⟨e1, e2⟩ := some_inv hf
          exact g_zret C hr hlk (by decide) e1 e2 dX8_hasPlaces_31
/-! X8_setValue -/
abbrev rm_X8_setValue : Room := { frames := 0, cells := 0, slots := 0, locals := 0 }
theorem hiX8_setValue_X8 : ∀ w ∈ u_ws RX8 TX8 4, w ∈ wsX8_setValue := fun _ h => (List.mem_cons_of_mem _ (List.mem_append_right _ h))
set_option maxHeartbeats 4000000 in
set_option maxRecDepth 100000 in
theorem c_X8_setValue {t : Int} (ht : isShf t) {v1 v2 : Int} {σ : Mem} (hf : f_X8_setValue t v1 v2 σ = some (r0, σ0)) : CTv l D ca ad A yX8_setValue wsX8_setValue rm_X8_setValue [.ref (ad t), .int (iI v1), .int (iI v2)] σ σ0 := by
  refine ct_v (cc := cX8_setValue) (own := RX8) (maxL := 3) (ret := none) (lv0 := [some (.ref (ad t)), some (.int (iI v1)), some (.int (iI v2))]) (by decide) rfl rfl rfl (Nat.le_of_ble_eq_true rfl) ?_
  intro p e s m below meth c C hr hlk hnm
  unfold f_X8_setValue at hf
  refine g_aload_n (i := 0) C dX8_setValue_0 rfl rfl ?_
  refine gg_X8_rowSort (i := 1) C ht hiX8_setValue_X8 rfl dX8_setValue_1 ?_
  refine g_if_ne (tgt := 18) C dX8_setValue_4 (by decide) rfl (fun c1 => ?_) (fun c1 => ?_)
  · have hf := if_f c1 hf
    refine g_aload_n (i := 0) C dX8_setValue_18 rfl rfl ?_
    refine gg_X8_rowSort (i := 1) C ht hiX8_setValue_X8 rfl dX8_setValue_19 ?_
    refine g_iconst C dX8_setValue_22 ?_
    refine g_icmp_ne (b' := 1) (tgt := 37) C dX8_setValue_23 (by decide) rfl (by decide) (fun c2 => ?_) (fun c2 => ?_)
    · have hf := if_f c2 hf
      refine g_aload_n (i := 0) C dX8_setValue_37 rfl rfl ?_
      refine gg_X8_values (i := 2) C ht rfl hiX8_setValue_X8 rfl dX8_setValue_38 ?_
      refine g_iload_n (i := 1) C dX8_setValue_41 rfl rfl ?_
      refine g_iload_n (i := 2) C dX8_setValue_42 rfl rfl ?_
      obtain ⟨hb3, hf⟩ := if_inv hf
      refine g_iastore (N := 120) C (sh_arr ht) dX8_setValue_43 rfl hb3 ?_
      obtain ⟨e1, e2⟩ := some_inv hf
      exact g_vret C hr hlk e2 dX8_setValue_44
    · have hf := if_t c2 hf
      refine g_aload_n (i := 0) C dX8_setValue_26 rfl rfl ?_
      refine gg_X8_values (i := 2) C ht rfl hiX8_setValue_X8 rfl dX8_setValue_27 ?_
      refine g_iload_n (i := 1) C dX8_setValue_30 rfl rfl ?_
      refine g_iload_n (i := 2) C dX8_setValue_31 rfl rfl ?_
      refine g_i2s C dX8_setValue_32 ?_
      obtain ⟨hb5, hf⟩ := if_inv hf
      refine g_iastore (N := 120) C (sh_arr ht) dX8_setValue_33 rfl hb5 ?_
      refine g_goto (tgt := 44) C dX8_setValue_34 (by decide) ?_
      obtain ⟨e1, e2⟩ := some_inv hf
      exact g_vret C hr hlk e2 dX8_setValue_44
  · have hf := if_t c1 hf
    refine g_aload_n (i := 0) C dX8_setValue_7 rfl rfl ?_
    refine gg_X8_values (i := 2) C ht rfl hiX8_setValue_X8 rfl dX8_setValue_8 ?_
    refine g_iload_n (i := 1) C dX8_setValue_11 rfl rfl ?_
    refine g_iload_n (i := 2) C dX8_setValue_12 rfl rfl ?_
    refine g_i2b C dX8_setValue_13 ?_
    obtain ⟨hb7, hf⟩ := if_inv hf
    refine g_iastore (N := 120) C (sh_arr ht) dX8_setValue_14 rfl hb7 ?_
    refine g_goto (tgt := 44) C dX8_setValue_15 (by decide) ?_
    obtain ⟨e1, e2⟩ := some_inv hf
    exact g_vret C hr hlk e2 dX8_setValue_44
end Wk
