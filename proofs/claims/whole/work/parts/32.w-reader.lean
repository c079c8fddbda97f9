section Wk
variable {p : Program} {l : Launch} {e : Env} {s : State} {m : MethodId} {args : Array Value} {below : List Frame} {meth : Method} {c : Code}
variable {D : va_G} {ca : Ca} {ad : Int → Nat} {A : Nat → Prop} {r0 : Int} {σ0 : Mem}
/-! X3_settle -/
abbrev rm_X3_settle : Room := { frames := 0, cells := 0, slots := 0, locals := 0 }
theorem hiX3_settle_X3 : ∀ w ∈ u_ws RX3 TX3 4, w ∈ wsX3_settle := fun _ h => (List.mem_cons_of_mem _ (List.mem_append_left _ (List.mem_append_right _ h)))
theorem hiX3_settle_X4 : ∀ w ∈ u_ws RX4 TX4 9, w ∈ wsX3_settle := fun _ h => (List.mem_cons_of_mem _ (List.mem_append_right _ h))
set_option maxHeartbeats 4000000 in
set_option maxRecDepth 100000 in
theorem it_X3_settle_33 (C : Cx p s m args c cX3_settle 4 RX3 wsX3_settle D ca A) (hr : meth.sig.returnType = none) (hlk : meth.locks = false) {p1 : Int} {o : (Int × Mem) ⊕ (Mem)} (hc : ∀ (x2 : Int) (σ : Mem), o = .inl (x2, σ) → G p l e rm_X3_settle s m args below meth c 4 D ca ad A 0 0 (MQ below (Qv D ca ad A σ0) args s 0 0 A) σ 33 [some (.ref (ad 76)), some (.int (iI p1)), some (.int (iI x2)), none] []) (he : ∀ (σ : Mem), o = .inr σ → G p l e rm_X3_settle s m args below meth c 4 D ca ad A 0 0 (MQ below (Qv D ca ad A σ0) args s 0 0 A) σ 93 [some (.ref (ad 76)), some (.int (iI p1)), none, none] []) {x2 : Int} {σ : Mem} (hf : f_X3_settle_33 p1 x2 σ = some o) : G p l e rm_X3_settle s m args below meth c 4 D ca ad A 0 0 (MQ below (Qv D ca ad A σ0) args s 0 0 A) σ 33 [some (.ref (ad 76)), some (.int (iI p1)), some (.int (iI x2)), none] [] := by
  unfold f_X3_settle_33 at hf
  refine g_iload_n (i := 2) C dX3_settle_33 rfl rfl ?_
  refine g_aload_n (i := 0) C dX3_settle_34 rfl rfl ?_
  refine gg_X3_market (i := 4) C hiX3_settle_X3 rfl dX3_settle_35 ?_
  refine gg_X4_marks (i := 6) C (by decide) hiX3_settle_X4 rfl dX3_settle_38 ?_
  refine g_icmp_ge (tgt := 93) C dX3_settle_41 (by decide) rfl rfl (fun c4 => ?_) (fun c4 => ?_)
  · have hf := if_t c4 hf
    exact g_mask [true, true, false, false] (he _ (Option.some.inj hf).symm)
  · have hf := if_f c4 hf
    refine g_aload_n (i := 0) C dX3_settle_44 rfl rfl ?_
    refine gg_X3_pay (i := 3) C hiX3_settle_X3 rfl dX3_settle_45 ?_
    refine g_iload_n (i := 2) C dX3_settle_48 rfl rfl ?_
    obtain ⟨hb5, hf⟩ := if_inv hf
    refine g_iaload (N := 4) C (by decide) dX3_settle_49 rfl hb5 ?_
    refine g_aload_n (i := 0) C dX3_settle_50 rfl rfl ?_
    refine gg_X3_market (i := 4) C hiX3_settle_X3 rfl dX3_settle_51 ?_
    refine gg_X4_cost (i := 5) (b := 16)  C (by decide) (by decide) hiX3_settle_X4 rfl dX3_settle_54 ?_
    refine g_iload_n (i := 2) C dX3_settle_57 rfl rfl ?_
    refine g_aaload C (Or.inr ⟨(by decide), rfl, hb5⟩) dX3_settle_58 rfl ?_
    refine g_iload_n (i := 1) C dX3_settle_59 rfl rfl ?_
    obtain ⟨hb6, hf⟩ := if_inv hf
    refine g_iaload (N := 4) C (kI_row (by decide) hb5) dX3_settle_60 rfl hb6 ?_
    refine g_isub C dX3_settle_61 ?_
    refine g_istore_n (i := 3) C dX3_settle_62 rfl (by decide) rfl ?_
    refine g_iload_n (i := 3) C dX3_settle_63 rfl rfl ?_
    refine g_aload_n (i := 0) C dX3_settle_64 rfl rfl ?_
    refine gg_X3_got (i := 2) C hiX3_settle_X3 rfl dX3_settle_65 ?_
    refine g_iload_n (i := 1) C dX3_settle_68 rfl rfl ?_
    refine g_iaload (N := 4) C (by decide) dX3_settle_69 rfl hb6 ?_
    refine g_icmp_le (tgt := 87) C dX3_settle_70 (by decide) rfl rfl (fun c8 => ?_) (fun c8 => ?_)
    · have hf := if_t c8 hf
      refine g_iinc C dX3_settle_87 rfl (by decide) rfl ?_
      refine g_goto (tgt := 33) C dX3_settle_90 (by decide) ?_
      exact g_mask [true, true, true, false] (hc _ _ (Option.some.inj hf).symm)
    · have hf := if_f c8 hf
      refine g_aload_n (i := 0) C dX3_settle_73 rfl rfl ?_
      refine gg_X3_place (i := 1) C hiX3_settle_X3 rfl dX3_settle_74 ?_
      refine g_iload_n (i := 1) C dX3_settle_77 rfl rfl ?_
      refine g_iload_n (i := 2) C dX3_settle_78 rfl rfl ?_
      refine g_iastore (N := 4) C (by decide) dX3_settle_79 rfl hb6 ?_
      refine g_aload_n (i := 0) C dX3_settle_80 rfl rfl ?_
      refine gg_X3_got (i := 2) C hiX3_settle_X3 rfl dX3_settle_81 ?_
      refine g_iload_n (i := 1) C dX3_settle_84 rfl rfl ?_
      refine g_iload_n (i := 3) C dX3_settle_85 rfl rfl ?_
      refine g_iastore (N := 4) C (by decide) dX3_settle_86 rfl hb6 ?_
      refine g_iinc C dX3_settle_87 rfl (by decide) rfl ?_
      refine g_goto (tgt := 33) C dX3_settle_90 (by decide) ?_
      exact g_mask [true, true, true, false] (hc _ _ (Option.some.inj hf).symm)
set_option maxHeartbeats 4000000 in
set_option maxRecDepth 100000 in
theorem w_X3_settle_33 (C : Cx p s m args c cX3_settle 4 RX3 wsX3_settle D ca A) (hr : meth.sig.returnType = none) (hlk : meth.locks = false) {p1 : Int} {n : Nat} {x2 : Int} {σ : Mem} {b : (Mem)} (h : itr (fun z : Int × Mem => f_X3_settle_33 p1 z.1 z.2) n (x2, σ) = some b) (he : ∀ (σ : Mem), b = σ → G p l e rm_X3_settle s m args below meth c 4 D ca ad A 0 0 (MQ below (Qv D ca ad A σ0) args s 0 0 A) σ 93 [some (.ref (ad 76)), some (.int (iI p1)), none, none] []) : G p l e rm_X3_settle s m args below meth c 4 D ca ad A 0 0 (MQ below (Qv D ca ad A σ0) args s 0 0 A) σ 33 [some (.ref (ad 76)), some (.int (iI p1)), some (.int (iI x2)), none] [] :=
  itr_rule (P := fun z : Int × Mem => G p l e rm_X3_settle s m args below meth c 4 D ca ad A 0 0 (MQ below (Qv D ca ad A σ0) args s 0 0 A) z.2 33 [some (.ref (ad 76)), some (.int (iI p1)), some (.int (iI z.1)), none] []) (E := fun b => ∀ (σ : Mem), b = σ → G p l e rm_X3_settle s m args below meth c 4 D ca ad A 0 0 (MQ below (Qv D ca ad A σ0) args s 0 0 A) σ 93 [some (.ref (ad 76)), some (.int (iI p1)), none, none] []) (fun z o hb hc he => it_X3_settle_33 C hr hlk (fun _ _ e => hc _ e) (fun _ e => (he _ e) _ rfl) hb) n _ _ h he
set_option maxHeartbeats 4000000 in
set_option maxRecDepth 100000 in
theorem c_X3_settle {v1 : Int} {σ : Mem} (hf : f_X3_settle v1 σ = some (r0, σ0)) : CTv l D ca ad A yX3_settle wsX3_settle rm_X3_settle [.ref (ad 76), .int (iI v1)] σ σ0 := by
  refine ct_v (cc := cX3_settle) (own := RX3) (maxL := 4) (ret := none) (lv0 := [some (.ref (ad 76)), some (.int (iI v1)), none, none]) (by decide) rfl rfl rfl (Nat.le_of_ble_eq_true rfl) ?_
  intro p e s m below meth c C hr hlk hnm
  unfold f_X3_settle at hf
  refine g_aload_n (i := 0) C dX3_settle_0 rfl rfl ?_
  refine gg_X3_place (i := 1) C hiX3_settle_X3 rfl dX3_settle_1 ?_
  refine g_iload_n (i := 1) C dX3_settle_4 rfl rfl ?_
  refine g_iconst C dX3_settle_5 ?_
  obtain ⟨hb1, hf⟩ := if_inv hf
  refine g_iastore (N := 4) C (by decide) dX3_settle_6 rfl hb1 ?_
  refine g_aload_n (i := 0) C dX3_settle_7 rfl rfl ?_
  refine gg_X3_got (i := 2) C hiX3_settle_X3 rfl dX3_settle_8 ?_
  refine g_iload_n (i := 1) C dX3_settle_11 rfl rfl ?_
  refine g_aload_n (i := 0) C dX3_settle_12 rfl rfl ?_
  refine gg_X3_pay (i := 3) C hiX3_settle_X3 rfl dX3_settle_13 ?_
  refine g_iconst C dX3_settle_16 ?_
  refine g_iaload (N := 4) (j := 0) C (by decide) dX3_settle_17 (by decide) (by decide) ?_
  refine g_aload_n (i := 0) C dX3_settle_18 rfl rfl ?_
  refine gg_X3_market (i := 4) C hiX3_settle_X3 rfl dX3_settle_19 ?_
  refine gg_X4_cost (i := 5) (b := 16)  C (by decide) (by decide) hiX3_settle_X4 rfl dX3_settle_22 ?_
  refine g_iconst C dX3_settle_25 ?_
  refine g_aaload (j := 0) C (Or.inr ⟨(by decide), rfl, (by decide)⟩) dX3_settle_26 (by decide) ?_
  refine g_iload_n (i := 1) C dX3_settle_27 rfl rfl ?_
  refine g_iaload (N := 4) C (kI_row (by decide) (by decide)) dX3_settle_28 rfl hb1 ?_
  refine g_isub C dX3_settle_29 ?_
  refine g_iastore (N := 4) C (by decide) dX3_settle_30 rfl hb1 ?_
  refine g_iconst C dX3_settle_31 ?_
  refine g_istore_n (i := 2) C dX3_settle_32 rfl (by decide) rfl ?_
  obtain ⟨q11, hl12, hf⟩ := lb_inv hf
  refine g_mask [true, true, true, false] (w_X3_settle_33 C hr hlk hl12 ?_)
  · rintro σ13 rfl
    refine g_aload_n (i := 0) C dX3_settle_93 rfl rfl ?_
    refine gg_X3_market (i := 4) C hiX3_settle_X3 rfl dX3_settle_94 ?_
    refine gg_X4_away (i := 7) (b := 13)  C (by decide) (by decide) hiX3_settle_X4 rfl dX3_settle_97 ?_
    refine g_iload_n (i := 1) C dX3_settle_100 rfl rfl ?_
    obtain ⟨hb14, hf⟩ := if_inv hf
    refine g_iaload (N := 4) C (by decide) dX3_settle_101 rfl hb14 ?_
    refine g_aload_n (i := 0) C dX3_settle_102 rfl rfl ?_
    refine gg_X3_got (i := 2) C hiX3_settle_X3 rfl dX3_settle_103 ?_
    refine g_iload_n (i := 1) C dX3_settle_106 rfl rfl ?_
    refine g_iaload (N := 4) C (by decide) dX3_settle_107 rfl hb14 ?_
    refine g_icmp_le (tgt := 133) C dX3_settle_108 (by decide) rfl rfl (fun c15 => ?_) (fun c15 => ?_)
    · have hf := if_t c15 hf
      obtain ⟨e1, e2⟩ := some_inv hf
      exact g_vret C hr hlk e2 dX3_settle_133
    · have hf := if_f c15 hf
      refine g_aload_n (i := 0) C dX3_settle_111 rfl rfl ?_
      refine gg_X3_place (i := 1) C hiX3_settle_X3 rfl dX3_settle_112 ?_
      refine g_iload_n (i := 1) C dX3_settle_115 rfl rfl ?_
      refine g_iconst C dX3_settle_116 ?_
      refine g_iastore (N := 4) C (by decide) dX3_settle_117 rfl hb14 ?_
      refine g_aload_n (i := 0) C dX3_settle_118 rfl rfl ?_
      refine gg_X3_got (i := 2) C hiX3_settle_X3 rfl dX3_settle_119 ?_
      refine g_iload_n (i := 1) C dX3_settle_122 rfl rfl ?_
      refine g_aload_n (i := 0) C dX3_settle_123 rfl rfl ?_
      refine gg_X3_market (i := 4) C hiX3_settle_X3 rfl dX3_settle_124 ?_
      refine gg_X4_away (i := 7) (b := 13)  C (by decide) (by decide) hiX3_settle_X4 rfl dX3_settle_127 ?_
      refine g_iload_n (i := 1) C dX3_settle_130 rfl rfl ?_
      refine g_iaload (N := 4) C (by decide) dX3_settle_131 rfl hb14 ?_
      refine g_iastore (N := 4) C (by decide) dX3_settle_132 rfl hb14 ?_
      obtain ⟨e1, e2⟩ := some_inv hf
      exact g_vret C hr hlk e2 dX3_settle_133
/-! X3_readFrom -/
abbrev rm_X3_readFrom : Room := { frames := 1, cells := 0, slots := 0, locals := 23 }
theorem hiX3_readFrom_X3 : ∀ w ∈ u_ws RX3 TX3 4, w ∈ wsX3_readFrom := fun _ h => (List.mem_cons_of_mem _ (List.mem_append_left _ (List.mem_append_right _ h)))
theorem hiX3_readFrom_X4 : ∀ w ∈ u_ws RX4 TX4 9, w ∈ wsX3_readFrom := fun _ h => (List.mem_cons_of_mem _ (List.mem_append_right _ h))
theorem hiX3_readFrom_X8 : ∀ w ∈ u_ws RX8 TX8 4, w ∈ wsX3_readFrom := fun _ h => (List.mem_cons_of_mem _ (List.mem_append_left _ (List.mem_append_left _ (List.mem_append_right _ h))))
set_option maxHeartbeats 4000000 in
set_option maxRecDepth 100000 in
theorem it_X3_readFrom_18 (C : Cx p s m args c cX3_readFrom 4 RX3 wsX3_readFrom D ca A) (hr : meth.sig.returnType = (some .boolean)) (hlk : meth.locks = false) {u1 : Int} (hu1 : isShf u1) {o : (Int × Mem) ⊕ ((Int × Mem) ⊕ (Mem))} (hc : ∀ (x2 : Int) (σ : Mem), o = .inl (x2, σ) → G p l e rm_X3_readFrom s m args below meth c 4 D ca ad A 0 0 (MQ below (Qi D ca ad A r0 σ0) args s 0 0 A) σ 18 [some (.ref (ad 76)), some (.ref (ad u1)), some (.int (iI x2)), none] []) (he1 : ∀ (r1 : Int) (σ1 : Mem), o = .inr (.inl (r1, σ1)) → r1 = r0 ∧ σ1 = σ0) (he2 : ∀ (σ : Mem), o = .inr (.inr σ) → G p l e rm_X3_readFrom s m args below meth c 4 D ca ad A 0 0 (MQ below (Qi D ca ad A r0 σ0) args s 0 0 A) σ 62 [some (.ref (ad 76)), none, none, none] []) {x2 : Int} {σ : Mem} (hf : f_X3_readFrom_18 u1 x2 σ = some o) : G p l e rm_X3_readFrom s m args below meth c 4 D ca ad A 0 0 (MQ below (Qi D ca ad A r0 σ0) args s 0 0 A) σ 18 [some (.ref (ad 76)), some (.ref (ad u1)), some (.int (iI x2)), none] [] := by
  unfold f_X3_readFrom_18 at hf
  refine g_iload_n (i := 2) C dX3_readFrom_18 rfl rfl ?_
  refine g_aload_n (i := 0) C dX3_readFrom_19 rfl rfl ?_
  refine gg_X3_market (i := 2) C hiX3_readFrom_X3 rfl dX3_readFrom_20 ?_
  refine gg_X4_marks (i := 3) C (by decide) hiX3_readFrom_X4 rfl dX3_readFrom_23 ?_
  refine g_icmp_ge (tgt := 62) C dX3_readFrom_26 (by decide) rfl rfl (fun c9 => ?_) (fun c9 => ?_)
  · have hf := if_t c9 hf
    exact g_mask [true, false, false, false] (he2 _ (Option.some.inj hf).symm)
  · have hf := if_f c9 hf
    refine g_aload_n (i := 1) C dX3_readFrom_29 rfl rfl ?_
    refine gg_X8_values (i := 4) C hu1 rfl hiX3_readFrom_X8 rfl dX3_readFrom_30 ?_
    refine g_iload_n (i := 2) C dX3_readFrom_33 rfl rfl ?_
    obtain ⟨hb10, hf⟩ := if_inv hf
    refine g_iaload (N := 120) C (sh_arr hu1) dX3_readFrom_34 rfl hb10 ?_
    refine g_istore_n (i := 3) C dX3_readFrom_35 rfl (by decide) rfl ?_
    refine g_iload_n (i := 3) C dX3_readFrom_36 rfl rfl ?_
    refine g_if_lt (tgt := 47) C dX3_readFrom_37 (by decide) rfl (fun c12 => ?_) (fun c12 => ?_)
    · have hf := if_t c12 hf
      refine g_iconst C dX3_readFrom_47 ?_
      obtain ⟨e1, e2⟩ := he1 _ _ (Option.some.inj hf).symm
      exact g_zret C hr hlk (by decide) e1 e2 dX3_readFrom_48
    · have hf := if_f c12 hf
      refine g_iload_n (i := 3) C dX3_readFrom_40 rfl rfl ?_
      refine g_sipush C dX3_readFrom_41 (by decide) ?_
      refine g_icmp_le (b' := 1999) (tgt := 49) C dX3_readFrom_44 (by decide) rfl (by decide) (fun c13 => ?_) (fun c13 => ?_)
      · have hf := if_t c13 hf
        refine g_aload_n (i := 0) C dX3_readFrom_49 rfl rfl ?_
        refine gg_X3_pay (i := 5) C hiX3_readFrom_X3 rfl dX3_readFrom_50 ?_
        refine g_iload_n (i := 2) C dX3_readFrom_53 rfl rfl ?_
        refine g_iload_n (i := 3) C dX3_readFrom_54 rfl rfl ?_
        obtain ⟨hb14, hf⟩ := if_inv hf
        refine g_iastore (N := 4) C (by decide) dX3_readFrom_55 rfl hb14 ?_
        refine g_iinc C dX3_readFrom_56 rfl (by decide) rfl ?_
        refine g_goto (tgt := 18) C dX3_readFrom_59 (by decide) ?_
        exact g_mask [true, true, true, false] (hc _ _ (Option.some.inj hf).symm)
      · have hf := if_f c13 hf
        refine g_iconst C dX3_readFrom_47 ?_
        obtain ⟨e1, e2⟩ := he1 _ _ (Option.some.inj hf).symm
        exact g_zret C hr hlk (by decide) e1 e2 dX3_readFrom_48
set_option maxHeartbeats 4000000 in
set_option maxRecDepth 100000 in
theorem w_X3_readFrom_18 (C : Cx p s m args c cX3_readFrom 4 RX3 wsX3_readFrom D ca A) (hr : meth.sig.returnType = (some .boolean)) (hlk : meth.locks = false) {u1 : Int} (hu1 : isShf u1) {n : Nat} {x2 : Int} {σ : Mem} {b : ((Int × Mem) ⊕ (Mem))} (h : itr (fun z : Int × Mem => f_X3_readFrom_18 u1 z.1 z.2) n (x2, σ) = some b) (he1 : ∀ (r1 : Int) (σ1 : Mem), b = .inl (r1, σ1) → r1 = r0 ∧ σ1 = σ0) (he2 : ∀ (σ : Mem), b = .inr σ → G p l e rm_X3_readFrom s m args below meth c 4 D ca ad A 0 0 (MQ below (Qi D ca ad A r0 σ0) args s 0 0 A) σ 62 [some (.ref (ad 76)), none, none, none] []) : G p l e rm_X3_readFrom s m args below meth c 4 D ca ad A 0 0 (MQ below (Qi D ca ad A r0 σ0) args s 0 0 A) σ 18 [some (.ref (ad 76)), some (.ref (ad u1)), some (.int (iI x2)), none] [] :=
  itr_rule (P := fun z : Int × Mem => G p l e rm_X3_readFrom s m args below meth c 4 D ca ad A 0 0 (MQ below (Qi D ca ad A r0 σ0) args s 0 0 A) z.2 18 [some (.ref (ad 76)), some (.ref (ad u1)), some (.int (iI z.1)), none] []) (E := fun b => (∀ (r1 : Int) (σ1 : Mem), b = .inl (r1, σ1) → r1 = r0 ∧ σ1 = σ0) ∧ (∀ (σ : Mem), b = .inr σ → G p l e rm_X3_readFrom s m args below meth c 4 D ca ad A 0 0 (MQ below (Qi D ca ad A r0 σ0) args s 0 0 A) σ 62 [some (.ref (ad 76)), none, none, none] [])) (fun z o hb hc he => it_X3_readFrom_18 C hr hlk hu1 (fun _ _ e => hc _ e) (fun r1 σ1 e => (he _ e).1 r1 σ1 rfl) (fun _ e => (he _ e).2 _ rfl) hb) n _ _ h ⟨he1, he2⟩
set_option maxHeartbeats 4000000 in
set_option maxRecDepth 100000 in
theorem it_X3_readFrom_64 (C : Cx p s m args c cX3_readFrom 4 RX3 wsX3_readFrom D ca A) (hr : meth.sig.returnType = (some .boolean)) (hlk : meth.locks = false) {u1 : Int} (hu1 : isShf u1) {o : (Int × Mem) ⊕ (Mem)} (hc : ∀ (x2 : Int) (σ : Mem), o = .inl (x2, σ) → G p l e rm_X3_readFrom s m args below meth c 4 D ca ad A 0 0 (MQ below (Qi D ca ad A r0 σ0) args s 0 0 A) σ 64 [some (.ref (ad 76)), none, some (.int (iI x2)), none] []) (he : ∀ (σ : Mem), o = .inr σ → G p l e rm_X3_readFrom s m args below meth c 4 D ca ad A 0 0 (MQ below (Qi D ca ad A r0 σ0) args s 0 0 A) σ 86 [none, none, none, none] []) {x2 : Int} {σ : Mem} (hf : f_X3_readFrom_64 u1 x2 σ = some o) : G p l e rm_X3_readFrom s m args below meth c 4 D ca ad A 0 0 (MQ below (Qi D ca ad A r0 σ0) args s 0 0 A) σ 64 [some (.ref (ad 76)), none, some (.int (iI x2)), none] [] := by
  unfold f_X3_readFrom_64 at hf
  refine g_iload_n (i := 2) C dX3_readFrom_64 rfl rfl ?_
  refine g_aload_n (i := 0) C dX3_readFrom_65 rfl rfl ?_
  refine gg_X3_market (i := 2) C hiX3_readFrom_X3 rfl dX3_readFrom_66 ?_
  refine gg_X4_sorts (i := 6) C (by decide) hiX3_readFrom_X4 rfl dX3_readFrom_69 ?_
  refine g_icmp_ge (tgt := 86) C dX3_readFrom_72 (by decide) rfl rfl (fun c19 => ?_) (fun c19 => ?_)
  · have hf := if_t c19 hf
    exact g_mask [false, false, false, false] (he _ (Option.some.inj hf).symm)
  · have hf := if_f c19 hf
    refine g_aload_n (i := 0) C dX3_readFrom_75 rfl rfl ?_
    refine g_iload_n (i := 2) C dX3_readFrom_76 rfl rfl ?_
    obtain ⟨r21, σ20, h22, hf⟩ := ob_inv hf
    refine g_callVv C (c_X3_settle  h22) (cwV 1 C.2.2.2.2.1 gX3_readFrom_X3_settle rfl rfl rfl (by decide +kernel) ⟨Nat.le_of_ble_eq_true rfl, Nat.le_of_ble_eq_true rfl⟩) ob_X3 rfl rfl rfl rfl (Nat.le_of_ble_eq_true rfl) dX3_readFrom_77 ⟨Nat.zero_le _, Nat.zero_le _⟩ ?_
    refine g_iinc C dX3_readFrom_80 rfl (by decide) rfl ?_
    refine g_goto (tgt := 64) C dX3_readFrom_83 (by decide) ?_
    exact g_mask [true, false, true, false] (hc _ _ (Option.some.inj hf).symm)
set_option maxHeartbeats 4000000 in
set_option maxRecDepth 100000 in
theorem w_X3_readFrom_64 (C : Cx p s m args c cX3_readFrom 4 RX3 wsX3_readFrom D ca A) (hr : meth.sig.returnType = (some .boolean)) (hlk : meth.locks = false) {u1 : Int} (hu1 : isShf u1) {n : Nat} {x2 : Int} {σ : Mem} {b : (Mem)} (h : itr (fun z : Int × Mem => f_X3_readFrom_64 u1 z.1 z.2) n (x2, σ) = some b) (he : ∀ (σ : Mem), b = σ → G p l e rm_X3_readFrom s m args below meth c 4 D ca ad A 0 0 (MQ below (Qi D ca ad A r0 σ0) args s 0 0 A) σ 86 [none, none, none, none] []) : G p l e rm_X3_readFrom s m args below meth c 4 D ca ad A 0 0 (MQ below (Qi D ca ad A r0 σ0) args s 0 0 A) σ 64 [some (.ref (ad 76)), none, some (.int (iI x2)), none] [] :=
  itr_rule (P := fun z : Int × Mem => G p l e rm_X3_readFrom s m args below meth c 4 D ca ad A 0 0 (MQ below (Qi D ca ad A r0 σ0) args s 0 0 A) z.2 64 [some (.ref (ad 76)), none, some (.int (iI z.1)), none] []) (E := fun b => ∀ (σ : Mem), b = σ → G p l e rm_X3_readFrom s m args below meth c 4 D ca ad A 0 0 (MQ below (Qi D ca ad A r0 σ0) args s 0 0 A) σ 86 [none, none, none, none] []) (fun z o hb hc he => it_X3_readFrom_64 C hr hlk hu1 (fun _ _ e => hc _ e) (fun _ e => (he _ e) _ rfl) hb) n _ _ h he
set_option maxHeartbeats 4000000 in
set_option maxRecDepth 100000 in
theorem c_X3_readFrom {u1 : Int} (hu1 : isShf u1) {σ : Mem} (hf : f_X3_readFrom u1 σ = some (r0, σ0)) : CTi l D ca ad A yX3_readFrom wsX3_readFrom rm_X3_readFrom [.ref (ad 76), .ref (ad u1)] σ r0 σ0 := by
  refine ct_i (cc := cX3_readFrom) (own := RX3) (maxL := 4) (ret := (some .boolean)) (lv0 := [some (.ref (ad 76)), some (.ref (ad u1)), none, none]) (by decide) rfl rfl rfl (Nat.le_of_ble_eq_true rfl) ?_
  intro p e s m below meth c C hr hlk hnm
  unfold f_X3_readFrom at hf
  refine g_aload_n (i := 1) C dX3_readFrom_0 rfl rfl ?_
  refine gg_X8_size (i := 1) C hu1 hiX3_readFrom_X8 rfl dX3_readFrom_1 ?_
  refine g_aload_n (i := 0) C dX3_readFrom_4 rfl rfl ?_
  refine gg_X3_market (i := 2) C hiX3_readFrom_X3 rfl dX3_readFrom_5 ?_
  refine gg_X4_marks (i := 3) C (by decide) hiX3_readFrom_X4 rfl dX3_readFrom_8 ?_
  refine g_icmp_eq (tgt := 16) C dX3_readFrom_11 (by decide) rfl rfl (fun c1 => ?_) (fun c1 => ?_)
  · have hf := if_t c1 hf
    refine g_iconst C dX3_readFrom_16 ?_
    refine g_istore_n (i := 2) C dX3_readFrom_17 rfl (by decide) rfl ?_
    obtain ⟨q16, hl17, hf⟩ := lb_inv hf
    refine g_mask [true, true, true, false] (w_X3_readFrom_18 C hr hlk hu1 hl17 ?_ ?_)
    · rintro r1 σ1 rfl
      exact some_inv hf
    · rintro σ18 rfl
      have hf := se_r hf
      refine g_iconst C dX3_readFrom_62 ?_
      refine g_istore_n (i := 2) C dX3_readFrom_63 rfl (by decide) rfl ?_
      obtain ⟨q23, hl24, hf⟩ := lb_inv hf
      refine g_mask [true, false, true, false] (w_X3_readFrom_64 C hr hlk hu1 hl24 ?_)
      · rintro σ25 rfl
        refine g_iconst C dX3_readFrom_86 ?_
        obtain ⟨e1, e2⟩ := some_inv hf
        exact g_zret C hr hlk (by decide) e1 e2 dX3_readFrom_87
  · have hf := if_f c1 hf
    refine g_iconst C dX3_readFrom_14 ?_
    obtain ⟨e1, e2⟩ := some_inv hf
    exact g_zret C hr hlk (by decide) e1 e2 dX3_readFrom_15
/-! X3_surplus -/
abbrev rm_X3_surplus : Room := { frames := 0, cells := 0, slots := 0, locals := 0 }
theorem hiX3_surplus_X3 : ∀ w ∈ u_ws RX3 TX3 4, w ∈ wsX3_surplus := fun _ h => (List.mem_cons_of_mem _ (List.mem_append_left _ (List.mem_append_right _ h)))
theorem hiX3_surplus_X4 : ∀ w ∈ u_ws RX4 TX4 9, w ∈ wsX3_surplus := fun _ h => (List.mem_cons_of_mem _ (List.mem_append_right _ h))
set_option maxHeartbeats 4000000 in
set_option maxRecDepth 100000 in
theorem c_X3_surplus {v1 v2 v3 : Int} {σ : Mem} (hf : f_X3_surplus v1 v2 v3 σ = some (r0, σ0)) : CTi l D ca ad A yX3_surplus wsX3_surplus rm_X3_surplus [.ref (ad 76), .int (iI v1), .int (iI v2), .int (iI v3)] σ r0 σ0 := by
  refine ct_i (cc := cX3_surplus) (own := RX3) (maxL := 4) (ret := (some .int)) (lv0 := [some (.ref (ad 76)), some (.int (iI v1)), some (.int (iI v2)), some (.int (iI v3))]) (by decide) rfl rfl rfl (Nat.le_of_ble_eq_true rfl) ?_
  intro p e s m below meth c C hr hlk hnm
  unfold f_X3_surplus at hf
  refine g_aload_n (i := 0) C dX3_surplus_0 rfl rfl ?_
  refine gg_X3_market (i := 1) C hiX3_surplus_X3 rfl dX3_surplus_1 ?_
  refine gg_X4_chance (i := 2) (b := 11)  C (by decide) (by decide) hiX3_surplus_X4 rfl dX3_surplus_4 ?_
  refine g_iload_n (i := 1) C dX3_surplus_7 rfl rfl ?_
  obtain ⟨hb1, hf⟩ := if_inv hf
  refine g_iaload (N := 4) C (by decide) dX3_surplus_8 rfl hb1 ?_
  refine g_aload_n (i := 0) C dX3_surplus_9 rfl rfl ?_
  refine gg_X3_market (i := 1) C hiX3_surplus_X3 rfl dX3_surplus_10 ?_
  refine gg_X4_worth (i := 3) (b := 12)  C (by decide) (by decide) hiX3_surplus_X4 rfl dX3_surplus_13 ?_
  refine g_iload_n (i := 1) C dX3_surplus_16 rfl rfl ?_
  refine g_iaload (N := 4) C (by decide) dX3_surplus_17 rfl hb1 ?_
  refine g_aload_n (i := 0) C dX3_surplus_18 rfl rfl ?_
  refine gg_X3_market (i := 1) C hiX3_surplus_X3 rfl dX3_surplus_19 ?_
  refine gg_X4_use (i := 4) (b := 14)  C (by decide) (by decide) hiX3_surplus_X4 rfl dX3_surplus_22 ?_
  refine g_iload_n (i := 2) C dX3_surplus_25 rfl rfl ?_
  obtain ⟨hb2, hf⟩ := if_inv hf
  refine g_iaload (N := 4) C (by decide) dX3_surplus_26 rfl hb2 ?_
  refine g_iadd C dX3_surplus_27 ?_
  refine g_iload_n (i := 3) C dX3_surplus_28 rfl rfl ?_
  refine g_isub C dX3_surplus_29 ?_
  refine g_imul C dX3_surplus_30 ?_
  obtain ⟨e1, e2⟩ := some_inv hf
  exact g_iret C hr hlk e1 e2 dX3_surplus_31
/-! X3_firstLoss -/
abbrev rm_X3_firstLoss : Room := { frames := 1, cells := 0, slots := 0, locals := 23 }
theorem hiX3_firstLoss_X3 : ∀ w ∈ u_ws RX3 TX3 4, w ∈ wsX3_firstLoss := fun _ h => (List.mem_cons_of_mem _ (List.mem_append_left _ (List.mem_append_right _ h)))
theorem hiX3_firstLoss_X4 : ∀ w ∈ u_ws RX4 TX4 9, w ∈ wsX3_firstLoss := fun _ h => (List.mem_cons_of_mem _ (List.mem_append_right _ h))
set_option maxHeartbeats 4000000 in
set_option maxRecDepth 100000 in
theorem it_X3_firstLoss_17 (C : Cx p s m args c cX3_firstLoss 4 RX3 wsX3_firstLoss D ca A) (hr : meth.sig.returnType = (some .int)) (hlk : meth.locks = false) {p1 : Int} {o : (Int × Int × Mem) ⊕ (Int × Mem)} (hc : ∀ (x2 x3 : Int) (σ : Mem), o = .inl (x2, x3, σ) → G p l e rm_X3_firstLoss s m args below meth c 4 D ca ad A 0 0 (MQ below (Qi D ca ad A r0 σ0) args s 0 0 A) σ 17 [some (.ref (ad 76)), some (.int (iI p1)), some (.int (iI x2)), some (.int (iI x3))] []) (he : ∀ (y2 : Int) (σ : Mem), o = .inr (y2, σ) → G p l e rm_X3_firstLoss s m args below meth c 4 D ca ad A 0 0 (MQ below (Qi D ca ad A r0 σ0) args s 0 0 A) σ 59 [some (.ref (ad 76)), some (.int (iI p1)), some (.int (iI y2)), none] []) {x2 x3 : Int} {σ : Mem} (hf : f_X3_firstLoss_17 p1 x2 x3 σ = some o) : G p l e rm_X3_firstLoss s m args below meth c 4 D ca ad A 0 0 (MQ below (Qi D ca ad A r0 σ0) args s 0 0 A) σ 17 [some (.ref (ad 76)), some (.int (iI p1)), some (.int (iI x2)), some (.int (iI x3))] [] := by
  unfold f_X3_firstLoss_17 at hf
  refine g_iload_n (i := 3) C dX3_firstLoss_17 rfl rfl ?_
  refine g_aload_n (i := 0) C dX3_firstLoss_18 rfl rfl ?_
  refine gg_X3_market (i := 1) C hiX3_firstLoss_X3 rfl dX3_firstLoss_19 ?_
  refine gg_X4_sorts (i := 3) C (by decide) hiX3_firstLoss_X4 rfl dX3_firstLoss_22 ?_
  refine g_icmp_ge (tgt := 59) C dX3_firstLoss_25 (by decide) rfl rfl (fun c2 => ?_) (fun c2 => ?_)
  · have hf := if_t c2 hf
    exact g_mask [true, true, true, false] (he _ _ (Option.some.inj hf).symm)
  · have hf := if_f c2 hf
    refine g_aload_n (i := 0) C dX3_firstLoss_28 rfl rfl ?_
    refine gg_X3_place (i := 4) C hiX3_firstLoss_X3 rfl dX3_firstLoss_29 ?_
    refine g_iload_n (i := 3) C dX3_firstLoss_32 rfl rfl ?_
    obtain ⟨hb3, hf⟩ := if_inv hf
    refine g_iaload (N := 4) C (by decide) dX3_firstLoss_33 rfl hb3 ?_
    refine g_iload_n (i := 1) C dX3_firstLoss_34 rfl rfl ?_
    refine g_icmp_ne (tgt := 53) C dX3_firstLoss_35 (by decide) rfl rfl (fun c4 => ?_) (fun c4 => ?_)
    · have hf := if_f c4 hf
      refine g_iinc C dX3_firstLoss_53 rfl (by decide) rfl ?_
      refine g_goto (tgt := 17) C dX3_firstLoss_56 (by decide) ?_
      exact g_mask [true, true, true, true] (hc _ _ _ (Option.some.inj hf).symm)
    · have hf := if_t c4 hf
      refine g_iload_n (i := 2) C dX3_firstLoss_38 rfl rfl ?_
      refine g_aload_n (i := 0) C dX3_firstLoss_39 rfl rfl ?_
      refine g_iload_n (i := 3) C dX3_firstLoss_40 rfl rfl ?_
      refine g_iload_n (i := 1) C dX3_firstLoss_41 rfl rfl ?_
      refine g_aload_n (i := 0) C dX3_firstLoss_42 rfl rfl ?_
      refine gg_X3_pay (i := 5) C hiX3_firstLoss_X3 rfl dX3_firstLoss_43 ?_
      refine g_iload_n (i := 1) C dX3_firstLoss_46 rfl rfl ?_
      obtain ⟨hb5, hf⟩ := if_inv hf
      refine g_iaload (N := 4) C (by decide) dX3_firstLoss_47 rfl hb5 ?_
      obtain ⟨r7, σ6, h8, hf⟩ := ob_inv hf
      refine g_callVi C (c_X3_surplus  h8) (cwV 3 C.2.2.2.2.1 gX3_firstLoss_X3_surplus rfl rfl rfl (by decide +kernel) ⟨Nat.le_of_ble_eq_true rfl, Nat.le_of_ble_eq_true rfl⟩) ob_X3 rfl rfl rfl rfl (Nat.le_of_ble_eq_true rfl) dX3_firstLoss_48 ⟨Nat.zero_le _, Nat.zero_le _⟩ ?_
      refine g_iadd C dX3_firstLoss_51 ?_
      refine g_istore_n (i := 2) C dX3_firstLoss_52 rfl (by decide) rfl ?_
      refine g_iinc C dX3_firstLoss_53 rfl (by decide) rfl ?_
      refine g_goto (tgt := 17) C dX3_firstLoss_56 (by decide) ?_
      exact g_mask [true, true, true, true] (hc _ _ _ (Option.some.inj hf).symm)
set_option maxHeartbeats 4000000 in
set_option maxRecDepth 100000 in
theorem w_X3_firstLoss_17 (C : Cx p s m args c cX3_firstLoss 4 RX3 wsX3_firstLoss D ca A) (hr : meth.sig.returnType = (some .int)) (hlk : meth.locks = false) {p1 : Int} {n : Nat} {x2 x3 : Int} {σ : Mem} {b : (Int × Mem)} (h : itr (fun z : Int × Int × Mem => f_X3_firstLoss_17 p1 z.1 z.2.1 z.2.2) n (x2, x3, σ) = some b) (he : ∀ (y2 : Int) (σ : Mem), b = (y2, σ) → G p l e rm_X3_firstLoss s m args below meth c 4 D ca ad A 0 0 (MQ below (Qi D ca ad A r0 σ0) args s 0 0 A) σ 59 [some (.ref (ad 76)), some (.int (iI p1)), some (.int (iI y2)), none] []) : G p l e rm_X3_firstLoss s m args below meth c 4 D ca ad A 0 0 (MQ below (Qi D ca ad A r0 σ0) args s 0 0 A) σ 17 [some (.ref (ad 76)), some (.int (iI p1)), some (.int (iI x2)), some (.int (iI x3))] [] :=
  itr_rule (P := fun z : Int × Int × Mem => G p l e rm_X3_firstLoss s m args below meth c 4 D ca ad A 0 0 (MQ below (Qi D ca ad A r0 σ0) args s 0 0 A) z.2.2 17 [some (.ref (ad 76)), some (.int (iI p1)), some (.int (iI z.1)), some (.int (iI z.2.1))] []) (E := fun b => ∀ (y2 : Int) (σ : Mem), b = (y2, σ) → G p l e rm_X3_firstLoss s m args below meth c 4 D ca ad A 0 0 (MQ below (Qi D ca ad A r0 σ0) args s 0 0 A) σ 59 [some (.ref (ad 76)), some (.int (iI p1)), some (.int (iI y2)), none] []) (fun z o hb hc he => it_X3_firstLoss_17 C hr hlk (fun _ _ _ e => hc _ e) (fun _ _ e => (he _ e) _ _ rfl) hb) n _ _ h he
set_option maxHeartbeats 4000000 in
set_option maxRecDepth 100000 in
theorem it_X3_firstLoss_2 (C : Cx p s m args c cX3_firstLoss 4 RX3 wsX3_firstLoss D ca A) (hr : meth.sig.returnType = (some .int)) (hlk : meth.locks = false) {o : (Int × Mem) ⊕ ((Int × Mem) ⊕ (Mem))} (hc : ∀ (x1 : Int) (σ : Mem), o = .inl (x1, σ) → G p l e rm_X3_firstLoss s m args below meth c 4 D ca ad A 0 0 (MQ below (Qi D ca ad A r0 σ0) args s 0 0 A) σ 2 [some (.ref (ad 76)), some (.int (iI x1)), none, none] []) (he1 : ∀ (r1 : Int) (σ1 : Mem), o = .inr (.inl (r1, σ1)) → r1 = r0 ∧ σ1 = σ0) (he2 : ∀ (σ : Mem), o = .inr (.inr σ) → G p l e rm_X3_firstLoss s m args below meth c 4 D ca ad A 0 0 (MQ below (Qi D ca ad A r0 σ0) args s 0 0 A) σ 71 [none, none, none, none] []) {x1 : Int} {σ : Mem} (hf : f_X3_firstLoss_2  x1 σ = some o) : G p l e rm_X3_firstLoss s m args below meth c 4 D ca ad A 0 0 (MQ below (Qi D ca ad A r0 σ0) args s 0 0 A) σ 2 [some (.ref (ad 76)), some (.int (iI x1)), none, none] [] := by
  unfold f_X3_firstLoss_2 at hf
  refine g_iload_n (i := 1) C dX3_firstLoss_2 rfl rfl ?_
  refine g_aload_n (i := 0) C dX3_firstLoss_3 rfl rfl ?_
  refine gg_X3_market (i := 1) C hiX3_firstLoss_X3 rfl dX3_firstLoss_4 ?_
  refine gg_X4_marks (i := 2) C (by decide) hiX3_firstLoss_X4 rfl dX3_firstLoss_7 ?_
  refine g_icmp_ge (tgt := 71) C dX3_firstLoss_10 (by decide) rfl rfl (fun c14 => ?_) (fun c14 => ?_)
  · have hf := if_t c14 hf
    exact g_mask [false, false, false, false] (he2 _ (Option.some.inj hf).symm)
  · have hf := if_f c14 hf
    refine g_iconst C dX3_firstLoss_13 ?_
    refine g_istore_n (i := 2) C dX3_firstLoss_14 rfl (by decide) rfl ?_
    refine g_iconst C dX3_firstLoss_15 ?_
    refine g_istore_n (i := 3) C dX3_firstLoss_16 rfl (by decide) rfl ?_
    obtain ⟨q15, hl16, hf⟩ := lb_inv hf
    refine g_mask [true, true, true, true] (w_X3_firstLoss_17 C hr hlk hl16 ?_)
    · rintro y17 σ18 rfl
      refine g_iload_n (i := 2) C dX3_firstLoss_59 rfl rfl ?_
      refine g_if_ge (tgt := 65) C dX3_firstLoss_60 (by decide) rfl (fun c19 => ?_) (fun c19 => ?_)
      · have hf := if_t c19 hf
        refine g_iinc C dX3_firstLoss_65 rfl (by decide) rfl ?_
        refine g_goto (tgt := 2) C dX3_firstLoss_68 (by decide) ?_
        exact g_mask [true, true, false, false] (hc _ _ (Option.some.inj hf).symm)
      · have hf := if_f c19 hf
        refine g_iload_n (i := 1) C dX3_firstLoss_63 rfl rfl ?_
        obtain ⟨e1, e2⟩ := he1 _ _ (Option.some.inj hf).symm
        exact g_iret C hr hlk e1 e2 dX3_firstLoss_64
set_option maxHeartbeats 4000000 in
set_option maxRecDepth 100000 in
theorem w_X3_firstLoss_2 (C : Cx p s m args c cX3_firstLoss 4 RX3 wsX3_firstLoss D ca A) (hr : meth.sig.returnType = (some .int)) (hlk : meth.locks = false) {n : Nat} {x1 : Int} {σ : Mem} {b : ((Int × Mem) ⊕ (Mem))} (h : itr (fun z : Int × Mem => f_X3_firstLoss_2  z.1 z.2) n (x1, σ) = some b) (he1 : ∀ (r1 : Int) (σ1 : Mem), b = .inl (r1, σ1) → r1 = r0 ∧ σ1 = σ0) (he2 : ∀ (σ : Mem), b = .inr σ → G p l e rm_X3_firstLoss s m args below meth c 4 D ca ad A 0 0 (MQ below (Qi D ca ad A r0 σ0) args s 0 0 A) σ 71 [none, none, none, none] []) : G p l e rm_X3_firstLoss s m args below meth c 4 D ca ad A 0 0 (MQ below (Qi D ca ad A r0 σ0) args s 0 0 A) σ 2 [some (.ref (ad 76)), some (.int (iI x1)), none, none] [] :=
  itr_rule (P := fun z : Int × Mem => G p l e rm_X3_firstLoss s m args below meth c 4 D ca ad A 0 0 (MQ below (Qi D ca ad A r0 σ0) args s 0 0 A) z.2 2 [some (.ref (ad 76)), some (.int (iI z.1)), none, none] []) (E := fun b => (∀ (r1 : Int) (σ1 : Mem), b = .inl (r1, σ1) → r1 = r0 ∧ σ1 = σ0) ∧ (∀ (σ : Mem), b = .inr σ → G p l e rm_X3_firstLoss s m args below meth c 4 D ca ad A 0 0 (MQ below (Qi D ca ad A r0 σ0) args s 0 0 A) σ 71 [none, none, none, none] [])) (fun z o hb hc he => it_X3_firstLoss_2 C hr hlk (fun _ _ e => hc _ e) (fun r1 σ1 e => (he _ e).1 r1 σ1 rfl) (fun _ e => (he _ e).2 _ rfl) hb) n _ _ h ⟨he1, he2⟩
set_option maxHeartbeats 4000000 in
set_option maxRecDepth 100000 in
theorem c_X3_firstLoss {σ : Mem} (hf : f_X3_firstLoss  σ = some (r0, σ0)) : CTi l D ca ad A yX3_firstLoss wsX3_firstLoss rm_X3_firstLoss [.ref (ad 76)] σ r0 σ0 := by
  refine ct_i (cc := cX3_firstLoss) (own := RX3) (maxL := 4) (ret := (some .int)) (lv0 := [some (.ref (ad 76)), none, none, none]) (by decide) rfl rfl rfl (Nat.le_of_ble_eq_true rfl) ?_
  intro p e s m below meth c C hr hlk hnm
  unfold f_X3_firstLoss at hf
  refine g_iconst C dX3_firstLoss_0 ?_
  refine g_istore_n (i := 1) C dX3_firstLoss_1 rfl (by decide) rfl ?_
  obtain ⟨q20, hl21, hf⟩ := lb_inv hf
  refine g_mask [true, true, false, false] (w_X3_firstLoss_2 C hr hlk hl21 ?_ ?_)
  · rintro r1 σ1 rfl
    exact some_inv hf
  · rintro σ22 rfl
    have hf := se_r hf
    refine g_bipush C dX3_firstLoss_71 (by decide) ?_
    obtain ⟨e1, e2⟩ := some_inv hf
    exact g_iret C hr hlk e1 e2 dX3_firstLoss_73
/-! X3_earned -/
abbrev rm_X3_earned : Room := { frames := 1, cells := 0, slots := 0, locals := 23 }
theorem hiX3_earned_X3 : ∀ w ∈ u_ws RX3 TX3 4, w ∈ wsX3_earned := fun _ h => (List.mem_cons_of_mem _ (List.mem_append_left _ (List.mem_append_right _ h)))
theorem hiX3_earned_X4 : ∀ w ∈ u_ws RX4 TX4 9, w ∈ wsX3_earned := fun _ h => (List.mem_cons_of_mem _ (List.mem_append_right _ h))
set_option maxHeartbeats 4000000 in
set_option maxRecDepth 100000 in
theorem it_X3_earned_5 (C : Cx p s m args c cX3_earned 5 RX3 wsX3_earned D ca A) (hr : meth.sig.returnType = (some .int)) (hlk : meth.locks = false) {p1 p2 : Int} {o : (Int × Int × Mem) ⊕ (Int × Mem)} (hc : ∀ (x3 x4 : Int) (σ : Mem), o = .inl (x3, x4, σ) → G p l e rm_X3_earned s m args below meth c 5 D ca ad A 0 0 (MQ below (Qi D ca ad A r0 σ0) args s 0 0 A) σ 5 [some (.ref (ad 76)), some (.int (iI p1)), some (.int (iI p2)), some (.int (iI x3)), some (.int (iI x4))] []) (he : ∀ (y3 : Int) (σ : Mem), o = .inr (y3, σ) → G p l e rm_X3_earned s m args below meth c 5 D ca ad A 0 0 (MQ below (Qi D ca ad A r0 σ0) args s 0 0 A) σ 58 [none, none, none, some (.int (iI y3)), none] []) {x3 x4 : Int} {σ : Mem} (hf : f_X3_earned_5 p1 p2 x3 x4 σ = some o) : G p l e rm_X3_earned s m args below meth c 5 D ca ad A 0 0 (MQ below (Qi D ca ad A r0 σ0) args s 0 0 A) σ 5 [some (.ref (ad 76)), some (.int (iI p1)), some (.int (iI p2)), some (.int (iI x3)), some (.int (iI x4))] [] := by
  unfold f_X3_earned_5 at hf
  refine g_iload C dX3_earned_5 rfl ?_
  refine g_aload_n (i := 0) C dX3_earned_7 rfl rfl ?_
  refine gg_X3_market (i := 1) C hiX3_earned_X3 rfl dX3_earned_8 ?_
  refine gg_X4_sorts (i := 2) C (by decide) hiX3_earned_X4 rfl dX3_earned_11 ?_
  refine g_icmp_ge (tgt := 58) C dX3_earned_14 (by decide) rfl rfl (fun c1 => ?_) (fun c1 => ?_)
  · have hf := if_t c1 hf
    exact g_mask [false, false, false, true, false] (he _ _ (Option.some.inj hf).symm)
  · have hf := if_f c1 hf
    refine g_iload_n (i := 2) C dX3_earned_17 rfl rfl ?_
    refine g_aload_n (i := 0) C dX3_earned_18 rfl rfl ?_
    refine gg_X3_market (i := 1) C hiX3_earned_X3 rfl dX3_earned_19 ?_
    refine gg_X4_cost (i := 3) (b := 16)  C (by decide) (by decide) hiX3_earned_X4 rfl dX3_earned_22 ?_
    refine g_iload_n (i := 1) C dX3_earned_25 rfl rfl ?_
    obtain ⟨hb2, hf⟩ := if_inv hf
    refine g_aaload C (Or.inr ⟨(by decide), rfl, hb2⟩) dX3_earned_26 rfl ?_
    refine g_iload C dX3_earned_27 rfl ?_
    obtain ⟨hb3, hf⟩ := if_inv hf
    refine g_iaload (N := 4) C (kI_row (by decide) hb2) dX3_earned_29 rfl hb3 ?_
    refine g_isub C dX3_earned_30 ?_
    refine g_aload_n (i := 0) C dX3_earned_31 rfl rfl ?_
    refine gg_X3_got (i := 4) C hiX3_earned_X3 rfl dX3_earned_32 ?_
    refine g_iload C dX3_earned_35 rfl ?_
    refine g_iaload (N := 4) C (by decide) dX3_earned_37 rfl hb3 ?_
    refine g_icmp_le (tgt := 52) C dX3_earned_38 (by decide) rfl rfl (fun c4 => ?_) (fun c4 => ?_)
    · have hf := if_t c4 hf
      refine g_iinc C dX3_earned_52 rfl (by decide) rfl ?_
      refine g_goto (tgt := 5) C dX3_earned_55 (by decide) ?_
      exact g_mask [true, true, true, true, true] (hc _ _ _ (Option.some.inj hf).symm)
    · have hf := if_f c4 hf
      refine g_iload_n (i := 3) C dX3_earned_41 rfl rfl ?_
      refine g_aload_n (i := 0) C dX3_earned_42 rfl rfl ?_
      refine g_iload C dX3_earned_43 rfl ?_
      refine g_iload_n (i := 1) C dX3_earned_45 rfl rfl ?_
      refine g_iload_n (i := 2) C dX3_earned_46 rfl rfl ?_
      obtain ⟨r6, σ5, h7, hf⟩ := ob_inv hf
      refine g_callVi C (c_X3_surplus  h7) (cwV 3 C.2.2.2.2.1 gX3_earned_X3_surplus rfl rfl rfl (by decide +kernel) ⟨Nat.le_of_ble_eq_true rfl, Nat.le_of_ble_eq_true rfl⟩) ob_X3 rfl rfl rfl rfl (Nat.le_of_ble_eq_true rfl) dX3_earned_47 ⟨Nat.zero_le _, Nat.zero_le _⟩ ?_
      refine g_iadd C dX3_earned_50 ?_
      refine g_istore_n (i := 3) C dX3_earned_51 rfl (by decide) rfl ?_
      refine g_iinc C dX3_earned_52 rfl (by decide) rfl ?_
      refine g_goto (tgt := 5) C dX3_earned_55 (by decide) ?_
      exact g_mask [true, true, true, true, true] (hc _ _ _ (Option.some.inj hf).symm)
set_option maxHeartbeats 4000000 in
set_option maxRecDepth 100000 in
theorem w_X3_earned_5 (C : Cx p s m args c cX3_earned 5 RX3 wsX3_earned D ca A) (hr : meth.sig.returnType = (some .int)) (hlk : meth.locks = false) {p1 p2 : Int} {n : Nat} {x3 x4 : Int} {σ : Mem} {b : (Int × Mem)} (h : itr (fun z : Int × Int × Mem => f_X3_earned_5 p1 p2 z.1 z.2.1 z.2.2) n (x3, x4, σ) = some b) (he : ∀ (y3 : Int) (σ : Mem), b = (y3, σ) → G p l e rm_X3_earned s m args below meth c 5 D ca ad A 0 0 (MQ below (Qi D ca ad A r0 σ0) args s 0 0 A) σ 58 [none, none, none, some (.int (iI y3)), none] []) : G p l e rm_X3_earned s m args below meth c 5 D ca ad A 0 0 (MQ below (Qi D ca ad A r0 σ0) args s 0 0 A) σ 5 [some (.ref (ad 76)), some (.int (iI p1)), some (.int (iI p2)), some (.int (iI x3)), some (.int (iI x4))] [] :=
  itr_rule (P := fun z : Int × Int × Mem => G p l e rm_X3_earned s m args below meth c 5 D ca ad A 0 0 (MQ below (Qi D ca ad A r0 σ0) args s 0 0 A) z.2.2 5 [some (.ref (ad 76)), some (.int (iI p1)), some (.int (iI p2)), some (.int (iI z.1)), some (.int (iI z.2.1))] []) (E := fun b => ∀ (y3 : Int) (σ : Mem), b = (y3, σ) → G p l e rm_X3_earned s m args below meth c 5 D ca ad A 0 0 (MQ below (Qi D ca ad A r0 σ0) args s 0 0 A) σ 58 [none, none, none, some (.int (iI y3)), none] []) (fun z o hb hc he => it_X3_earned_5 C hr hlk (fun _ _ _ e => hc _ e) (fun _ _ e => (he _ e) _ _ rfl) hb) n _ _ h he
set_option maxHeartbeats 4000000 in
set_option maxRecDepth 100000 in
theorem c_X3_earned {v1 v2 : Int} {σ : Mem} (hf : f_X3_earned v1 v2 σ = some (r0, σ0)) : CTi l D ca ad A yX3_earned wsX3_earned rm_X3_earned [.ref (ad 76), .int (iI v1), .int (iI v2)] σ r0 σ0 := by
  refine ct_i (cc := cX3_earned) (own := RX3) (maxL := 5) (ret := (some .int)) (lv0 := [some (.ref (ad 76)), some (.int (iI v1)), some (.int (iI v2)), none, none]) (by decide) rfl rfl rfl (Nat.le_of_ble_eq_true rfl) ?_
  intro p e s m below meth c C hr hlk hnm
  unfold f_X3_earned at hf
  refine g_iconst C dX3_earned_0 ?_
  refine g_istore_n (i := 3) C dX3_earned_1 rfl (by decide) rfl ?_
  refine g_iconst C dX3_earned_2 ?_
  refine g_istore C dX3_earned_3 (by decide) rfl ?_
  obtain ⟨q8, hl9, hf⟩ := lb_inv hf
  refine g_mask [true, true, true, true, true] (w_X3_earned_5 C hr hlk hl9 ?_)
  · rintro y10 σ11 rfl
    refine g_iload_n (i := 3) C dX3_earned_58 rfl rfl ?_
    obtain ⟨e1, e2⟩ := some_inv hf
    exact g_iret C hr hlk e1 e2 dX3_earned_59
/-! X3_firstOffer -/
abbrev rm_X3_firstOffer : Room := { frames := 2, cells := 0, slots := 0, locals := 47 }
theorem hiX3_firstOffer_X3 : ∀ w ∈ u_ws RX3 TX3 4, w ∈ wsX3_firstOffer := fun _ h => (List.mem_cons_of_mem _ (List.mem_append_left _ (List.mem_append_right _ h)))
theorem hiX3_firstOffer_X4 : ∀ w ∈ u_ws RX4 TX4 9, w ∈ wsX3_firstOffer := fun _ h => (List.mem_cons_of_mem _ (List.mem_append_right _ h))
set_option maxHeartbeats 4000000 in
set_option maxRecDepth 100000 in
theorem it_X3_firstOffer_33 (C : Cx p s m args c cX3_firstOffer 4 RX3 wsX3_firstOffer D ca A) (hr : meth.sig.returnType = (some .int)) (hlk : meth.locks = false) {p1 p2 : Int} {o : (Int × Mem) ⊕ ((Int × Mem) ⊕ (Mem))} (hc : ∀ (x3 : Int) (σ : Mem), o = .inl (x3, σ) → G p l e rm_X3_firstOffer s m args below meth c 4 D ca ad A 0 0 (MQ below (Qi D ca ad A r0 σ0) args s 0 0 A) σ 33 [some (.ref (ad 76)), some (.int (iI p1)), some (.int (iI p2)), some (.int (iI x3))] []) (he1 : ∀ (r1 : Int) (σ1 : Mem), o = .inr (.inl (r1, σ1)) → r1 = r0 ∧ σ1 = σ0) (he2 : ∀ (σ : Mem), o = .inr (.inr σ) → G p l e rm_X3_firstOffer s m args below meth c 4 D ca ad A 0 0 (MQ below (Qi D ca ad A r0 σ0) args s 0 0 A) σ 61 [some (.ref (ad 76)), some (.int (iI p1)), none, none] []) {x3 : Int} {σ : Mem} (hf : f_X3_firstOffer_33 p1 p2 x3 σ = some o) : G p l e rm_X3_firstOffer s m args below meth c 4 D ca ad A 0 0 (MQ below (Qi D ca ad A r0 σ0) args s 0 0 A) σ 33 [some (.ref (ad 76)), some (.int (iI p1)), some (.int (iI p2)), some (.int (iI x3))] [] := by
  unfold f_X3_firstOffer_33 at hf
  refine g_iload_n (i := 3) C dX3_firstOffer_33 rfl rfl ?_
  refine g_iload_n (i := 2) C dX3_firstOffer_34 rfl rfl ?_
  refine g_icmp_ge (tgt := 61) C dX3_firstOffer_35 (by decide) rfl rfl (fun c12 => ?_) (fun c12 => ?_)
  · have hf := if_t c12 hf
    exact g_mask [true, true, false, false] (he2 _ (Option.some.inj hf).symm)
  · have hf := if_f c12 hf
    refine g_aload_n (i := 0) C dX3_firstOffer_38 rfl rfl ?_
    refine g_iload_n (i := 1) C dX3_firstOffer_39 rfl rfl ?_
    refine g_iload_n (i := 3) C dX3_firstOffer_40 rfl rfl ?_
    obtain ⟨r14, σ13, h15, hf⟩ := ob_inv hf
    refine g_callVi C (c_X3_earned  h15) (cwV 2 C.2.2.2.2.1 gX3_firstOffer_X3_earned rfl rfl rfl (by decide +kernel) ⟨Nat.le_of_ble_eq_true rfl, Nat.le_of_ble_eq_true rfl⟩) ob_X3 rfl rfl rfl rfl (Nat.le_of_ble_eq_true rfl) dX3_firstOffer_41 ⟨Nat.zero_le _, Nat.zero_le _⟩ ?_
    refine g_if_le (tgt := 55) C dX3_firstOffer_44 (by decide) rfl (fun c16 => ?_) (fun c16 => ?_)
    · have hf := if_t c16 hf
      refine g_iinc C dX3_firstOffer_55 rfl (by decide) rfl ?_
      refine g_goto (tgt := 33) C dX3_firstOffer_58 (by decide) ?_
      exact g_mask [true, true, true, true] (hc _ _ (Option.some.inj hf).symm)
    · have hf := if_f c16 hf
      refine g_sipush C dX3_firstOffer_47 (by decide) ?_
      refine g_iload_n (i := 1) C dX3_firstOffer_50 rfl rfl ?_
      refine g_imul C dX3_firstOffer_51 ?_
      refine g_iload_n (i := 3) C dX3_firstOffer_52 rfl rfl ?_
      refine g_iadd C dX3_firstOffer_53 ?_
      obtain ⟨e1, e2⟩ := he1 _ _ (Option.some.inj hf).symm
      exact g_iret C hr hlk e1 e2 dX3_firstOffer_54
set_option maxHeartbeats 4000000 in
set_option maxRecDepth 100000 in
theorem w_X3_firstOffer_33 (C : Cx p s m args c cX3_firstOffer 4 RX3 wsX3_firstOffer D ca A) (hr : meth.sig.returnType = (some .int)) (hlk : meth.locks = false) {p1 p2 : Int} {n : Nat} {x3 : Int} {σ : Mem} {b : ((Int × Mem) ⊕ (Mem))} (h : itr (fun z : Int × Mem => f_X3_firstOffer_33 p1 p2 z.1 z.2) n (x3, σ) = some b) (he1 : ∀ (r1 : Int) (σ1 : Mem), b = .inl (r1, σ1) → r1 = r0 ∧ σ1 = σ0) (he2 : ∀ (σ : Mem), b = .inr σ → G p l e rm_X3_firstOffer s m args below meth c 4 D ca ad A 0 0 (MQ below (Qi D ca ad A r0 σ0) args s 0 0 A) σ 61 [some (.ref (ad 76)), some (.int (iI p1)), none, none] []) : G p l e rm_X3_firstOffer s m args below meth c 4 D ca ad A 0 0 (MQ below (Qi D ca ad A r0 σ0) args s 0 0 A) σ 33 [some (.ref (ad 76)), some (.int (iI p1)), some (.int (iI p2)), some (.int (iI x3))] [] :=
  itr_rule (P := fun z : Int × Mem => G p l e rm_X3_firstOffer s m args below meth c 4 D ca ad A 0 0 (MQ below (Qi D ca ad A r0 σ0) args s 0 0 A) z.2 33 [some (.ref (ad 76)), some (.int (iI p1)), some (.int (iI p2)), some (.int (iI z.1))] []) (E := fun b => (∀ (r1 : Int) (σ1 : Mem), b = .inl (r1, σ1) → r1 = r0 ∧ σ1 = σ0) ∧ (∀ (σ : Mem), b = .inr σ → G p l e rm_X3_firstOffer s m args below meth c 4 D ca ad A 0 0 (MQ below (Qi D ca ad A r0 σ0) args s 0 0 A) σ 61 [some (.ref (ad 76)), some (.int (iI p1)), none, none] [])) (fun z o hb hc he => it_X3_firstOffer_33 C hr hlk (fun _ _ e => hc _ e) (fun r1 σ1 e => (he _ e).1 r1 σ1 rfl) (fun _ e => (he _ e).2 _ rfl) hb) n _ _ h ⟨he1, he2⟩
set_option maxHeartbeats 4000000 in
set_option maxRecDepth 100000 in
theorem it_X3_firstOffer_2 (C : Cx p s m args c cX3_firstOffer 4 RX3 wsX3_firstOffer D ca A) (hr : meth.sig.returnType = (some .int)) (hlk : meth.locks = false) {o : (Int × Mem) ⊕ ((Int × Mem) ⊕ (Mem))} (hc : ∀ (x1 : Int) (σ : Mem), o = .inl (x1, σ) → G p l e rm_X3_firstOffer s m args below meth c 4 D ca ad A 0 0 (MQ below (Qi D ca ad A r0 σ0) args s 0 0 A) σ 2 [some (.ref (ad 76)), some (.int (iI x1)), none, none] []) (he1 : ∀ (r1 : Int) (σ1 : Mem), o = .inr (.inl (r1, σ1)) → r1 = r0 ∧ σ1 = σ0) (he2 : ∀ (σ : Mem), o = .inr (.inr σ) → G p l e rm_X3_firstOffer s m args below meth c 4 D ca ad A 0 0 (MQ below (Qi D ca ad A r0 σ0) args s 0 0 A) σ 67 [none, none, none, none] []) {x1 : Int} {σ : Mem} (hf : f_X3_firstOffer_2  x1 σ = some o) : G p l e rm_X3_firstOffer s m args below meth c 4 D ca ad A 0 0 (MQ below (Qi D ca ad A r0 σ0) args s 0 0 A) σ 2 [some (.ref (ad 76)), some (.int (iI x1)), none, none] [] := by
  unfold f_X3_firstOffer_2 at hf
  refine g_iload_n (i := 1) C dX3_firstOffer_2 rfl rfl ?_
  refine g_aload_n (i := 0) C dX3_firstOffer_3 rfl rfl ?_
  refine gg_X3_market (i := 1) C hiX3_firstOffer_X3 rfl dX3_firstOffer_4 ?_
  refine gg_X4_marks (i := 2) C (by decide) hiX3_firstOffer_X4 rfl dX3_firstOffer_7 ?_
  refine g_icmp_ge (tgt := 67) C dX3_firstOffer_10 (by decide) rfl rfl (fun c21 => ?_) (fun c21 => ?_)
  · have hf := if_t c21 hf
    exact g_mask [false, false, false, false] (he2 _ (Option.some.inj hf).symm)
  · have hf := if_f c21 hf
    refine g_aload_n (i := 0) C dX3_firstOffer_13 rfl rfl ?_
    refine gg_X3_market (i := 1) C hiX3_firstOffer_X3 rfl dX3_firstOffer_14 ?_
    obtain ⟨r23, σ22, h24, hf⟩ := ob_inv hf
    refine g_callVi C (c_X4_mostWorth (by decide) h24) (cwV 0 C.2.2.2.2.1 gX3_firstOffer_X4_mostWorth rfl rfl rfl (by decide +kernel) ⟨Nat.le_of_ble_eq_true rfl, Nat.le_of_ble_eq_true rfl⟩) (ob_X4 (by decide)) rfl rfl rfl rfl (Nat.le_of_ble_eq_true rfl) dX3_firstOffer_17 ⟨Nat.zero_le _, Nat.zero_le _⟩ ?_
    refine g_aload_n (i := 0) C dX3_firstOffer_20 rfl rfl ?_
    refine gg_X3_market (i := 1) C hiX3_firstOffer_X3 rfl dX3_firstOffer_21 ?_
    refine gg_X4_use (i := 3) (b := 14)  C (by decide) (by decide) hiX3_firstOffer_X4 rfl dX3_firstOffer_24 ?_
    refine g_iload_n (i := 1) C dX3_firstOffer_27 rfl rfl ?_
    obtain ⟨hb25, hf⟩ := if_inv hf
    refine g_iaload (N := 4) C (by decide) dX3_firstOffer_28 rfl hb25 ?_
    refine g_iadd C dX3_firstOffer_29 ?_
    refine g_istore_n (i := 2) C dX3_firstOffer_30 rfl (by decide) rfl ?_
    refine g_iconst C dX3_firstOffer_31 ?_
    refine g_istore_n (i := 3) C dX3_firstOffer_32 rfl (by decide) rfl ?_
    obtain ⟨q27, hl28, hf⟩ := lb_inv hf
    refine g_mask [true, true, true, true] (w_X3_firstOffer_33 C hr hlk hl28 ?_ ?_)
    · rintro r1 σ1 rfl
      exact he1 r1 σ1 (Option.some.inj hf).symm
    · rintro σ29 rfl
      have hf := se_r hf
      refine g_iinc C dX3_firstOffer_61 rfl (by decide) rfl ?_
      refine g_goto (tgt := 2) C dX3_firstOffer_64 (by decide) ?_
      exact g_mask [true, true, false, false] (hc _ _ (Option.some.inj hf).symm)
set_option maxHeartbeats 4000000 in
set_option maxRecDepth 100000 in
theorem w_X3_firstOffer_2 (C : Cx p s m args c cX3_firstOffer 4 RX3 wsX3_firstOffer D ca A) (hr : meth.sig.returnType = (some .int)) (hlk : meth.locks = false) {n : Nat} {x1 : Int} {σ : Mem} {b : ((Int × Mem) ⊕ (Mem))} (h : itr (fun z : Int × Mem => f_X3_firstOffer_2  z.1 z.2) n (x1, σ) = some b) (he1 : ∀ (r1 : Int) (σ1 : Mem), b = .inl (r1, σ1) → r1 = r0 ∧ σ1 = σ0) (he2 : ∀ (σ : Mem), b = .inr σ → G p l e rm_X3_firstOffer s m args below meth c 4 D ca ad A 0 0 (MQ below (Qi D ca ad A r0 σ0) args s 0 0 A) σ 67 [none, none, none, none] []) : G p l e rm_X3_firstOffer s m args below meth c 4 D ca ad A 0 0 (MQ below (Qi D ca ad A r0 σ0) args s 0 0 A) σ 2 [some (.ref (ad 76)), some (.int (iI x1)), none, none] [] :=
  itr_rule (P := fun z : Int × Mem => G p l e rm_X3_firstOffer s m args below meth c 4 D ca ad A 0 0 (MQ below (Qi D ca ad A r0 σ0) args s 0 0 A) z.2 2 [some (.ref (ad 76)), some (.int (iI z.1)), none, none] []) (E := fun b => (∀ (r1 : Int) (σ1 : Mem), b = .inl (r1, σ1) → r1 = r0 ∧ σ1 = σ0) ∧ (∀ (σ : Mem), b = .inr σ → G p l e rm_X3_firstOffer s m args below meth c 4 D ca ad A 0 0 (MQ below (Qi D ca ad A r0 σ0) args s 0 0 A) σ 67 [none, none, none, none] [])) (fun z o hb hc he => it_X3_firstOffer_2 C hr hlk (fun _ _ e => hc _ e) (fun r1 σ1 e => (he _ e).1 r1 σ1 rfl) (fun _ e => (he _ e).2 _ rfl) hb) n _ _ h ⟨he1, he2⟩
set_option maxHeartbeats 4000000 in
set_option maxRecDepth 100000 in
theorem c_X3_firstOffer {σ : Mem} (hf : f_X3_firstOffer  σ = some (r0, σ0)) : CTi l D ca ad A yX3_firstOffer wsX3_firstOffer rm_X3_firstOffer [.ref (ad 76)] σ r0 σ0 := by
  refine ct_i (cc := cX3_firstOffer) (own := RX3) (maxL := 4) (ret := (some .int)) (lv0 := [some (.ref (ad 76)), none, none, none]) (by decide) rfl rfl rfl (Nat.le_of_ble_eq_true rfl) ?_
  intro p e s m below meth c C hr hlk hnm
  unfold f_X3_firstOffer at hf
  refine g_iconst C dX3_firstOffer_0 ?_
  refine g_istore_n (i := 1) C dX3_firstOffer_1 rfl (by decide) rfl ?_
  obtain ⟨q31, hl32, hf⟩ := lb_inv hf
  refine g_mask [true, true, false, false] (w_X3_firstOffer_2 C hr hlk hl32 ?_ ?_)
  · rintro r1 σ1 rfl
    exact some_inv hf
  · rintro σ33 rfl
    have hf := se_r hf
    refine g_bipush C dX3_firstOffer_67 (by decide) ?_
    obtain ⟨e1, e2⟩ := some_inv hf
    exact g_iret C hr hlk e1 e2 dX3_firstOffer_69
/-! X6_leastNumbers -/
abbrev rm_X6_leastNumbers : Room := { frames := 0, cells := 0, slots := 0, locals := 0 }
theorem hiX6_leastNumbers_X6 : ∀ w ∈ u_ws RX6 TX6 9, w ∈ wsX6_leastNumbers := fun _ h => (List.mem_cons_of_mem _ (List.mem_append_right _ h))
set_option maxHeartbeats 4000000 in
set_option maxRecDepth 100000 in
theorem c_X6_leastNumbers {σ : Mem} (hf : f_X6_leastNumbers  σ = some (r0, σ0)) : CTi l D ca ad A yX6_leastNumbers wsX6_leastNumbers rm_X6_leastNumbers [.ref (ad 70)] σ r0 σ0 := by
  refine ct_i (cc := cX6_leastNumbers) (own := RX6) (maxL := 1) (ret := (some .int)) (lv0 := [some (.ref (ad 70))]) (by decide) rfl rfl rfl (Nat.le_of_ble_eq_true rfl) ?_
  intro p e s m below meth c C hr hlk hnm
  unfold f_X6_leastNumbers at hf
  refine g_aload_n (i := 0) C dX6_leastNumbers_0 rfl rfl ?_
  refine gg_X6_letter (i := 1) C hiX6_leastNumbers_X6 rfl dX6_leastNumbers_1 ?_
  refine g_bipush C dX6_leastNumbers_4 (by decide) ?_
  refine g_icmp_ne (b' := 109) (tgt := 11) C dX6_leastNumbers_6 (by decide) rfl (by decide) (fun c1 => ?_) (fun c1 => ?_)
  · have hf := if_f c1 hf
    refine g_aload_n (i := 0) C dX6_leastNumbers_11 rfl rfl ?_
    refine gg_X6_letter (i := 1) C hiX6_leastNumbers_X6 rfl dX6_leastNumbers_12 ?_
    refine g_bipush C dX6_leastNumbers_15 (by decide) ?_
    refine g_icmp_ne (b' := 115) (tgt := 24) C dX6_leastNumbers_17 (by decide) rfl (by decide) (fun c2 => ?_) (fun c2 => ?_)
    · have hf := if_f c2 hf
      refine g_iconst C dX6_leastNumbers_24 ?_
      obtain ⟨e1, e2⟩ := some_inv hf
      exact g_iret C hr hlk e1 e2 dX6_leastNumbers_25
    · have hf := if_t c2 hf
      refine g_iconst C dX6_leastNumbers_20 ?_
      refine g_goto (tgt := 25) C dX6_leastNumbers_21 (by decide) ?_
      obtain ⟨e1, e2⟩ := some_inv hf
      exact g_iret C hr hlk e1 e2 dX6_leastNumbers_25
  · have hf := if_t c1 hf
    refine g_iconst C dX6_leastNumbers_9 ?_
    obtain ⟨e1, e2⟩ := some_inv hf
    exact g_iret C hr hlk e1 e2 dX6_leastNumbers_10
/-! X6_endNumber -/
abbrev rm_X6_endNumber : Room := { frames := 0, cells := 0, slots := 0, locals := 0 }
theorem hiX6_endNumber_X6 : ∀ w ∈ u_ws RX6 TX6 9, w ∈ wsX6_endNumber := fun _ h => (List.mem_cons_of_mem _ (List.mem_append_right _ h))
set_option maxHeartbeats 4000000 in
set_option maxRecDepth 100000 in
theorem c_X6_endNumber {σ : Mem} (hf : f_X6_endNumber  σ = some (r0, σ0)) : CTv l D ca ad A yX6_endNumber wsX6_endNumber rm_X6_endNumber [.ref (ad 70)] σ σ0 := by
  refine ct_v (cc := cX6_endNumber) (own := RX6) (maxL := 1) (ret := none) (lv0 := [some (.ref (ad 70))]) (by decide) rfl rfl rfl (Nat.le_of_ble_eq_true rfl) ?_
  intro p e s m below meth c C hr hlk hnm
  unfold f_X6_endNumber at hf
  refine g_aload_n (i := 0) C dX6_endNumber_0 rfl rfl ?_
  refine gg_X6_ended (i := 1) C hiX6_endNumber_X6 rfl dX6_endNumber_1 ?_
  refine g_aload_n (i := 0) C dX6_endNumber_4 rfl rfl ?_
  refine gg_X6_numbers (i := 2) C hiX6_endNumber_X6 rfl dX6_endNumber_5 ?_
  refine g_alen (N := 5) C (by decide) dX6_endNumber_8 ?_
  refine g_icmp_ge (b' := 5) (tgt := 25) C dX6_endNumber_9 (by decide) rfl (by decide) (fun c1 => ?_) (fun c1 => ?_)
  · have hf := if_t c1 hf
    refine g_aload_n (i := 0) C dX6_endNumber_25 rfl rfl ?_
    refine g_dup C dX6_endNumber_26 rfl ?_
    refine gg_X6_ended (i := 1) C hiX6_endNumber_X6 rfl dX6_endNumber_27 ?_
    refine g_iconst C dX6_endNumber_30 ?_
    refine g_iadd C dX6_endNumber_31 ?_
    refine gp_X6_ended (i := 1) C hiX6_endNumber_X6 rfl dX6_endNumber_32 ?_
    refine g_aload_n (i := 0) C dX6_endNumber_35 rfl rfl ?_
    refine g_iconst C dX6_endNumber_36 ?_
    refine gp_X6_digits (i := 4) C hiX6_endNumber_X6 rfl dX6_endNumber_37 ?_
    refine g_aload_n (i := 0) C dX6_endNumber_40 rfl rfl ?_
    refine g_iconst C dX6_endNumber_41 ?_
    refine gp_X6_value (i := 3) C hiX6_endNumber_X6 rfl dX6_endNumber_42 ?_
    obtain ⟨e1, e2⟩ := some_inv hf
    exact g_vret C hr hlk e2 dX6_endNumber_45
  · have hf := if_f c1 hf
    refine g_aload_n (i := 0) C dX6_endNumber_12 rfl rfl ?_
    refine gg_X6_numbers (i := 2) C hiX6_endNumber_X6 rfl dX6_endNumber_13 ?_
    refine g_aload_n (i := 0) C dX6_endNumber_16 rfl rfl ?_
    refine gg_X6_ended (i := 1) C hiX6_endNumber_X6 rfl dX6_endNumber_17 ?_
    refine g_aload_n (i := 0) C dX6_endNumber_20 rfl rfl ?_
    refine gg_X6_value (i := 3) C hiX6_endNumber_X6 rfl dX6_endNumber_21 ?_
    obtain ⟨hb5, hf⟩ := if_inv hf
    refine g_iastore (N := 5) C (by decide) dX6_endNumber_24 rfl hb5 ?_
    refine g_aload_n (i := 0) C dX6_endNumber_25 rfl rfl ?_
    refine g_dup C dX6_endNumber_26 rfl ?_
    refine gg_X6_ended (i := 1) C hiX6_endNumber_X6 rfl dX6_endNumber_27 ?_
    refine g_iconst C dX6_endNumber_30 ?_
    refine g_iadd C dX6_endNumber_31 ?_
    refine gp_X6_ended (i := 1) C hiX6_endNumber_X6 rfl dX6_endNumber_32 ?_
    refine g_aload_n (i := 0) C dX6_endNumber_35 rfl rfl ?_
    refine g_iconst C dX6_endNumber_36 ?_
    refine gp_X6_digits (i := 4) C hiX6_endNumber_X6 rfl dX6_endNumber_37 ?_
    refine g_aload_n (i := 0) C dX6_endNumber_40 rfl rfl ?_
    refine g_iconst C dX6_endNumber_41 ?_
    refine gp_X6_value (i := 3) C hiX6_endNumber_X6 rfl dX6_endNumber_42 ?_
    obtain ⟨e1, e2⟩ := some_inv hf
    exact g_vret C hr hlk e2 dX6_endNumber_45
/-! X6_isAsTold -/
abbrev rm_X6_isAsTold : Room := { frames := 2, cells := 0, slots := 0, locals := 43 }
theorem hiX6_isAsTold_X6 : ∀ w ∈ u_ws RX6 TX6 9, w ∈ wsX6_isAsTold := fun _ h => (List.mem_cons_of_mem _ (List.mem_append_left _ (List.mem_append_right _ h)))
set_option maxHeartbeats 4000000 in
set_option maxRecDepth 100000 in
theorem c_X6_isAsTold {σ : Mem} (hf : f_X6_isAsTold  σ = some (r0, σ0)) : CTi l D ca ad A yX6_isAsTold wsX6_isAsTold rm_X6_isAsTold [.ref (ad 70)] σ r0 σ0 := by
  refine ct_i (cc := cX6_isAsTold) (own := RX6) (maxL := 1) (ret := (some .boolean)) (lv0 := [some (.ref (ad 70))]) (by decide) rfl rfl rfl (Nat.le_of_ble_eq_true rfl) ?_
  intro p e s m below meth c C hr hlk hnm
  unfold f_X6_isAsTold at hf
  refine g_aload_n (i := 0) C dX6_isAsTold_0 rfl rfl ?_
  refine gg_X6_letter (i := 1) C hiX6_isAsTold_X6 rfl dX6_isAsTold_1 ?_
  rcases if_or hf with ⟨k1, hf⟩ | ⟨k1, hf⟩
  · refine g_lsw (off := 54) (tgt := 58) C dX6_isAsTold_4 (by decide) (by simp [Op.lookupswitch.offset, k1] <;> (repeat split) <;> omega) (by decide) ?_
    refine g_aload_n (i := 0) C dX6_isAsTold_58 rfl rfl ?_
    refine gg_X6_found (i := 2) C hiX6_isAsTold_X6 rfl dX6_isAsTold_59 ?_
    refine g_aload_n (i := 0) C dX6_isAsTold_62 rfl rfl ?_
    refine gg_X6_numbers (i := 3) C hiX6_isAsTold_X6 rfl dX6_isAsTold_63 ?_
    refine g_aload_n (i := 0) C dX6_isAsTold_66 rfl rfl ?_
    refine gg_X6_ended (i := 4) C hiX6_isAsTold_X6 rfl dX6_isAsTold_67 ?_
    obtain ⟨r3, σ2, h4, hf⟩ := ob_inv hf
    refine g_callVi C (c_X4_addMark (by decide) (by decide) h4) (cwV 2 C.2.2.2.2.1 gX6_isAsTold_X4_addMark rfl rfl rfl (by decide +kernel) ⟨Nat.le_of_ble_eq_true rfl, Nat.le_of_ble_eq_true rfl⟩) (ob_X4 (by decide)) rfl rfl rfl rfl (Nat.le_of_ble_eq_true rfl) dX6_isAsTold_70 ⟨Nat.zero_le _, Nat.zero_le _⟩ ?_
    obtain ⟨hz5, hf⟩ := if_inv hf
    obtain ⟨e1, e2⟩ := some_inv hf
    exact g_zret C hr hlk hz5 e1 e2 dX6_isAsTold_73
  · rcases if_or hf with ⟨k6, hf⟩ | ⟨k6, hf⟩
    · refine g_lsw (off := 28) (tgt := 32) C dX6_isAsTold_4 (by decide) (by simp [Op.lookupswitch.offset, k1, k6] <;> (repeat split) <;> omega) (by decide) ?_
      refine g_aload_n (i := 0) C dX6_isAsTold_32 rfl rfl ?_
      refine gg_X6_found (i := 2) C hiX6_isAsTold_X6 rfl dX6_isAsTold_33 ?_
      refine g_aload_n (i := 0) C dX6_isAsTold_36 rfl rfl ?_
      refine gg_X6_numbers (i := 3) C hiX6_isAsTold_X6 rfl dX6_isAsTold_37 ?_
      refine g_iconst C dX6_isAsTold_40 ?_
      refine g_iaload (N := 5) (j := 0) C (by decide) dX6_isAsTold_41 (by decide) (by decide) ?_
      refine g_aload_n (i := 0) C dX6_isAsTold_42 rfl rfl ?_
      refine gg_X6_numbers (i := 3) C hiX6_isAsTold_X6 rfl dX6_isAsTold_43 ?_
      refine g_iconst C dX6_isAsTold_46 ?_
      refine g_iaload (N := 5) (j := 1) C (by decide) dX6_isAsTold_47 (by decide) (by decide) ?_
      refine g_aload_n (i := 0) C dX6_isAsTold_48 rfl rfl ?_
      refine gg_X6_numbers (i := 3) C hiX6_isAsTold_X6 rfl dX6_isAsTold_49 ?_
      refine g_iconst C dX6_isAsTold_52 ?_
      refine g_iaload (N := 5) (j := 2) C (by decide) dX6_isAsTold_53 (by decide) (by decide) ?_
      obtain ⟨r8, σ7, h9, hf⟩ := ob_inv hf
      refine g_callVi C (c_X4_addSort (by decide) h9) (cwV 3 C.2.2.2.2.1 gX6_isAsTold_X4_addSort rfl rfl rfl (by decide +kernel) ⟨Nat.le_of_ble_eq_true rfl, Nat.le_of_ble_eq_true rfl⟩) (ob_X4 (by decide)) rfl rfl rfl rfl (Nat.le_of_ble_eq_true rfl) dX6_isAsTold_54 ⟨Nat.zero_le _, Nat.zero_le _⟩ ?_
      obtain ⟨hz10, hf⟩ := if_inv hf
      obtain ⟨e1, e2⟩ := some_inv hf
      exact g_zret C hr hlk hz10 e1 e2 dX6_isAsTold_57
    · refine g_lsw (off := 70) (tgt := 74) C dX6_isAsTold_4 (by decide) (by simp [Op.lookupswitch.offset, k1, k6] <;> (repeat split) <;> omega) (by decide) ?_
      refine g_aload_n (i := 0) C dX6_isAsTold_74 rfl rfl ?_
      refine gg_X6_found (i := 2) C hiX6_isAsTold_X6 rfl dX6_isAsTold_75 ?_
      refine g_aload_n (i := 0) C dX6_isAsTold_78 rfl rfl ?_
      refine gg_X6_numbers (i := 3) C hiX6_isAsTold_X6 rfl dX6_isAsTold_79 ?_
      refine g_iconst C dX6_isAsTold_82 ?_
      refine g_iaload (N := 5) (j := 0) C (by decide) dX6_isAsTold_83 (by decide) (by decide) ?_
      refine g_aload_n (i := 0) C dX6_isAsTold_84 rfl rfl ?_
      refine gg_X6_numbers (i := 3) C hiX6_isAsTold_X6 rfl dX6_isAsTold_85 ?_
      refine g_iconst C dX6_isAsTold_88 ?_
      refine g_iaload (N := 5) (j := 1) C (by decide) dX6_isAsTold_89 (by decide) (by decide) ?_
      obtain ⟨r12, σ11, h13, hf⟩ := ob_inv hf
      refine g_callVi C (c_X4_tell (by decide) h13) (cwV 2 C.2.2.2.2.1 gX6_isAsTold_X4_tell rfl rfl rfl (by decide +kernel) ⟨Nat.le_of_ble_eq_true rfl, Nat.le_of_ble_eq_true rfl⟩) (ob_X4 (by decide)) rfl rfl rfl rfl (Nat.le_of_ble_eq_true rfl) dX6_isAsTold_90 ⟨Nat.zero_le _, Nat.zero_le _⟩ ?_
      obtain ⟨hz14, hf⟩ := if_inv hf
      obtain ⟨e1, e2⟩ := some_inv hf
      exact g_zret C hr hlk hz14 e1 e2 dX6_isAsTold_93
/-! X6_endStatement -/
abbrev rm_X6_endStatement : Room := { frames := 3, cells := 0, slots := 0, locals := 63 }
theorem hiX6_endStatement_X6 : ∀ w ∈ u_ws RX6 TX6 9, w ∈ wsX6_endStatement := fun _ h => (List.mem_cons_of_mem _ (List.mem_append_left _ (List.mem_append_right _ h)))
set_option maxHeartbeats 4000000 in
set_option maxRecDepth 100000 in
theorem c_X6_endStatement {σ : Mem} (hf : f_X6_endStatement  σ = some (r0, σ0)) : CTv l D ca ad A yX6_endStatement wsX6_endStatement rm_X6_endStatement [.ref (ad 70)] σ σ0 := by
  refine ct_v (cc := cX6_endStatement) (own := RX6) (maxL := 1) (ret := none) (lv0 := [some (.ref (ad 70))]) (by decide) rfl rfl rfl (Nat.le_of_ble_eq_true rfl) ?_
  intro p e s m below meth c C hr hlk hnm
  unfold f_X6_endStatement at hf
  refine g_aload_n (i := 0) C dX6_endStatement_0 rfl rfl ?_
  refine gg_X6_untrue (i := 1) C hiX6_endStatement_X6 rfl dX6_endStatement_1 ?_
  refine g_if_ge (tgt := 22) C dX6_endStatement_4 (by decide) rfl (fun c1 => ?_) (fun c1 => ?_)
  · have hf := if_t c1 hf
    refine g_aload_n (i := 0) C dX6_endStatement_22 rfl rfl ?_
    refine g_dup C dX6_endStatement_23 rfl ?_
    refine gg_X6_statements (i := 3) C hiX6_endStatement_X6 rfl dX6_endStatement_24 ?_
    refine g_iconst C dX6_endStatement_27 ?_
    refine g_iadd C dX6_endStatement_28 ?_
    refine gp_X6_statements (i := 3) C hiX6_endStatement_X6 rfl dX6_endStatement_29 ?_
    refine g_aload_n (i := 0) C dX6_endStatement_32 rfl rfl ?_
    refine g_iconst C dX6_endStatement_33 ?_
    refine gp_X6_letter (i := 4) C hiX6_endStatement_X6 rfl dX6_endStatement_34 ?_
    obtain ⟨e1, e2⟩ := some_inv hf
    exact g_vret C hr hlk e2 dX6_endStatement_37
  · have hf := if_f c1 hf
    refine g_aload_n (i := 0) C dX6_endStatement_7 rfl rfl ?_
    obtain ⟨r5, σ4, h6, hf⟩ := ob_inv hf
    refine g_callVi C (c_X6_isAsTold  h6) (cwV 0 C.2.2.2.2.1 gX6_endStatement_X6_isAsTold rfl rfl rfl (by decide +kernel) ⟨Nat.le_of_ble_eq_true rfl, Nat.le_of_ble_eq_true rfl⟩) ob_X6 rfl rfl rfl rfl (Nat.le_of_ble_eq_true rfl) dX6_endStatement_8 ⟨Nat.zero_le _, Nat.zero_le _⟩ ?_
    refine g_if_ne (tgt := 22) C dX6_endStatement_11 (by decide) rfl (fun c7 => ?_) (fun c7 => ?_)
    · have hf := if_f c7 hf
      refine g_aload_n (i := 0) C dX6_endStatement_22 rfl rfl ?_
      refine g_dup C dX6_endStatement_23 rfl ?_
      refine gg_X6_statements (i := 3) C hiX6_endStatement_X6 rfl dX6_endStatement_24 ?_
      refine g_iconst C dX6_endStatement_27 ?_
      refine g_iadd C dX6_endStatement_28 ?_
      refine gp_X6_statements (i := 3) C hiX6_endStatement_X6 rfl dX6_endStatement_29 ?_
      refine g_aload_n (i := 0) C dX6_endStatement_32 rfl rfl ?_
      refine g_iconst C dX6_endStatement_33 ?_
      refine gp_X6_letter (i := 4) C hiX6_endStatement_X6 rfl dX6_endStatement_34 ?_
      obtain ⟨e1, e2⟩ := some_inv hf
      exact g_vret C hr hlk e2 dX6_endStatement_37
    · have hf := if_t c7 hf
      refine g_aload_n (i := 0) C dX6_endStatement_14 rfl rfl ?_
      refine g_aload_n (i := 0) C dX6_endStatement_15 rfl rfl ?_
      refine gg_X6_letterPlace (i := 2) C hiX6_endStatement_X6 rfl dX6_endStatement_16 ?_
      refine gp_X6_untrue (i := 1) C hiX6_endStatement_X6 rfl dX6_endStatement_19 ?_
      refine g_aload_n (i := 0) C dX6_endStatement_22 rfl rfl ?_
      refine g_dup C dX6_endStatement_23 rfl ?_
      refine gg_X6_statements (i := 3) C hiX6_endStatement_X6 rfl dX6_endStatement_24 ?_
      refine g_iconst C dX6_endStatement_27 ?_
      refine g_iadd C dX6_endStatement_28 ?_
      refine gp_X6_statements (i := 3) C hiX6_endStatement_X6 rfl dX6_endStatement_29 ?_
      refine g_aload_n (i := 0) C dX6_endStatement_32 rfl rfl ?_
      refine g_iconst C dX6_endStatement_33 ?_
      refine gp_X6_letter (i := 4) C hiX6_endStatement_X6 rfl dX6_endStatement_34 ?_
      obtain ⟨e1, e2⟩ := some_inv hf
      exact g_vret C hr hlk e2 dX6_endStatement_37
/-! X6_mostNumbers -/
abbrev rm_X6_mostNumbers : Room := { frames := 1, cells := 0, slots := 0, locals := 20 }
theorem hiX6_mostNumbers_X6 : ∀ w ∈ u_ws RX6 TX6 9, w ∈ wsX6_mostNumbers := fun _ h => (List.mem_cons_of_mem _ (List.mem_append_right _ h))
set_option maxHeartbeats 4000000 in
set_option maxRecDepth 100000 in
theorem c_X6_mostNumbers {σ : Mem} (hf : f_X6_mostNumbers  σ = some (r0, σ0)) : CTi l D ca ad A yX6_mostNumbers wsX6_mostNumbers rm_X6_mostNumbers [.ref (ad 70)] σ r0 σ0 := by
  refine ct_i (cc := cX6_mostNumbers) (own := RX6) (maxL := 1) (ret := (some .int)) (lv0 := [some (.ref (ad 70))]) (by decide) rfl rfl rfl (Nat.le_of_ble_eq_true rfl) ?_
  intro p e s m below meth c C hr hlk hnm
  unfold f_X6_mostNumbers at hf
  refine g_aload_n (i := 0) C dX6_mostNumbers_0 rfl rfl ?_
  refine gg_X6_letter (i := 1) C hiX6_mostNumbers_X6 rfl dX6_mostNumbers_1 ?_
  refine g_bipush C dX6_mostNumbers_4 (by decide) ?_
  refine g_icmp_ne (b' := 109) (tgt := 12) C dX6_mostNumbers_6 (by decide) rfl (by decide) (fun c1 => ?_) (fun c1 => ?_)
  · have hf := if_f c1 hf
    refine g_aload_n (i := 0) C dX6_mostNumbers_12 rfl rfl ?_
    obtain ⟨r3, σ2, h4, hf⟩ := ob_inv hf
    refine g_callVi C (c_X6_leastNumbers  h4) (cwV 0 C.2.2.2.2.1 gX6_mostNumbers_X6_leastNumbers rfl rfl rfl (by decide +kernel) ⟨Nat.le_of_ble_eq_true rfl, Nat.le_of_ble_eq_true rfl⟩) ob_X6 rfl rfl rfl rfl (Nat.le_of_ble_eq_true rfl) dX6_mostNumbers_13 ⟨Nat.zero_le _, Nat.zero_le _⟩ ?_
    obtain ⟨e1, e2⟩ := some_inv hf
    exact g_iret C hr hlk e1 e2 dX6_mostNumbers_16
  · have hf := if_t c1 hf
    refine g_bipush C dX6_mostNumbers_9 (by decide) ?_
    obtain ⟨e1, e2⟩ := some_inv hf
    exact g_iret C hr hlk e1 e2 dX6_mostNumbers_11
/-! X6_takesDigit -/
abbrev rm_X6_takesDigit : Room := { frames := 0, cells := 0, slots := 0, locals := 0 }
theorem hiX6_takesDigit_X6 : ∀ w ∈ u_ws RX6 TX6 9, w ∈ wsX6_takesDigit := fun _ h => (List.mem_cons_of_mem _ (List.mem_append_right _ h))
set_option maxHeartbeats 4000000 in
set_option maxRecDepth 100000 in
theorem c_X6_takesDigit {v1 : Int} {σ : Mem} (hf : f_X6_takesDigit v1 σ = some (r0, σ0)) : CTi l D ca ad A yX6_takesDigit wsX6_takesDigit rm_X6_takesDigit [.ref (ad 70), .int (iI v1)] σ r0 σ0 := by
  refine ct_i (cc := cX6_takesDigit) (own := RX6) (maxL := 3) (ret := (some .boolean)) (lv0 := [some (.ref (ad 70)), some (.int (iI v1)), none]) (by decide) rfl rfl rfl (Nat.le_of_ble_eq_true rfl) ?_
  intro p e s m below meth c C hr hlk hnm
  unfold f_X6_takesDigit at hf
  refine g_aload_n (i := 0) C dX6_takesDigit_0 rfl rfl ?_
  refine gg_X6_digits (i := 1) C hiX6_takesDigit_X6 rfl dX6_takesDigit_1 ?_
  refine g_if_le (tgt := 18) C dX6_takesDigit_4 (by decide) rfl (fun c1 => ?_) (fun c1 => ?_)
  · have hf := if_t c1 hf
    refine g_iconst C dX6_takesDigit_18 ?_
    refine g_istore_n (i := 2) C dX6_takesDigit_19 rfl (by decide) rfl ?_
    refine g_aload_n (i := 0) C dX6_takesDigit_20 rfl rfl ?_
    refine gg_X6_digits (i := 1) C hiX6_takesDigit_X6 rfl dX6_takesDigit_21 ?_
    refine g_iconst C dX6_takesDigit_24 ?_
    refine g_icmp_eq (b' := 3) (tgt := 32) C dX6_takesDigit_25 (by decide) rfl (by decide) (fun c2 => ?_) (fun c2 => ?_)
    · have hf := if_t c2 hf
      refine g_iconst C dX6_takesDigit_32 ?_
      obtain ⟨e1, e2⟩ := some_inv hf
      exact g_zret C hr hlk (by decide) e1 e2 dX6_takesDigit_33
    · have hf := if_f c2 hf
      refine g_iload_n (i := 2) C dX6_takesDigit_28 rfl rfl ?_
      refine g_if_eq (a' := 0) (tgt := 34) C dX6_takesDigit_29 (by decide) (by decide) (fun c3 => ?_) (fun c3 => absurd c3 (by decide))
      refine g_aload_n (i := 0) C dX6_takesDigit_34 rfl rfl ?_
      refine g_bipush C dX6_takesDigit_35 (by decide) ?_
      refine g_aload_n (i := 0) C dX6_takesDigit_37 rfl rfl ?_
      refine gg_X6_value (i := 2) C hiX6_takesDigit_X6 rfl dX6_takesDigit_38 ?_
      refine g_imul C dX6_takesDigit_41 ?_
      refine g_iload_n (i := 1) C dX6_takesDigit_42 rfl rfl ?_
      refine g_iadd C dX6_takesDigit_43 ?_
      refine gp_X6_value (i := 2) C hiX6_takesDigit_X6 rfl dX6_takesDigit_44 ?_
      refine g_aload_n (i := 0) C dX6_takesDigit_47 rfl rfl ?_
      refine g_dup C dX6_takesDigit_48 rfl ?_
      refine gg_X6_digits (i := 1) C hiX6_takesDigit_X6 rfl dX6_takesDigit_49 ?_
      refine g_iconst C dX6_takesDigit_52 ?_
      refine g_iadd C dX6_takesDigit_53 ?_
      refine gp_X6_digits (i := 1) C hiX6_takesDigit_X6 rfl dX6_takesDigit_54 ?_
      refine g_iconst C dX6_takesDigit_57 ?_
      obtain ⟨e1, e2⟩ := some_inv hf
      exact g_zret C hr hlk (by decide) e1 e2 dX6_takesDigit_58
  · have hf := if_f c1 hf
    refine g_aload_n (i := 0) C dX6_takesDigit_7 rfl rfl ?_
    refine gg_X6_value (i := 2) C hiX6_takesDigit_X6 rfl dX6_takesDigit_8 ?_
    refine g_if_ne (tgt := 18) C dX6_takesDigit_11 (by decide) rfl (fun c6 => ?_) (fun c6 => ?_)
    · have hf := if_f c6 hf
      refine g_iconst C dX6_takesDigit_18 ?_
      refine g_istore_n (i := 2) C dX6_takesDigit_19 rfl (by decide) rfl ?_
      refine g_aload_n (i := 0) C dX6_takesDigit_20 rfl rfl ?_
      refine gg_X6_digits (i := 1) C hiX6_takesDigit_X6 rfl dX6_takesDigit_21 ?_
      refine g_iconst C dX6_takesDigit_24 ?_
      refine g_icmp_eq (b' := 3) (tgt := 32) C dX6_takesDigit_25 (by decide) rfl (by decide) (fun c7 => ?_) (fun c7 => ?_)
      · have hf := if_t c7 hf
        refine g_iconst C dX6_takesDigit_32 ?_
        obtain ⟨e1, e2⟩ := some_inv hf
        exact g_zret C hr hlk (by decide) e1 e2 dX6_takesDigit_33
      · have hf := if_f c7 hf
        refine g_iload_n (i := 2) C dX6_takesDigit_28 rfl rfl ?_
        refine g_if_eq (a' := 0) (tgt := 34) C dX6_takesDigit_29 (by decide) (by decide) (fun c8 => ?_) (fun c8 => absurd c8 (by decide))
        refine g_aload_n (i := 0) C dX6_takesDigit_34 rfl rfl ?_
        refine g_bipush C dX6_takesDigit_35 (by decide) ?_
        refine g_aload_n (i := 0) C dX6_takesDigit_37 rfl rfl ?_
        refine gg_X6_value (i := 2) C hiX6_takesDigit_X6 rfl dX6_takesDigit_38 ?_
        refine g_imul C dX6_takesDigit_41 ?_
        refine g_iload_n (i := 1) C dX6_takesDigit_42 rfl rfl ?_
        refine g_iadd C dX6_takesDigit_43 ?_
        refine gp_X6_value (i := 2) C hiX6_takesDigit_X6 rfl dX6_takesDigit_44 ?_
        refine g_aload_n (i := 0) C dX6_takesDigit_47 rfl rfl ?_
        refine g_dup C dX6_takesDigit_48 rfl ?_
        refine gg_X6_digits (i := 1) C hiX6_takesDigit_X6 rfl dX6_takesDigit_49 ?_
        refine g_iconst C dX6_takesDigit_52 ?_
        refine g_iadd C dX6_takesDigit_53 ?_
        refine gp_X6_digits (i := 1) C hiX6_takesDigit_X6 rfl dX6_takesDigit_54 ?_
        refine g_iconst C dX6_takesDigit_57 ?_
        obtain ⟨e1, e2⟩ := some_inv hf
        exact g_zret C hr hlk (by decide) e1 e2 dX6_takesDigit_58
    · have hf := if_t c6 hf
      refine g_iconst C dX6_takesDigit_14 ?_
      refine g_goto (tgt := 19) C dX6_takesDigit_15 (by decide) ?_
      refine g_istore_n (i := 2) C dX6_takesDigit_19 rfl (by decide) rfl ?_
      refine g_aload_n (i := 0) C dX6_takesDigit_20 rfl rfl ?_
      refine gg_X6_digits (i := 1) C hiX6_takesDigit_X6 rfl dX6_takesDigit_21 ?_
      refine g_iconst C dX6_takesDigit_24 ?_
      refine g_icmp_eq (b' := 3) (tgt := 32) C dX6_takesDigit_25 (by decide) rfl (by decide) (fun c11 => ?_) (fun c11 => ?_)
      · have hf := if_t c11 hf
        refine g_iconst C dX6_takesDigit_32 ?_
        obtain ⟨e1, e2⟩ := some_inv hf
        exact g_zret C hr hlk (by decide) e1 e2 dX6_takesDigit_33
      · have hf := if_f c11 hf
        refine g_iload_n (i := 2) C dX6_takesDigit_28 rfl rfl ?_
        refine g_if_eq (a' := 1) (tgt := 34) C dX6_takesDigit_29 (by decide) (by decide) (fun c12 => absurd c12 (by decide)) (fun c12 => ?_)
        refine g_iconst C dX6_takesDigit_32 ?_
        obtain ⟨e1, e2⟩ := some_inv hf
        exact g_zret C hr hlk (by decide) e1 e2 dX6_takesDigit_33
/-! X6_begins -/
abbrev rm_X6_begins : Room := { frames := 0, cells := 0, slots := 0, locals := 0 }
theorem hiX6_begins_X6 : ∀ w ∈ u_ws RX6 TX6 9, w ∈ wsX6_begins := fun _ h => (List.mem_cons_of_mem _ (List.mem_append_right _ h))
set_option maxHeartbeats 4000000 in
set_option maxRecDepth 100000 in
theorem c_X6_begins {v1 v2 : Int} {σ : Mem} (hf : f_X6_begins v1 v2 σ = some (r0, σ0)) : CTi l D ca ad A yX6_begins wsX6_begins rm_X6_begins [.ref (ad 70), .int (iI v1), .int (iI v2)] σ r0 σ0 := by
  refine ct_i (cc := cX6_begins) (own := RX6) (maxL := 3) (ret := (some .boolean)) (lv0 := [some (.ref (ad 70)), some (.int (iI v1)), some (.int (iI v2))]) (by decide) rfl rfl rfl (Nat.le_of_ble_eq_true rfl) ?_
  intro p e s m below meth c C hr hlk hnm
  unfold f_X6_begins at hf
  refine g_iload_n (i := 1) C dX6_begins_0 rfl rfl ?_
  refine g_bipush C dX6_begins_1 (by decide) ?_
  refine g_icmp_eq (b' := 115) (tgt := 20) C dX6_begins_3 (by decide) rfl (by decide) (fun c1 => ?_) (fun c1 => ?_)
  · have hf := if_t c1 hf
    refine g_aload_n (i := 0) C dX6_begins_20 rfl rfl ?_
    refine g_iload_n (i := 1) C dX6_begins_21 rfl rfl ?_
    refine gp_X6_letter (i := 1) C hiX6_begins_X6 rfl dX6_begins_22 ?_
    refine g_aload_n (i := 0) C dX6_begins_25 rfl rfl ?_
    refine g_iload_n (i := 2) C dX6_begins_26 rfl rfl ?_
    refine gp_X6_letterPlace (i := 2) C hiX6_begins_X6 rfl dX6_begins_27 ?_
    refine g_aload_n (i := 0) C dX6_begins_30 rfl rfl ?_
    refine g_iconst C dX6_begins_31 ?_
    refine gp_X6_ended (i := 3) C hiX6_begins_X6 rfl dX6_begins_32 ?_
    refine g_aload_n (i := 0) C dX6_begins_35 rfl rfl ?_
    refine g_iconst C dX6_begins_36 ?_
    refine gp_X6_digits (i := 4) C hiX6_begins_X6 rfl dX6_begins_37 ?_
    refine g_aload_n (i := 0) C dX6_begins_40 rfl rfl ?_
    refine g_iconst C dX6_begins_41 ?_
    refine gp_X6_value (i := 5) C hiX6_begins_X6 rfl dX6_begins_42 ?_
    refine g_iconst C dX6_begins_45 ?_
    obtain ⟨e1, e2⟩ := some_inv hf
    exact g_zret C hr hlk (by decide) e1 e2 dX6_begins_46
  · have hf := if_f c1 hf
    refine g_iload_n (i := 1) C dX6_begins_6 rfl rfl ?_
    refine g_bipush C dX6_begins_7 (by decide) ?_
    refine g_icmp_eq (b' := 109) (tgt := 20) C dX6_begins_9 (by decide) rfl (by decide) (fun c7 => ?_) (fun c7 => ?_)
    · have hf := if_t c7 hf
      refine g_aload_n (i := 0) C dX6_begins_20 rfl rfl ?_
      refine g_iload_n (i := 1) C dX6_begins_21 rfl rfl ?_
      refine gp_X6_letter (i := 1) C hiX6_begins_X6 rfl dX6_begins_22 ?_
      refine g_aload_n (i := 0) C dX6_begins_25 rfl rfl ?_
      refine g_iload_n (i := 2) C dX6_begins_26 rfl rfl ?_
      refine gp_X6_letterPlace (i := 2) C hiX6_begins_X6 rfl dX6_begins_27 ?_
      refine g_aload_n (i := 0) C dX6_begins_30 rfl rfl ?_
      refine g_iconst C dX6_begins_31 ?_
      refine gp_X6_ended (i := 3) C hiX6_begins_X6 rfl dX6_begins_32 ?_
      refine g_aload_n (i := 0) C dX6_begins_35 rfl rfl ?_
      refine g_iconst C dX6_begins_36 ?_
      refine gp_X6_digits (i := 4) C hiX6_begins_X6 rfl dX6_begins_37 ?_
      refine g_aload_n (i := 0) C dX6_begins_40 rfl rfl ?_
      refine g_iconst C dX6_begins_41 ?_
      refine gp_X6_value (i := 5) C hiX6_begins_X6 rfl dX6_begins_42 ?_
      refine g_iconst C dX6_begins_45 ?_
      obtain ⟨e1, e2⟩ := some_inv hf
      exact g_zret C hr hlk (by decide) e1 e2 dX6_begins_46
    · have hf := if_f c7 hf
      refine g_iload_n (i := 1) C dX6_begins_12 rfl rfl ?_
      refine g_bipush C dX6_begins_13 (by decide) ?_
      refine g_icmp_eq (b' := 116) (tgt := 20) C dX6_begins_15 (by decide) rfl (by decide) (fun c13 => ?_) (fun c13 => ?_)
      · have hf := if_t c13 hf
        refine g_aload_n (i := 0) C dX6_begins_20 rfl rfl ?_
        refine g_iload_n (i := 1) C dX6_begins_21 rfl rfl ?_
        refine gp_X6_letter (i := 1) C hiX6_begins_X6 rfl dX6_begins_22 ?_
        refine g_aload_n (i := 0) C dX6_begins_25 rfl rfl ?_
        refine g_iload_n (i := 2) C dX6_begins_26 rfl rfl ?_
        refine gp_X6_letterPlace (i := 2) C hiX6_begins_X6 rfl dX6_begins_27 ?_
        refine g_aload_n (i := 0) C dX6_begins_30 rfl rfl ?_
        refine g_iconst C dX6_begins_31 ?_
        refine gp_X6_ended (i := 3) C hiX6_begins_X6 rfl dX6_begins_32 ?_
        refine g_aload_n (i := 0) C dX6_begins_35 rfl rfl ?_
        refine g_iconst C dX6_begins_36 ?_
        refine gp_X6_digits (i := 4) C hiX6_begins_X6 rfl dX6_begins_37 ?_
        refine g_aload_n (i := 0) C dX6_begins_40 rfl rfl ?_
        refine g_iconst C dX6_begins_41 ?_
        refine gp_X6_value (i := 5) C hiX6_begins_X6 rfl dX6_begins_42 ?_
        refine g_iconst C dX6_begins_45 ?_
        obtain ⟨e1, e2⟩ := some_inv hf
        exact g_zret C hr hlk (by decide) e1 e2 dX6_begins_46
      · have hf := if_f c13 hf
        refine g_iconst C dX6_begins_18 ?_
        obtain ⟨e1, e2⟩ := some_inv hf
        exact g_zret C hr hlk (by decide) e1 e2 dX6_begins_19
/-! X6_goesOn -/
abbrev rm_X6_goesOn : Room := { frames := 4, cells := 0, slots := 0, locals := 83 }
theorem hiX6_goesOn_X6 : ∀ w ∈ u_ws RX6 TX6 9, w ∈ wsX6_goesOn := fun _ h => (List.mem_cons_of_mem _ (List.mem_append_left _ (List.mem_append_right _ h)))
set_option maxHeartbeats 4000000 in
set_option maxRecDepth 100000 in
theorem c_X6_goesOn {v1 v2 : Int} {σ : Mem} (hf : f_X6_goesOn v1 v2 σ = some (r0, σ0)) : CTi l D ca ad A yX6_goesOn wsX6_goesOn rm_X6_goesOn [.ref (ad 70), .int (iI v1), .int (iI v2)] σ r0 σ0 := by
  refine ct_i (cc := cX6_goesOn) (own := RX6) (maxL := 3) (ret := (some .boolean)) (lv0 := [some (.ref (ad 70)), some (.int (iI v1)), some (.int (iI v2))]) (by decide) rfl rfl rfl (Nat.le_of_ble_eq_true rfl) ?_
  intro p e s m below meth c C hr hlk hnm
  unfold f_X6_goesOn at hf
  refine g_aload_n (i := 0) C dX6_goesOn_0 rfl rfl ?_
  refine gg_X6_letter (i := 1) C hiX6_goesOn_X6 rfl dX6_goesOn_1 ?_
  refine g_if_ne (tgt := 14) C dX6_goesOn_4 (by decide) rfl (fun c1 => ?_) (fun c1 => ?_)
  · have hf := if_f c1 hf
    refine g_iload_n (i := 1) C dX6_goesOn_14 rfl rfl ?_
    refine g_bipush C dX6_goesOn_15 (by decide) ?_
    refine g_icmp_lt (b' := 48) (tgt := 35) C dX6_goesOn_17 (by decide) rfl (by decide) (fun c2 => ?_) (fun c2 => ?_)
    · have hf := if_t c2 hf
      refine g_aload_n (i := 0) C dX6_goesOn_35 rfl rfl ?_
      refine gg_X6_digits (i := 2) C hiX6_goesOn_X6 rfl dX6_goesOn_36 ?_
      refine g_if_ne (tgt := 44) C dX6_goesOn_39 (by decide) rfl (fun c3 => ?_) (fun c3 => ?_)
      · have hf := if_f c3 hf
        refine g_iload_n (i := 1) C dX6_goesOn_44 rfl rfl ?_
        refine g_bipush C dX6_goesOn_45 (by decide) ?_
        refine g_icmp_ne (b' := 32) (tgt := 69) C dX6_goesOn_47 (by decide) rfl (by decide) (fun c4 => ?_) (fun c4 => ?_)
        · have hf := if_f c4 hf
          refine g_iload_n (i := 1) C dX6_goesOn_69 rfl rfl ?_
          refine g_bipush C dX6_goesOn_70 (by decide) ?_
          refine g_icmp_ne (b' := 59) (tgt := 98) C dX6_goesOn_72 (by decide) rfl (by decide) (fun c5 => ?_) (fun c5 => ?_)
          · have hf := if_f c5 hf
            refine g_iconst C dX6_goesOn_98 ?_
            obtain ⟨e1, e2⟩ := some_inv hf
            exact g_zret C hr hlk (by decide) e1 e2 dX6_goesOn_99
          · have hf := if_t c5 hf
            refine g_aload_n (i := 0) C dX6_goesOn_75 rfl rfl ?_
            refine gg_X6_ended (i := 3) C hiX6_goesOn_X6 rfl dX6_goesOn_76 ?_
            refine g_iconst C dX6_goesOn_79 ?_
            refine g_iadd C dX6_goesOn_80 ?_
            refine g_aload_n (i := 0) C dX6_goesOn_81 rfl rfl ?_
            obtain ⟨r7, σ6, h8, hf⟩ := ob_inv hf
            refine g_callVi C (c_X6_leastNumbers  h8) (cwV 0 C.2.2.2.2.1 gX6_goesOn_X6_leastNumbers rfl rfl rfl (by decide +kernel) ⟨Nat.le_of_ble_eq_true rfl, Nat.le_of_ble_eq_true rfl⟩) ob_X6 rfl rfl rfl rfl (Nat.le_of_ble_eq_true rfl) dX6_goesOn_82 ⟨Nat.zero_le _, Nat.zero_le _⟩ ?_
            refine g_icmp_lt (tgt := 98) C dX6_goesOn_85 (by decide) rfl rfl (fun c9 => ?_) (fun c9 => ?_)
            · have hf := if_t c9 hf
              refine g_iconst C dX6_goesOn_98 ?_
              obtain ⟨e1, e2⟩ := some_inv hf
              exact g_zret C hr hlk (by decide) e1 e2 dX6_goesOn_99
            · have hf := if_f c9 hf
              refine g_aload_n (i := 0) C dX6_goesOn_88 rfl rfl ?_
              obtain ⟨r11, σ10, h12, hf⟩ := ob_inv hf
              refine g_callVv C (c_X6_endNumber  h12) (cwV 0 C.2.2.2.2.1 gX6_goesOn_X6_endNumber rfl rfl rfl (by decide +kernel) ⟨Nat.le_of_ble_eq_true rfl, Nat.le_of_ble_eq_true rfl⟩) ob_X6 rfl rfl rfl rfl (Nat.le_of_ble_eq_true rfl) dX6_goesOn_89 ⟨Nat.zero_le _, Nat.zero_le _⟩ ?_
              refine g_aload_n (i := 0) C dX6_goesOn_92 rfl rfl ?_
              obtain ⟨r14, σ13, h15, hf⟩ := ob_inv hf
              refine g_callVv C (c_X6_endStatement  h15) (cwV 0 C.2.2.2.2.1 gX6_goesOn_X6_endStatement rfl rfl rfl (by decide +kernel) ⟨Nat.le_of_ble_eq_true rfl, Nat.le_of_ble_eq_true rfl⟩) ob_X6 rfl rfl rfl rfl (Nat.le_of_ble_eq_true rfl) dX6_goesOn_93 ⟨Nat.zero_le _, Nat.zero_le _⟩ ?_
              refine g_iconst C dX6_goesOn_96 ?_
              obtain ⟨e1, e2⟩ := some_inv hf
              exact g_zret C hr hlk (by decide) e1 e2 dX6_goesOn_97
        · have hf := if_t c4 hf
          refine g_aload_n (i := 0) C dX6_goesOn_50 rfl rfl ?_
          refine gg_X6_ended (i := 3) C hiX6_goesOn_X6 rfl dX6_goesOn_51 ?_
          refine g_iconst C dX6_goesOn_54 ?_
          refine g_iadd C dX6_goesOn_55 ?_
          refine g_aload_n (i := 0) C dX6_goesOn_56 rfl rfl ?_
          obtain ⟨r17, σ16, h18, hf⟩ := ob_inv hf
          refine g_callVi C (c_X6_mostNumbers  h18) (cwV 0 C.2.2.2.2.1 gX6_goesOn_X6_mostNumbers rfl rfl rfl (by decide +kernel) ⟨Nat.le_of_ble_eq_true rfl, Nat.le_of_ble_eq_true rfl⟩) ob_X6 rfl rfl rfl rfl (Nat.le_of_ble_eq_true rfl) dX6_goesOn_57 ⟨Nat.zero_le _, Nat.zero_le _⟩ ?_
          refine g_icmp_ge (tgt := 69) C dX6_goesOn_60 (by decide) rfl rfl (fun c19 => ?_) (fun c19 => ?_)
          · have hf := if_t c19 hf
            refine g_iload_n (i := 1) C dX6_goesOn_69 rfl rfl ?_
            refine g_bipush C dX6_goesOn_70 (by decide) ?_
            refine g_icmp_ne (b' := 59) (tgt := 98) C dX6_goesOn_72 (by decide) rfl (by decide) (fun c20 => ?_) (fun c20 => ?_)
            · have hf := if_f c20 hf
              refine g_iconst C dX6_goesOn_98 ?_
              obtain ⟨e1, e2⟩ := some_inv hf
              exact g_zret C hr hlk (by decide) e1 e2 dX6_goesOn_99
            · have hf := if_t c20 hf
              refine g_aload_n (i := 0) C dX6_goesOn_75 rfl rfl ?_
              refine gg_X6_ended (i := 3) C hiX6_goesOn_X6 rfl dX6_goesOn_76 ?_
              refine g_iconst C dX6_goesOn_79 ?_
              refine g_iadd C dX6_goesOn_80 ?_
              refine g_aload_n (i := 0) C dX6_goesOn_81 rfl rfl ?_
              obtain ⟨r22, σ21, h23, hf⟩ := ob_inv hf
              refine g_callVi C (c_X6_leastNumbers  h23) (cwV 0 C.2.2.2.2.1 gX6_goesOn_X6_leastNumbers rfl rfl rfl (by decide +kernel) ⟨Nat.le_of_ble_eq_true rfl, Nat.le_of_ble_eq_true rfl⟩) ob_X6 rfl rfl rfl rfl (Nat.le_of_ble_eq_true rfl) dX6_goesOn_82 ⟨Nat.zero_le _, Nat.zero_le _⟩ ?_
              refine g_icmp_lt (tgt := 98) C dX6_goesOn_85 (by decide) rfl rfl (fun c24 => ?_) (fun c24 => ?_)
              · have hf := if_t c24 hf
                refine g_iconst C dX6_goesOn_98 ?_
                obtain ⟨e1, e2⟩ := some_inv hf
                exact g_zret C hr hlk (by decide) e1 e2 dX6_goesOn_99
              · have hf := if_f c24 hf
                refine g_aload_n (i := 0) C dX6_goesOn_88 rfl rfl ?_
                obtain ⟨r26, σ25, h27, hf⟩ := ob_inv hf
                refine g_callVv C (c_X6_endNumber  h27) (cwV 0 C.2.2.2.2.1 gX6_goesOn_X6_endNumber rfl rfl rfl (by decide +kernel) ⟨Nat.le_of_ble_eq_true rfl, Nat.le_of_ble_eq_true rfl⟩) ob_X6 rfl rfl rfl rfl (Nat.le_of_ble_eq_true rfl) dX6_goesOn_89 ⟨Nat.zero_le _, Nat.zero_le _⟩ ?_
                refine g_aload_n (i := 0) C dX6_goesOn_92 rfl rfl ?_
                obtain ⟨r29, σ28, h30, hf⟩ := ob_inv hf
                refine g_callVv C (c_X6_endStatement  h30) (cwV 0 C.2.2.2.2.1 gX6_goesOn_X6_endStatement rfl rfl rfl (by decide +kernel) ⟨Nat.le_of_ble_eq_true rfl, Nat.le_of_ble_eq_true rfl⟩) ob_X6 rfl rfl rfl rfl (Nat.le_of_ble_eq_true rfl) dX6_goesOn_93 ⟨Nat.zero_le _, Nat.zero_le _⟩ ?_
                refine g_iconst C dX6_goesOn_96 ?_
                obtain ⟨e1, e2⟩ := some_inv hf
                exact g_zret C hr hlk (by decide) e1 e2 dX6_goesOn_97
          · have hf := if_f c19 hf
            refine g_aload_n (i := 0) C dX6_goesOn_63 rfl rfl ?_
            obtain ⟨r32, σ31, h33, hf⟩ := ob_inv hf
            refine g_callVv C (c_X6_endNumber  h33) (cwV 0 C.2.2.2.2.1 gX6_goesOn_X6_endNumber rfl rfl rfl (by decide +kernel) ⟨Nat.le_of_ble_eq_true rfl, Nat.le_of_ble_eq_true rfl⟩) ob_X6 rfl rfl rfl rfl (Nat.le_of_ble_eq_true rfl) dX6_goesOn_64 ⟨Nat.zero_le _, Nat.zero_le _⟩ ?_
            refine g_iconst C dX6_goesOn_67 ?_
            obtain ⟨e1, e2⟩ := some_inv hf
            exact g_zret C hr hlk (by decide) e1 e2 dX6_goesOn_68
      · have hf := if_t c3 hf
        refine g_iconst C dX6_goesOn_42 ?_
        obtain ⟨e1, e2⟩ := some_inv hf
        exact g_zret C hr hlk (by decide) e1 e2 dX6_goesOn_43
    · have hf := if_f c2 hf
      refine g_iload_n (i := 1) C dX6_goesOn_20 rfl rfl ?_
      refine g_bipush C dX6_goesOn_21 (by decide) ?_
      refine g_icmp_gt (b' := 57) (tgt := 35) C dX6_goesOn_23 (by decide) rfl (by decide) (fun c34 => ?_) (fun c34 => ?_)
      · have hf := if_t c34 hf
        refine g_aload_n (i := 0) C dX6_goesOn_35 rfl rfl ?_
        refine gg_X6_digits (i := 2) C hiX6_goesOn_X6 rfl dX6_goesOn_36 ?_
        refine g_if_ne (tgt := 44) C dX6_goesOn_39 (by decide) rfl (fun c35 => ?_) (fun c35 => ?_)
        · have hf := if_f c35 hf
          refine g_iload_n (i := 1) C dX6_goesOn_44 rfl rfl ?_
          refine g_bipush C dX6_goesOn_45 (by decide) ?_
          refine g_icmp_ne (b' := 32) (tgt := 69) C dX6_goesOn_47 (by decide) rfl (by decide) (fun c36 => ?_) (fun c36 => ?_)
          · have hf := if_f c36 hf
            refine g_iload_n (i := 1) C dX6_goesOn_69 rfl rfl ?_
            refine g_bipush C dX6_goesOn_70 (by decide) ?_
            refine g_icmp_ne (b' := 59) (tgt := 98) C dX6_goesOn_72 (by decide) rfl (by decide) (fun c37 => ?_) (fun c37 => ?_)
            · have hf := if_f c37 hf
              refine g_iconst C dX6_goesOn_98 ?_
              obtain ⟨e1, e2⟩ := some_inv hf
              exact g_zret C hr hlk (by decide) e1 e2 dX6_goesOn_99
            · have hf := if_t c37 hf
              refine g_aload_n (i := 0) C dX6_goesOn_75 rfl rfl ?_
              refine gg_X6_ended (i := 3) C hiX6_goesOn_X6 rfl dX6_goesOn_76 ?_
              refine g_iconst C dX6_goesOn_79 ?_
              refine g_iadd C dX6_goesOn_80 ?_
              refine g_aload_n (i := 0) C dX6_goesOn_81 rfl rfl ?_
              obtain ⟨r39, σ38, h40, hf⟩ := ob_inv hf
              refine g_callVi C (c_X6_leastNumbers  h40) (cwV 0 C.2.2.2.2.1 gX6_goesOn_X6_leastNumbers rfl rfl rfl (by decide +kernel) ⟨Nat.le_of_ble_eq_true rfl, Nat.le_of_ble_eq_true rfl⟩) ob_X6 rfl rfl rfl rfl (Nat.le_of_ble_eq_true rfl) dX6_goesOn_82 ⟨Nat.zero_le _, Nat.zero_le _⟩ ?_
              refine g_icmp_lt (tgt := 98) C dX6_goesOn_85 (by decide) rfl rfl (fun c41 => ?_) (fun c41 => ?_)
              · have hf := if_t c41 hf
                refine g_iconst C dX6_goesOn_98 ?_
                obtain ⟨e1, e2⟩ := some_inv hf
                exact g_zret C hr hlk (by decide) e1 e2 dX6_goesOn_99
              · have hf := if_f c41 hf
                refine g_aload_n (i := 0) C dX6_goesOn_88 rfl rfl ?_
                obtain ⟨r43, σ42, h44, hf⟩ := ob_inv hf
                refine g_callVv C (c_X6_endNumber  h44) (cwV 0 C.2.2.2.2.1 gX6_goesOn_X6_endNumber rfl rfl rfl (by decide +kernel) ⟨Nat.le_of_ble_eq_true rfl, Nat.le_of_ble_eq_true rfl⟩) ob_X6 rfl rfl rfl rfl (Nat.le_of_ble_eq_true rfl) dX6_goesOn_89 ⟨Nat.zero_le _, Nat.zero_le _⟩ ?_
                refine g_aload_n (i := 0) C dX6_goesOn_92 rfl rfl ?_
                obtain ⟨r46, σ45, h47, hf⟩ := ob_inv hf
                refine g_callVv C (c_X6_endStatement  h47) (cwV 0 C.2.2.2.2.1 gX6_goesOn_X6_endStatement rfl rfl rfl (by decide +kernel) ⟨Nat.le_of_ble_eq_true rfl, Nat.le_of_ble_eq_true rfl⟩) ob_X6 rfl rfl rfl rfl (Nat.le_of_ble_eq_true rfl) dX6_goesOn_93 ⟨Nat.zero_le _, Nat.zero_le _⟩ ?_
                refine g_iconst C dX6_goesOn_96 ?_
                obtain ⟨e1, e2⟩ := some_inv hf
                exact g_zret C hr hlk (by decide) e1 e2 dX6_goesOn_97
          · have hf := if_t c36 hf
            refine g_aload_n (i := 0) C dX6_goesOn_50 rfl rfl ?_
            refine gg_X6_ended (i := 3) C hiX6_goesOn_X6 rfl dX6_goesOn_51 ?_
            refine g_iconst C dX6_goesOn_54 ?_
            refine g_iadd C dX6_goesOn_55 ?_
            refine g_aload_n (i := 0) C dX6_goesOn_56 rfl rfl ?_
            obtain ⟨r49, σ48, h50, hf⟩ := ob_inv hf
            refine g_callVi C (c_X6_mostNumbers  h50) (cwV 0 C.2.2.2.2.1 gX6_goesOn_X6_mostNumbers rfl rfl rfl (by decide +kernel) ⟨Nat.le_of_ble_eq_true rfl, Nat.le_of_ble_eq_true rfl⟩) ob_X6 rfl rfl rfl rfl (Nat.le_of_ble_eq_true rfl) dX6_goesOn_57 ⟨Nat.zero_le _, Nat.zero_le _⟩ ?_
            refine g_icmp_ge (tgt := 69) C dX6_goesOn_60 (by decide) rfl rfl (fun c51 => ?_) (fun c51 => ?_)
            · have hf := if_t c51 hf
              refine g_iload_n (i := 1) C dX6_goesOn_69 rfl rfl ?_
              refine g_bipush C dX6_goesOn_70 (by decide) ?_
              refine g_icmp_ne (b' := 59) (tgt := 98) C dX6_goesOn_72 (by decide) rfl (by decide) (fun c52 => ?_) (fun c52 => ?_)
              · have hf := if_f c52 hf
                refine g_iconst C dX6_goesOn_98 ?_
                obtain ⟨e1, e2⟩ := some_inv hf
                exact g_zret C hr hlk (by decide) e1 e2 dX6_goesOn_99
              · have hf := if_t c52 hf
                refine g_aload_n (i := 0) C dX6_goesOn_75 rfl rfl ?_
                refine gg_X6_ended (i := 3) C hiX6_goesOn_X6 rfl dX6_goesOn_76 ?_
                refine g_iconst C dX6_goesOn_79 ?_
                refine g_iadd C dX6_goesOn_80 ?_
                refine g_aload_n (i := 0) C dX6_goesOn_81 rfl rfl ?_
                obtain ⟨r54, σ53, h55, hf⟩ := ob_inv hf
                refine g_callVi C (c_X6_leastNumbers  h55) (cwV 0 C.2.2.2.2.1 gX6_goesOn_X6_leastNumbers rfl rfl rfl (by decide +kernel) ⟨Nat.le_of_ble_eq_true rfl, Nat.le_of_ble_eq_true rfl⟩) ob_X6 rfl rfl rfl rfl (Nat.le_of_ble_eq_true rfl) dX6_goesOn_82 ⟨Nat.zero_le _, Nat.zero_le _⟩ ?_
                refine g_icmp_lt (tgt := 98) C dX6_goesOn_85 (by decide) rfl rfl (fun c56 => ?_) (fun c56 => ?_)
                · have hf := if_t c56 hf
                  refine g_iconst C dX6_goesOn_98 ?_
                  obtain ⟨e1, e2⟩ := some_inv hf
                  exact g_zret C hr hlk (by decide) e1 e2 dX6_goesOn_99
                · have hf := if_f c56 hf
                  refine g_aload_n (i := 0) C dX6_goesOn_88 rfl rfl ?_
                  obtain ⟨r58, σ57, h59, hf⟩ := ob_inv hf
                  refine g_callVv C (c_X6_endNumber  h59) (cwV 0 C.2.2.2.2.1 gX6_goesOn_X6_endNumber rfl rfl rfl (by decide +kernel) ⟨Nat.le_of_ble_eq_true rfl, Nat.le_of_ble_eq_true rfl⟩) ob_X6 rfl rfl rfl rfl (Nat.le_of_ble_eq_true rfl) dX6_goesOn_89 ⟨Nat.zero_le _, Nat.zero_le _⟩ ?_
                  refine g_aload_n (i := 0) C dX6_goesOn_92 rfl rfl ?_
                  obtain ⟨r61, σ60, h62, hf⟩ := ob_inv hf
                  refine g_callVv C (c_X6_endStatement  h62) (cwV 0 C.2.2.2.2.1 gX6_goesOn_X6_endStatement rfl rfl rfl (by decide +kernel) ⟨Nat.le_of_ble_eq_true rfl, Nat.le_of_ble_eq_true rfl⟩) ob_X6 rfl rfl rfl rfl (Nat.le_of_ble_eq_true rfl) dX6_goesOn_93 ⟨Nat.zero_le _, Nat.zero_le _⟩ ?_
                  refine g_iconst C dX6_goesOn_96 ?_
                  obtain ⟨e1, e2⟩ := some_inv hf
                  exact g_zret C hr hlk (by decide) e1 e2 dX6_goesOn_97
            · have hf := if_f c51 hf
              refine g_aload_n (i := 0) C dX6_goesOn_63 rfl rfl ?_
              obtain ⟨r64, σ63, h65, hf⟩ := ob_inv hf
              refine g_callVv C (c_X6_endNumber  h65) (cwV 0 C.2.2.2.2.1 gX6_goesOn_X6_endNumber rfl rfl rfl (by decide +kernel) ⟨Nat.le_of_ble_eq_true rfl, Nat.le_of_ble_eq_true rfl⟩) ob_X6 rfl rfl rfl rfl (Nat.le_of_ble_eq_true rfl) dX6_goesOn_64 ⟨Nat.zero_le _, Nat.zero_le _⟩ ?_
              refine g_iconst C dX6_goesOn_67 ?_
              obtain ⟨e1, e2⟩ := some_inv hf
              exact g_zret C hr hlk (by decide) e1 e2 dX6_goesOn_68
        · have hf := if_t c35 hf
          refine g_iconst C dX6_goesOn_42 ?_
          obtain ⟨e1, e2⟩ := some_inv hf
          exact g_zret C hr hlk (by decide) e1 e2 dX6_goesOn_43
      · have hf := if_f c34 hf
        refine g_aload_n (i := 0) C dX6_goesOn_26 rfl rfl ?_
        refine g_iload_n (i := 1) C dX6_goesOn_27 rfl rfl ?_
        refine g_bipush C dX6_goesOn_28 (by decide) ?_
        refine g_isub C dX6_goesOn_30 ?_
        obtain ⟨r67, σ66, h68, hf⟩ := ob_inv hf
        refine g_callVi C (c_X6_takesDigit  h68) (cwV 1 C.2.2.2.2.1 gX6_goesOn_X6_takesDigit rfl rfl rfl (by decide +kernel) ⟨Nat.le_of_ble_eq_true rfl, Nat.le_of_ble_eq_true rfl⟩) ob_X6 rfl rfl rfl rfl (Nat.le_of_ble_eq_true rfl) dX6_goesOn_31 ⟨Nat.zero_le _, Nat.zero_le _⟩ ?_
        obtain ⟨hz69, hf⟩ := if_inv hf
        obtain ⟨e1, e2⟩ := some_inv hf
        exact g_zret C hr hlk hz69 e1 e2 dX6_goesOn_34
  · have hf := if_t c1 hf
    refine g_aload_n (i := 0) C dX6_goesOn_7 rfl rfl ?_
    refine g_iload_n (i := 1) C dX6_goesOn_8 rfl rfl ?_
    refine g_iload_n (i := 2) C dX6_goesOn_9 rfl rfl ?_
    obtain ⟨r71, σ70, h72, hf⟩ := ob_inv hf
    refine g_callVi C (c_X6_begins  h72) (cwV 2 C.2.2.2.2.1 gX6_goesOn_X6_begins rfl rfl rfl (by decide +kernel) ⟨Nat.le_of_ble_eq_true rfl, Nat.le_of_ble_eq_true rfl⟩) ob_X6 rfl rfl rfl rfl (Nat.le_of_ble_eq_true rfl) dX6_goesOn_10 ⟨Nat.zero_le _, Nat.zero_le _⟩ ?_
    obtain ⟨hz73, hf⟩ := if_inv hf
    obtain ⟨e1, e2⟩ := some_inv hf
    exact g_zret C hr hlk hz73 e1 e2 dX6_goesOn_13
/-! X6_readFrom -/
abbrev rm_X6_readFrom : Room := { frames := 5, cells := 0, slots := 0, locals := 105 }
theorem hiX6_readFrom_X6 : ∀ w ∈ u_ws RX6 TX6 9, w ∈ wsX6_readFrom := fun _ h => (List.mem_cons_of_mem _ (List.mem_append_left _ (List.mem_append_left _ (List.mem_append_right _ h))))
theorem hiX6_readFrom_X8 : ∀ w ∈ u_ws RX8 TX8 4, w ∈ wsX6_readFrom := fun _ h => (List.mem_cons_of_mem _ (List.mem_append_left _ (List.mem_append_right _ h)))
set_option maxHeartbeats 4000000 in
set_option maxRecDepth 100000 in
theorem it_X6_readFrom_24 (C : Cx p s m args c cX6_readFrom 3 RX6 wsX6_readFrom D ca A) (hr : meth.sig.returnType = (some .int)) (hlk : meth.locks = false) {u1 : Int} (hu1 : isShf u1) {o : (Int × Mem) ⊕ ((Int × Mem) ⊕ (Mem))} (hc : ∀ (x2 : Int) (σ : Mem), o = .inl (x2, σ) → G p l e rm_X6_readFrom s m args below meth c 3 D ca ad A 0 0 (MQ below (Qi D ca ad A r0 σ0) args s 0 0 A) σ 24 [some (.ref (ad 70)), some (.ref (ad u1)), some (.int (iI x2))] []) (he1 : ∀ (r1 : Int) (σ1 : Mem), o = .inr (.inl (r1, σ1)) → r1 = r0 ∧ σ1 = σ0) (he2 : ∀ (σ : Mem), o = .inr (.inr σ) → G p l e rm_X6_readFrom s m args below meth c 3 D ca ad A 0 0 (MQ below (Qi D ca ad A r0 σ0) args s 0 0 A) σ 58 [some (.ref (ad 70)), some (.ref (ad u1)), none] []) {x2 : Int} {σ : Mem} (hf : f_X6_readFrom_24 u1 x2 σ = some o) : G p l e rm_X6_readFrom s m args below meth c 3 D ca ad A 0 0 (MQ below (Qi D ca ad A r0 σ0) args s 0 0 A) σ 24 [some (.ref (ad 70)), some (.ref (ad u1)), some (.int (iI x2))] [] := by
  unfold f_X6_readFrom_24 at hf
  refine g_iload_n (i := 2) C dX6_readFrom_24 rfl rfl ?_
  refine g_aload_n (i := 1) C dX6_readFrom_25 rfl rfl ?_
  refine gg_X8_size (i := 5) C hu1 hiX6_readFrom_X8 rfl dX6_readFrom_26 ?_
  refine g_icmp_ge (tgt := 58) C dX6_readFrom_29 (by decide) rfl rfl (fun c13 => ?_) (fun c13 => ?_)
  · have hf := if_t c13 hf
    exact g_mask [true, true, false] (he2 _ (Option.some.inj hf).symm)
  · have hf := if_f c13 hf
    refine g_aload_n (i := 0) C dX6_readFrom_32 rfl rfl ?_
    refine g_aload_n (i := 1) C dX6_readFrom_33 rfl rfl ?_
    refine gg_X8_values (i := 6) C hu1 rfl hiX6_readFrom_X8 rfl dX6_readFrom_34 ?_
    refine g_iload_n (i := 2) C dX6_readFrom_37 rfl rfl ?_
    obtain ⟨hb14, hf⟩ := if_inv hf
    refine g_iaload (N := 120) C (sh_arr hu1) dX6_readFrom_38 rfl hb14 ?_
    refine g_iload_n (i := 2) C dX6_readFrom_39 rfl rfl ?_
    obtain ⟨r16, σ15, h17, hf⟩ := ob_inv hf
    refine g_callVi C (c_X6_goesOn  h17) (cwV 2 C.2.2.2.2.1 gX6_readFrom_X6_goesOn rfl rfl rfl (by decide +kernel) ⟨Nat.le_of_ble_eq_true rfl, Nat.le_of_ble_eq_true rfl⟩) ob_X6 rfl rfl rfl rfl (Nat.le_of_ble_eq_true rfl) dX6_readFrom_40 ⟨Nat.zero_le _, Nat.zero_le _⟩ ?_
    refine g_if_ne (tgt := 52) C dX6_readFrom_43 (by decide) rfl (fun c18 => ?_) (fun c18 => ?_)
    · have hf := if_f c18 hf
      refine g_iinc C dX6_readFrom_52 rfl (by decide) rfl ?_
      refine g_goto (tgt := 24) C dX6_readFrom_55 (by decide) ?_
      exact g_mask [true, true, true] (hc _ _ (Option.some.inj hf).symm)
    · have hf := if_t c18 hf
      refine g_sipush C dX6_readFrom_46 (by decide) ?_
      refine g_iload_n (i := 2) C dX6_readFrom_49 rfl rfl ?_
      refine g_isub C dX6_readFrom_50 ?_
      obtain ⟨e1, e2⟩ := he1 _ _ (Option.some.inj hf).symm
      exact g_iret C hr hlk e1 e2 dX6_readFrom_51
set_option maxHeartbeats 4000000 in
set_option maxRecDepth 100000 in
theorem w_X6_readFrom_24 (C : Cx p s m args c cX6_readFrom 3 RX6 wsX6_readFrom D ca A) (hr : meth.sig.returnType = (some .int)) (hlk : meth.locks = false) {u1 : Int} (hu1 : isShf u1) {n : Nat} {x2 : Int} {σ : Mem} {b : ((Int × Mem) ⊕ (Mem))} (h : itr (fun z : Int × Mem => f_X6_readFrom_24 u1 z.1 z.2) n (x2, σ) = some b) (he1 : ∀ (r1 : Int) (σ1 : Mem), b = .inl (r1, σ1) → r1 = r0 ∧ σ1 = σ0) (he2 : ∀ (σ : Mem), b = .inr σ → G p l e rm_X6_readFrom s m args below meth c 3 D ca ad A 0 0 (MQ below (Qi D ca ad A r0 σ0) args s 0 0 A) σ 58 [some (.ref (ad 70)), some (.ref (ad u1)), none] []) : G p l e rm_X6_readFrom s m args below meth c 3 D ca ad A 0 0 (MQ below (Qi D ca ad A r0 σ0) args s 0 0 A) σ 24 [some (.ref (ad 70)), some (.ref (ad u1)), some (.int (iI x2))] [] :=
  itr_rule (P := fun z : Int × Mem => G p l e rm_X6_readFrom s m args below meth c 3 D ca ad A 0 0 (MQ below (Qi D ca ad A r0 σ0) args s 0 0 A) z.2 24 [some (.ref (ad 70)), some (.ref (ad u1)), some (.int (iI z.1))] []) (E := fun b => (∀ (r1 : Int) (σ1 : Mem), b = .inl (r1, σ1) → r1 = r0 ∧ σ1 = σ0) ∧ (∀ (σ : Mem), b = .inr σ → G p l e rm_X6_readFrom s m args below meth c 3 D ca ad A 0 0 (MQ below (Qi D ca ad A r0 σ0) args s 0 0 A) σ 58 [some (.ref (ad 70)), some (.ref (ad u1)), none] [])) (fun z o hb hc he => it_X6_readFrom_24 C hr hlk hu1 (fun _ _ e => hc _ e) (fun r1 σ1 e => (he _ e).1 r1 σ1 rfl) (fun _ e => (he _ e).2 _ rfl) hb) n _ _ h ⟨he1, he2⟩
set_option maxHeartbeats 4000000 in
set_option maxRecDepth 100000 in
theorem c_X6_readFrom {u1 : Int} (hu1 : isShf u1) {σ : Mem} (hf : f_X6_readFrom u1 σ = some (r0, σ0)) : CTi l D ca ad A yX6_readFrom wsX6_readFrom rm_X6_readFrom [.ref (ad 70), .ref (ad u1)] σ r0 σ0 := by
  refine ct_i (cc := cX6_readFrom) (own := RX6) (maxL := 3) (ret := (some .int)) (lv0 := [some (.ref (ad 70)), some (.ref (ad u1)), none]) (by decide) rfl rfl rfl (Nat.le_of_ble_eq_true rfl) ?_
  intro p e s m below meth c C hr hlk hnm
  unfold f_X6_readFrom at hf
  refine g_aload_n (i := 0) C dX6_readFrom_0 rfl rfl ?_
  refine gg_X6_found (i := 1) C hiX6_readFrom_X6 rfl dX6_readFrom_1 ?_
  obtain ⟨r2, σ1, h3, hf⟩ := ob_inv hf
  refine g_callVv C (c_X4_clear (by decide) h3) (cwV 0 C.2.2.2.2.1 gX6_readFrom_X4_clear rfl rfl rfl (by decide +kernel) ⟨Nat.le_of_ble_eq_true rfl, Nat.le_of_ble_eq_true rfl⟩) (ob_X4 (by decide)) rfl rfl rfl rfl (Nat.le_of_ble_eq_true rfl) dX6_readFrom_4 ⟨Nat.zero_le _, Nat.zero_le _⟩ ?_
  refine g_aload_n (i := 0) C dX6_readFrom_7 rfl rfl ?_
  refine g_iconst C dX6_readFrom_8 ?_
  refine gp_X6_letter (i := 2) C hiX6_readFrom_X6 rfl dX6_readFrom_9 ?_
  refine g_aload_n (i := 0) C dX6_readFrom_12 rfl rfl ?_
  refine g_iconst C dX6_readFrom_13 ?_
  refine gp_X6_statements (i := 3) C hiX6_readFrom_X6 rfl dX6_readFrom_14 ?_
  refine g_aload_n (i := 0) C dX6_readFrom_17 rfl rfl ?_
  refine g_iconst C dX6_readFrom_18 ?_
  refine gp_X6_untrue (i := 4) C hiX6_readFrom_X6 rfl dX6_readFrom_19 ?_
  refine g_iconst C dX6_readFrom_22 ?_
  refine g_istore_n (i := 2) C dX6_readFrom_23 rfl (by decide) rfl ?_
  obtain ⟨q19, hl20, hf⟩ := lb_inv hf
  refine g_mask [true, true, true] (w_X6_readFrom_24 C hr hlk hu1 hl20 ?_ ?_)
  · rintro r1 σ1 rfl
    exact some_inv hf
  · rintro σ21 rfl
    have hf := se_r hf
    refine g_aload_n (i := 0) C dX6_readFrom_58 rfl rfl ?_
    refine gg_X6_letter (i := 2) C hiX6_readFrom_X6 rfl dX6_readFrom_59 ?_
    refine g_if_ne (tgt := 72) C dX6_readFrom_62 (by decide) rfl (fun c22 => ?_) (fun c22 => ?_)
    · have hf := if_f c22 hf
      refine g_sipush C dX6_readFrom_72 (by decide) ?_
      refine g_aload_n (i := 1) C dX6_readFrom_75 rfl rfl ?_
      refine gg_X8_size (i := 5) C hu1 hiX6_readFrom_X8 rfl dX6_readFrom_76 ?_
      refine g_isub C dX6_readFrom_79 ?_
      obtain ⟨e1, e2⟩ := some_inv hf
      exact g_iret C hr hlk e1 e2 dX6_readFrom_80
    · have hf := if_t c22 hf
      refine g_aload_n (i := 0) C dX6_readFrom_65 rfl rfl ?_
      refine gg_X6_statements (i := 3) C hiX6_readFrom_X6 rfl dX6_readFrom_66 ?_
      refine g_if_ne (tgt := 81) C dX6_readFrom_69 (by decide) rfl (fun c23 => ?_) (fun c23 => ?_)
      · have hf := if_f c23 hf
        refine g_aload_n (i := 0) C dX6_readFrom_81 rfl rfl ?_
        refine gg_X6_untrue (i := 4) C hiX6_readFrom_X6 rfl dX6_readFrom_82 ?_
        refine g_if_lt (tgt := 97) C dX6_readFrom_85 (by decide) rfl (fun c24 => ?_) (fun c24 => ?_)
        · have hf := if_t c24 hf
          refine g_aload_n (i := 0) C dX6_readFrom_97 rfl rfl ?_
          refine gg_X6_found (i := 1) C hiX6_readFrom_X6 rfl dX6_readFrom_98 ?_
          obtain ⟨r26, σ25, h27, hf⟩ := ob_inv hf
          refine g_callVi C (c_X4_isWhole (by decide) h27) (cwV 0 C.2.2.2.2.1 gX6_readFrom_X4_isWhole rfl rfl rfl (by decide +kernel) ⟨Nat.le_of_ble_eq_true rfl, Nat.le_of_ble_eq_true rfl⟩) (ob_X4 (by decide)) rfl rfl rfl rfl (Nat.le_of_ble_eq_true rfl) dX6_readFrom_101 ⟨Nat.zero_le _, Nat.zero_le _⟩ ?_
          refine g_if_eq (tgt := 114) C dX6_readFrom_104 (by decide) rfl (fun c28 => ?_) (fun c28 => ?_)
          · have hf := if_t c28 hf
            refine g_sipush C dX6_readFrom_114 (by decide) ?_
            obtain ⟨e1, e2⟩ := some_inv hf
            exact g_iret C hr hlk e1 e2 dX6_readFrom_117
          · have hf := if_f c28 hf
            refine g_aload_n (i := 0) C dX6_readFrom_107 rfl rfl ?_
            refine gg_X6_statements (i := 3) C hiX6_readFrom_X6 rfl dX6_readFrom_108 ?_
            refine g_goto (tgt := 117) C dX6_readFrom_111 (by decide) ?_
            obtain ⟨e1, e2⟩ := some_inv hf
            exact g_iret C hr hlk e1 e2 dX6_readFrom_117
        · have hf := if_f c24 hf
          refine g_sipush C dX6_readFrom_88 (by decide) ?_
          refine g_aload_n (i := 0) C dX6_readFrom_91 rfl rfl ?_
          refine gg_X6_untrue (i := 4) C hiX6_readFrom_X6 rfl dX6_readFrom_92 ?_
          refine g_isub C dX6_readFrom_95 ?_
          obtain ⟨e1, e2⟩ := some_inv hf
          exact g_iret C hr hlk e1 e2 dX6_readFrom_96
      · have hf := if_t c23 hf
        refine g_sipush C dX6_readFrom_72 (by decide) ?_
        refine g_aload_n (i := 1) C dX6_readFrom_75 rfl rfl ?_
        refine gg_X8_size (i := 5) C hu1 hiX6_readFrom_X8 rfl dX6_readFrom_76 ?_
        refine g_isub C dX6_readFrom_79 ?_
        obtain ⟨e1, e2⟩ := some_inv hf
        exact g_iret C hr hlk e1 e2 dX6_readFrom_80
end Wk
