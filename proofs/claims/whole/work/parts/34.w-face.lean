section Wk
variable {p : Program} {l : Launch} {e : Env} {s : State} {m : MethodId} {args : Array Value} {below : List Frame} {meth : Method} {c : Code}
variable {D : va_G} {ca : Ca} {ad : Int → Nat} {A : Nat → Prop} {r0 : Int} {σ0 : Mem}
/-! X11_isShelf -/
abbrev rm_X11_isShelf : Room := { frames := 0, cells := 0, slots := 0, locals := 0 }
set_option maxHeartbeats 4000000 in
set_option maxRecDepth 100000 in
theorem c_X11_isShelf {v0 : Int} {σ : Mem} (hf : f_X11_isShelf v0 σ = some (r0, σ0)) : CTi l D ca ad A yX11_isShelf wsX11_isShelf rm_X11_isShelf [.int (iI v0)] σ r0 σ0 := by
  refine ct_i (cc := cX11_isShelf) (own := RX11) (maxL := 1) (ret := (some .boolean)) (lv0 := [some (.int (iI v0))]) (by decide) rfl rfl rfl (Nat.le_of_ble_eq_true rfl) ?_
  intro p e s m below meth c C hr hlk hnm
  unfold f_X11_isShelf at hf
  refine g_iload_n (i := 0) C dX11_isShelf_0 rfl rfl ?_
  refine g_if_lt (tgt := 14) C dX11_isShelf_1 (by decide) rfl (fun c1 => ?_) (fun c1 => ?_)
  · have hf := if_t c1 hf
    refine g_iconst C dX11_isShelf_14 ?_
    obtain ⟨e1, e2⟩ := some_inv hf
    exact g_zret C hr hlk (by decide) e1 e2 dX11_isShelf_15
  · have hf := if_f c1 hf
    refine g_iload_n (i := 0) C dX11_isShelf_4 rfl rfl ?_
    refine g_bipush C dX11_isShelf_5 (by decide) ?_
    refine g_icmp_ge (b' := 8) (tgt := 14) C dX11_isShelf_7 (by decide) rfl (by decide) (fun c2 => ?_) (fun c2 => ?_)
    · have hf := if_t c2 hf
      refine g_iconst C dX11_isShelf_14 ?_
      obtain ⟨e1, e2⟩ := some_inv hf
      exact g_zret C hr hlk (by decide) e1 e2 dX11_isShelf_15
    · have hf := if_f c2 hf
      refine g_iconst C dX11_isShelf_10 ?_
      refine g_goto (tgt := 15) C dX11_isShelf_11 (by decide) ?_
      obtain ⟨e1, e2⟩ := some_inv hf
      exact g_zret C hr hlk (by decide) e1 e2 dX11_isShelf_15
/-! X11_market -/
abbrev rm_X11_market : Room := { frames := 6, cells := 0, slots := 0, locals := 127 }
theorem hiX11_market_X11 : ∀ w ∈ u_ws RX11 TX11 8, w ∈ wsX11_market := fun _ h => (List.mem_cons_of_mem _ (List.mem_append_left _ (List.mem_append_left _ (List.mem_append_left _ (List.mem_append_right _ h)))))
theorem hiX11_market_X6 : ∀ w ∈ u_ws RX6 TX6 9, w ∈ wsX11_market := fun _ h => (List.mem_cons_of_mem _ (List.mem_append_left _ (List.mem_append_left _ (List.mem_append_right _ h))))
set_option maxHeartbeats 4000000 in
set_option maxRecDepth 100000 in
theorem c_X11_market {v1 : Int} {σ : Mem} (hf : f_X11_market v1 σ = some (r0, σ0)) : CTi l D ca ad A yX11_market wsX11_market rm_X11_market [.ref (ad 0), .int (iI v1)] σ r0 σ0 := by
  refine ct_i (cc := cX11_market) (own := RX11) (maxL := 4) (ret := (some .int)) (lv0 := [some (.ref (ad 0)), some (.int (iI v1)), none, none]) (by decide) rfl rfl rfl (Nat.le_of_ble_eq_true rfl) ?_
  intro p e s m below meth c C hr hlk hnm
  unfold f_X11_market at hf
  refine g_iload_n (i := 1) C dX11_market_0 rfl rfl ?_
  obtain ⟨r2, σ1, h3, hf⟩ := ob_inv hf
  refine g_callSi C (c_X11_isShelf  h3) (va_cwS 1 C.2.2.2.2.1 gX11_market_X11_isShelf rfl rfl rfl (by decide +kernel) ⟨Nat.le_of_ble_eq_true rfl, Nat.le_of_ble_eq_true rfl⟩) rfl rfl (Nat.le_of_ble_eq_true rfl) dX11_market_1 ⟨Nat.zero_le _, Nat.zero_le _⟩ ?_
  refine g_if_ne (tgt := 9) C dX11_market_4 (by decide) rfl (fun c4 => ?_) (fun c4 => ?_)
  · have hf := if_f c4 hf
    refine g_aload_n (i := 0) C dX11_market_9 rfl rfl ?_
    refine gg_X11_shelves (i := 1) C hiX11_market_X11 rfl dX11_market_10 ?_
    refine g_iload_n (i := 1) C dX11_market_13 rfl rfl ?_
    obtain ⟨hb5, hf⟩ := if_inv hf
    refine g_aaload C (Or.inl ⟨rfl, rfl, hb5⟩) dX11_market_14 rfl ?_
    refine g_astore_n (i := 2) C dX11_market_15 rfl (by decide) rfl ?_
    refine g_aload_n (i := 2) C dX11_market_16 rfl rfl ?_
    obtain ⟨r7, σ6, h8, hf⟩ := ob_inv hf
    refine g_callVi C (c_X8_isBare (shf_of hb5) h8) (cwV 0 C.2.2.2.2.1 gX11_market_X8_isBare rfl rfl rfl (by decide +kernel) ⟨Nat.le_of_ble_eq_true rfl, Nat.le_of_ble_eq_true rfl⟩) (ob_X8 (shf_of hb5)) rfl rfl rfl rfl (Nat.le_of_ble_eq_true rfl) dX11_market_17 ⟨Nat.zero_le _, Nat.zero_le _⟩ ?_
    refine g_if_eq (tgt := 26) C dX11_market_20 (by decide) rfl (fun c9 => ?_) (fun c9 => ?_)
    · have hf := if_t c9 hf
      refine g_aload_n (i := 2) C dX11_market_26 rfl rfl ?_
      refine g_iconst C dX11_market_27 ?_
      obtain ⟨r11, σ10, h12, hf⟩ := ob_inv hf
      refine g_callVi C (c_X8_holdsRowOf (shf_of hb5) h12) (cwV 1 C.2.2.2.2.1 gX11_market_X8_holdsRowOf rfl rfl rfl (by decide +kernel) ⟨Nat.le_of_ble_eq_true rfl, Nat.le_of_ble_eq_true rfl⟩) (ob_X8 (shf_of hb5)) rfl rfl rfl rfl (Nat.le_of_ble_eq_true rfl) dX11_market_28 ⟨Nat.zero_le _, Nat.zero_le _⟩ ?_
      refine g_if_ne (tgt := 37) C dX11_market_31 (by decide) rfl (fun c13 => ?_) (fun c13 => ?_)
      · have hf := if_f c13 hf
        refine g_aload_n (i := 0) C dX11_market_37 rfl rfl ?_
        refine gg_X11_reader (i := 2) C hiX11_market_X11 rfl dX11_market_38 ?_
        refine g_aload_n (i := 2) C dX11_market_41 rfl rfl ?_
        obtain ⟨r15, σ14, h16, hf⟩ := ob_inv hf
        refine g_callVi C (c_X6_readFrom (shf_of hb5) h16) (cwV 1 C.2.2.2.2.1 gX11_market_X6_readFrom rfl rfl rfl (by decide +kernel) ⟨Nat.le_of_ble_eq_true rfl, Nat.le_of_ble_eq_true rfl⟩) ob_X6 rfl rfl rfl rfl (Nat.le_of_ble_eq_true rfl) dX11_market_42 ⟨Nat.zero_le _, Nat.zero_le _⟩ ?_
        refine g_istore_n (i := 3) C dX11_market_45 rfl (by decide) rfl ?_
        refine g_iload_n (i := 3) C dX11_market_46 rfl rfl ?_
        refine g_if_le (tgt := 69) C dX11_market_47 (by decide) rfl (fun c17 => ?_) (fun c17 => ?_)
        · have hf := if_t c17 hf
          refine g_iload_n (i := 3) C dX11_market_69 rfl rfl ?_
          obtain ⟨e1, e2⟩ := some_inv hf
          exact g_iret C hr hlk e1 e2 dX11_market_70
        · have hf := if_f c17 hf
          refine g_aload_n (i := 0) C dX11_market_50 rfl rfl ?_
          refine gg_X11_fair (i := 3) C hiX11_market_X11 rfl dX11_market_51 ?_
          refine g_aload_n (i := 0) C dX11_market_54 rfl rfl ?_
          refine gg_X11_reader (i := 2) C hiX11_market_X11 rfl dX11_market_55 ?_
          refine gg_X6_found (i := 4) C hiX11_market_X6 rfl dX11_market_58 ?_
          obtain ⟨r19, σ18, h20, hf⟩ := ob_inv hf
          refine g_callVv C (c_X4_takeFrom (by decide) (by decide) h20) (cwV 1 C.2.2.2.2.1 gX11_market_X4_takeFrom rfl rfl rfl (by decide +kernel) ⟨Nat.le_of_ble_eq_true rfl, Nat.le_of_ble_eq_true rfl⟩) (ob_X4 (by decide)) rfl rfl rfl rfl (Nat.le_of_ble_eq_true rfl) dX11_market_61 ⟨Nat.zero_le _, Nat.zero_le _⟩ ?_
          refine g_aload_n (i := 0) C dX11_market_64 rfl rfl ?_
          refine g_iconst C dX11_market_65 ?_
          refine gp_X11_hasMarket (i := 5) C (by decide) hiX11_market_X11 rfl dX11_market_66 ?_
          refine g_iload_n (i := 3) C dX11_market_69 rfl rfl ?_
          obtain ⟨e1, e2⟩ := some_inv hf
          exact g_iret C hr hlk e1 e2 dX11_market_70
      · have hf := if_t c13 hf
        refine g_bipush C dX11_market_34 (by decide) ?_
        obtain ⟨e1, e2⟩ := some_inv hf
        exact g_iret C hr hlk e1 e2 dX11_market_36
    · have hf := if_f c9 hf
      refine g_bipush C dX11_market_23 (by decide) ?_
      obtain ⟨e1, e2⟩ := some_inv hf
      exact g_iret C hr hlk e1 e2 dX11_market_25
  · have hf := if_t c4 hf
    refine g_iconst C dX11_market_7 ?_
    obtain ⟨e1, e2⟩ := some_inv hf
    exact g_iret C hr hlk e1 e2 dX11_market_8
/-! X11_sort -/
abbrev rm_X11_sort : Room := { frames := 1, cells := 0, slots := 0, locals := 21 }
theorem hiX11_sort_X11 : ∀ w ∈ u_ws RX11 TX11 8, w ∈ wsX11_sort := fun _ h => (List.mem_cons_of_mem _ (List.mem_append_left _ (List.mem_append_right _ h)))
theorem hiX11_sort_X4 : ∀ w ∈ u_ws RX4 TX4 9, w ∈ wsX11_sort := fun _ h => (List.mem_cons_of_mem _ (List.mem_append_right _ h))
set_option maxHeartbeats 4000000 in
set_option maxRecDepth 100000 in
theorem c_X11_sort {v1 v2 : Int} {σ : Mem} (hf : f_X11_sort v1 v2 σ = some (r0, σ0)) : CTi l D ca ad A yX11_sort wsX11_sort rm_X11_sort [.ref (ad 0), .int (iI v1), .int (iI v2)] σ r0 σ0 := by
  refine ct_i (cc := cX11_sort) (own := RX11) (maxL := 3) (ret := (some .int)) (lv0 := [some (.ref (ad 0)), some (.int (iI v1)), some (.int (iI v2))]) (by decide) rfl rfl rfl (Nat.le_of_ble_eq_true rfl) ?_
  intro p e s m below meth c C hr hlk hnm
  unfold f_X11_sort at hf
  refine g_aload_n (i := 0) C dX11_sort_0 rfl rfl ?_
  refine gg_X11_hasMarket (i := 1) C hiX11_sort_X11 rfl dX11_sort_1 ?_
  refine g_if_ne (tgt := 10) C dX11_sort_4 (by decide) rfl (fun c1 => ?_) (fun c1 => ?_)
  · have hf := if_f c1 hf
    refine g_aload_n (i := 0) C dX11_sort_10 rfl rfl ?_
    refine gg_X11_fair (i := 2) C hiX11_sort_X11 rfl dX11_sort_11 ?_
    refine g_iload_n (i := 1) C dX11_sort_14 rfl rfl ?_
    obtain ⟨r3, σ2, h4, hf⟩ := ob_inv hf
    refine g_callVi C (c_X4_hasSort (by decide) h4) (cwV 1 C.2.2.2.2.1 gX11_sort_X4_hasSort rfl rfl rfl (by decide +kernel) ⟨Nat.le_of_ble_eq_true rfl, Nat.le_of_ble_eq_true rfl⟩) (ob_X4 (by decide)) rfl rfl rfl rfl (Nat.le_of_ble_eq_true rfl) dX11_sort_15 ⟨Nat.zero_le _, Nat.zero_le _⟩ ?_
    refine g_if_ne (tgt := 23) C dX11_sort_18 (by decide) rfl (fun c5 => ?_) (fun c5 => ?_)
    · have hf := if_f c5 hf
      refine g_iload_n (i := 2) C dX11_sort_23 rfl rfl ?_
      rcases if_or hf with ⟨k6, hf⟩ | ⟨k6, hf⟩
      · refine g_tsIn (j := 0) (tgt := 52) C dX11_sort_24 k6 (by decide) (by decide) rfl (by decide) ?_
        refine g_aload_n (i := 0) C dX11_sort_52 rfl rfl ?_
        refine gg_X11_fair (i := 2) C hiX11_sort_X11 rfl dX11_sort_53 ?_
        refine gg_X4_chance (i := 3) (b := 11)  C (by decide) (by decide) hiX11_sort_X4 rfl dX11_sort_56 ?_
        refine g_iload_n (i := 1) C dX11_sort_59 rfl rfl ?_
        obtain ⟨hb7, hf⟩ := if_inv hf
        refine g_iaload (N := 4) C (by decide) dX11_sort_60 rfl hb7 ?_
        obtain ⟨e1, e2⟩ := some_inv hf
        exact g_iret C hr hlk e1 e2 dX11_sort_61
      · rcases if_or hf with ⟨k8, hf⟩ | ⟨k8, hf⟩
        · refine g_tsIn (j := 1) (tgt := 62) C dX11_sort_24 k8 (by decide) (by decide) rfl (by decide) ?_
          refine g_aload_n (i := 0) C dX11_sort_62 rfl rfl ?_
          refine gg_X11_fair (i := 2) C hiX11_sort_X11 rfl dX11_sort_63 ?_
          refine gg_X4_worth (i := 4) (b := 12)  C (by decide) (by decide) hiX11_sort_X4 rfl dX11_sort_66 ?_
          refine g_iload_n (i := 1) C dX11_sort_69 rfl rfl ?_
          obtain ⟨hb9, hf⟩ := if_inv hf
          refine g_iaload (N := 4) C (by decide) dX11_sort_70 rfl hb9 ?_
          obtain ⟨e1, e2⟩ := some_inv hf
          exact g_iret C hr hlk e1 e2 dX11_sort_71
        · rcases if_or hf with ⟨k10, hf⟩ | ⟨k10, hf⟩
          · refine g_tsIn (j := 2) (tgt := 72) C dX11_sort_24 k10 (by decide) (by decide) rfl (by decide) ?_
            refine g_aload_n (i := 0) C dX11_sort_72 rfl rfl ?_
            refine gg_X11_fair (i := 2) C hiX11_sort_X11 rfl dX11_sort_73 ?_
            refine gg_X4_away (i := 5) (b := 13)  C (by decide) (by decide) hiX11_sort_X4 rfl dX11_sort_76 ?_
            refine g_iload_n (i := 1) C dX11_sort_79 rfl rfl ?_
            obtain ⟨hb11, hf⟩ := if_inv hf
            refine g_iaload (N := 4) C (by decide) dX11_sort_80 rfl hb11 ?_
            obtain ⟨e1, e2⟩ := some_inv hf
            exact g_iret C hr hlk e1 e2 dX11_sort_81
          · refine g_tsOut (tgt := 82) C dX11_sort_24 (by omega) (by decide) ?_
            refine g_iconst C dX11_sort_82 ?_
            obtain ⟨e1, e2⟩ := some_inv hf
            exact g_iret C hr hlk e1 e2 dX11_sort_83
    · have hf := if_t c5 hf
      refine g_iconst C dX11_sort_21 ?_
      obtain ⟨e1, e2⟩ := some_inv hf
      exact g_iret C hr hlk e1 e2 dX11_sort_22
  · have hf := if_t c1 hf
    refine g_bipush C dX11_sort_7 (by decide) ?_
    obtain ⟨e1, e2⟩ := some_inv hf
    exact g_iret C hr hlk e1 e2 dX11_sort_9
/-! X11_mark -/
abbrev rm_X11_mark : Room := { frames := 1, cells := 0, slots := 0, locals := 21 }
theorem hiX11_mark_X11 : ∀ w ∈ u_ws RX11 TX11 8, w ∈ wsX11_mark := fun _ h => (List.mem_cons_of_mem _ (List.mem_append_left _ (List.mem_append_right _ h)))
theorem hiX11_mark_X4 : ∀ w ∈ u_ws RX4 TX4 9, w ∈ wsX11_mark := fun _ h => (List.mem_cons_of_mem _ (List.mem_append_right _ h))
set_option maxHeartbeats 4000000 in
set_option maxRecDepth 100000 in
theorem c_X11_mark {v1 v2 : Int} {σ : Mem} (hf : f_X11_mark v1 v2 σ = some (r0, σ0)) : CTi l D ca ad A yX11_mark wsX11_mark rm_X11_mark [.ref (ad 0), .int (iI v1), .int (iI v2)] σ r0 σ0 := by
  refine ct_i (cc := cX11_mark) (own := RX11) (maxL := 3) (ret := (some .int)) (lv0 := [some (.ref (ad 0)), some (.int (iI v1)), some (.int (iI v2))]) (by decide) rfl rfl rfl (Nat.le_of_ble_eq_true rfl) ?_
  intro p e s m below meth c C hr hlk hnm
  unfold f_X11_mark at hf
  refine g_aload_n (i := 0) C dX11_mark_0 rfl rfl ?_
  refine gg_X11_hasMarket (i := 1) C hiX11_mark_X11 rfl dX11_mark_1 ?_
  refine g_if_ne (tgt := 10) C dX11_mark_4 (by decide) rfl (fun c1 => ?_) (fun c1 => ?_)
  · have hf := if_f c1 hf
    refine g_aload_n (i := 0) C dX11_mark_10 rfl rfl ?_
    refine gg_X11_fair (i := 2) C hiX11_mark_X11 rfl dX11_mark_11 ?_
    refine g_iload_n (i := 1) C dX11_mark_14 rfl rfl ?_
    obtain ⟨r3, σ2, h4, hf⟩ := ob_inv hf
    refine g_callVi C (c_X4_hasMark (by decide) h4) (cwV 1 C.2.2.2.2.1 gX11_mark_X4_hasMark rfl rfl rfl (by decide +kernel) ⟨Nat.le_of_ble_eq_true rfl, Nat.le_of_ble_eq_true rfl⟩) (ob_X4 (by decide)) rfl rfl rfl rfl (Nat.le_of_ble_eq_true rfl) dX11_mark_15 ⟨Nat.zero_le _, Nat.zero_le _⟩ ?_
    refine g_if_ne (tgt := 23) C dX11_mark_18 (by decide) rfl (fun c5 => ?_) (fun c5 => ?_)
    · have hf := if_f c5 hf
      refine g_iload_n (i := 2) C dX11_mark_23 rfl rfl ?_
      refine g_bipush C dX11_mark_24 (by decide) ?_
      refine g_icmp_ne (b' := (-2)) (tgt := 38) C dX11_mark_26 (by decide) rfl (by decide) (fun c6 => ?_) (fun c6 => ?_)
      · have hf := if_f c6 hf
        refine g_iload_n (i := 2) C dX11_mark_38 rfl rfl ?_
        refine g_iconst C dX11_mark_39 ?_
        refine g_icmp_ne (b' := (-1)) (tgt := 53) C dX11_mark_40 (by decide) rfl (by decide) (fun c7 => ?_) (fun c7 => ?_)
        · have hf := if_f c7 hf
          refine g_aload_n (i := 0) C dX11_mark_53 rfl rfl ?_
          refine gg_X11_fair (i := 2) C hiX11_mark_X11 rfl dX11_mark_54 ?_
          refine g_iload_n (i := 2) C dX11_mark_57 rfl rfl ?_
          obtain ⟨r9, σ8, h10, hf⟩ := ob_inv hf
          refine g_callVi C (c_X4_hasSort (by decide) h10) (cwV 1 C.2.2.2.2.1 gX11_mark_X4_hasSort rfl rfl rfl (by decide +kernel) ⟨Nat.le_of_ble_eq_true rfl, Nat.le_of_ble_eq_true rfl⟩) (ob_X4 (by decide)) rfl rfl rfl rfl (Nat.le_of_ble_eq_true rfl) dX11_mark_58 ⟨Nat.zero_le _, Nat.zero_le _⟩ ?_
          refine g_if_eq (tgt := 78) C dX11_mark_61 (by decide) rfl (fun c11 => ?_) (fun c11 => ?_)
          · have hf := if_t c11 hf
            refine g_iconst C dX11_mark_78 ?_
            obtain ⟨e1, e2⟩ := some_inv hf
            exact g_iret C hr hlk e1 e2 dX11_mark_79
          · have hf := if_f c11 hf
            refine g_aload_n (i := 0) C dX11_mark_64 rfl rfl ?_
            refine gg_X11_fair (i := 2) C hiX11_mark_X11 rfl dX11_mark_65 ?_
            refine gg_X4_cost (i := 4) (b := 16)  C (by decide) (by decide) hiX11_mark_X4 rfl dX11_mark_68 ?_
            refine g_iload_n (i := 1) C dX11_mark_71 rfl rfl ?_
            obtain ⟨hb12, hf⟩ := if_inv hf
            refine g_aaload C (Or.inr ⟨(by decide), rfl, hb12⟩) dX11_mark_72 rfl ?_
            refine g_iload_n (i := 2) C dX11_mark_73 rfl rfl ?_
            obtain ⟨hb13, hf⟩ := if_inv hf
            refine g_iaload (N := 4) C (kI_row (by decide) hb12) dX11_mark_74 rfl hb13 ?_
            refine g_goto (tgt := 79) C dX11_mark_75 (by decide) ?_
            obtain ⟨e1, e2⟩ := some_inv hf
            exact g_iret C hr hlk e1 e2 dX11_mark_79
        · have hf := if_t c7 hf
          refine g_aload_n (i := 0) C dX11_mark_43 rfl rfl ?_
          refine gg_X11_fair (i := 2) C hiX11_mark_X11 rfl dX11_mark_44 ?_
          refine gg_X4_use (i := 3) (b := 14)  C (by decide) (by decide) hiX11_mark_X4 rfl dX11_mark_47 ?_
          refine g_iload_n (i := 1) C dX11_mark_50 rfl rfl ?_
          obtain ⟨hb14, hf⟩ := if_inv hf
          refine g_iaload (N := 4) C (by decide) dX11_mark_51 rfl hb14 ?_
          obtain ⟨e1, e2⟩ := some_inv hf
          exact g_iret C hr hlk e1 e2 dX11_mark_52
      · have hf := if_t c6 hf
        refine g_aload_n (i := 0) C dX11_mark_29 rfl rfl ?_
        refine gg_X11_fair (i := 2) C hiX11_mark_X11 rfl dX11_mark_30 ?_
        refine g_iload_n (i := 1) C dX11_mark_33 rfl rfl ?_
        obtain ⟨r16, σ15, h17, hf⟩ := ob_inv hf
        refine g_callVi C (c_X4_toldAt (by decide) h17) (cwV 1 C.2.2.2.2.1 gX11_mark_X4_toldAt rfl rfl rfl (by decide +kernel) ⟨Nat.le_of_ble_eq_true rfl, Nat.le_of_ble_eq_true rfl⟩) (ob_X4 (by decide)) rfl rfl rfl rfl (Nat.le_of_ble_eq_true rfl) dX11_mark_34 ⟨Nat.zero_le _, Nat.zero_le _⟩ ?_
        obtain ⟨e1, e2⟩ := some_inv hf
        exact g_iret C hr hlk e1 e2 dX11_mark_37
    · have hf := if_t c5 hf
      refine g_iconst C dX11_mark_21 ?_
      obtain ⟨e1, e2⟩ := some_inv hf
      exact g_iret C hr hlk e1 e2 dX11_mark_22
  · have hf := if_t c1 hf
    refine g_bipush C dX11_mark_7 (by decide) ?_
    obtain ⟨e1, e2⟩ := some_inv hf
    exact g_iret C hr hlk e1 e2 dX11_mark_9
/-! X11_isBit -/
abbrev rm_X11_isBit : Room := { frames := 0, cells := 0, slots := 0, locals := 0 }
set_option maxHeartbeats 4000000 in
set_option maxRecDepth 100000 in
theorem c_X11_isBit {v0 : Int} {σ : Mem} (hf : f_X11_isBit v0 σ = some (r0, σ0)) : CTi l D ca ad A yX11_isBit wsX11_isBit rm_X11_isBit [.int (iI v0)] σ r0 σ0 := by
  refine ct_i (cc := cX11_isBit) (own := RX11) (maxL := 1) (ret := (some .boolean)) (lv0 := [some (.int (iI v0))]) (by decide) rfl rfl rfl (Nat.le_of_ble_eq_true rfl) ?_
  intro p e s m below meth c C hr hlk hnm
  unfold f_X11_isBit at hf
  refine g_iload_n (i := 0) C dX11_isBit_0 rfl rfl ?_
  refine g_if_eq (tgt := 9) C dX11_isBit_1 (by decide) rfl (fun c1 => ?_) (fun c1 => ?_)
  · have hf := if_t c1 hf
    refine g_iconst C dX11_isBit_9 ?_
    refine g_goto (tgt := 14) C dX11_isBit_10 (by decide) ?_
    obtain ⟨e1, e2⟩ := some_inv hf
    exact g_zret C hr hlk (by decide) e1 e2 dX11_isBit_14
  · have hf := if_f c1 hf
    refine g_iload_n (i := 0) C dX11_isBit_4 rfl rfl ?_
    refine g_iconst C dX11_isBit_5 ?_
    refine g_icmp_ne (b' := 1) (tgt := 13) C dX11_isBit_6 (by decide) rfl (by decide) (fun c2 => ?_) (fun c2 => ?_)
    · have hf := if_f c2 hf
      refine g_iconst C dX11_isBit_13 ?_
      obtain ⟨e1, e2⟩ := some_inv hf
      exact g_zret C hr hlk (by decide) e1 e2 dX11_isBit_14
    · have hf := if_t c2 hf
      refine g_iconst C dX11_isBit_9 ?_
      refine g_goto (tgt := 14) C dX11_isBit_10 (by decide) ?_
      obtain ⟨e1, e2⟩ := some_inv hf
      exact g_zret C hr hlk (by decide) e1 e2 dX11_isBit_14
/-! X11_change -/
abbrev rm_X11_change : Room := { frames := 1, cells := 0, slots := 0, locals := 21 }
theorem hiX11_change_X11 : ∀ w ∈ u_ws RX11 TX11 8, w ∈ wsX11_change := fun _ h => (List.mem_cons_of_mem _ (List.mem_append_left _ (List.mem_append_right _ h)))
theorem hiX11_change_X4 : ∀ w ∈ u_ws RX4 TX4 9, w ∈ wsX11_change := fun _ h => (List.mem_cons_of_mem _ (List.mem_append_right _ h))
set_option maxHeartbeats 4000000 in
set_option maxRecDepth 100000 in
theorem c_X11_change {v1 v2 v3 : Int} {σ : Mem} (hf : f_X11_change v1 v2 v3 σ = some (r0, σ0)) : CTi l D ca ad A yX11_change wsX11_change rm_X11_change [.ref (ad 0), .int (iI v1), .int (iI v2), .int (iI v3)] σ r0 σ0 := by
  refine ct_i (cc := cX11_change) (own := RX11) (maxL := 5) (ret := (some .int)) (lv0 := [some (.ref (ad 0)), some (.int (iI v1)), some (.int (iI v2)), some (.int (iI v3)), none]) (by decide) rfl rfl rfl (Nat.le_of_ble_eq_true rfl) ?_
  intro p e s m below meth c C hr hlk hnm
  unfold f_X11_change at hf
  refine g_aload_n (i := 0) C dX11_change_0 rfl rfl ?_
  refine gg_X11_hasMarket (i := 1) C hiX11_change_X11 rfl dX11_change_1 ?_
  refine g_if_ne (tgt := 10) C dX11_change_4 (by decide) rfl (fun c1 => ?_) (fun c1 => ?_)
  · have hf := if_f c1 hf
    refine g_aload_n (i := 0) C dX11_change_10 rfl rfl ?_
    refine gg_X11_fair (i := 2) C hiX11_change_X11 rfl dX11_change_11 ?_
    refine g_iload_n (i := 1) C dX11_change_14 rfl rfl ?_
    obtain ⟨r3, σ2, h4, hf⟩ := ob_inv hf
    refine g_callVi C (c_X4_hasSort (by decide) h4) (cwV 1 C.2.2.2.2.1 gX11_change_X4_hasSort rfl rfl rfl (by decide +kernel) ⟨Nat.le_of_ble_eq_true rfl, Nat.le_of_ble_eq_true rfl⟩) (ob_X4 (by decide)) rfl rfl rfl rfl (Nat.le_of_ble_eq_true rfl) dX11_change_15 ⟨Nat.zero_le _, Nat.zero_le _⟩ ?_
    refine g_if_eq (tgt := 39) C dX11_change_18 (by decide) rfl (fun c5 => ?_) (fun c5 => ?_)
    · have hf := if_t c5 hf
      refine g_iconst C dX11_change_39 ?_
      obtain ⟨e1, e2⟩ := some_inv hf
      exact g_iret C hr hlk e1 e2 dX11_change_40
    · have hf := if_f c5 hf
      refine g_iload_n (i := 2) C dX11_change_21 rfl rfl ?_
      obtain ⟨r7, σ6, h8, hf⟩ := ob_inv hf
      refine g_callSi C (c_X11_isBit  h8) (va_cwS 1 C.2.2.2.2.1 gX11_change_X11_isBit rfl rfl rfl (by decide +kernel) ⟨Nat.le_of_ble_eq_true rfl, Nat.le_of_ble_eq_true rfl⟩) rfl rfl (Nat.le_of_ble_eq_true rfl) dX11_change_22 ⟨Nat.zero_le _, Nat.zero_le _⟩ ?_
      refine g_if_eq (tgt := 39) C dX11_change_25 (by decide) rfl (fun c9 => ?_) (fun c9 => ?_)
      · have hf := if_t c9 hf
        refine g_iconst C dX11_change_39 ?_
        obtain ⟨e1, e2⟩ := some_inv hf
        exact g_iret C hr hlk e1 e2 dX11_change_40
      · have hf := if_f c9 hf
        refine g_iload_n (i := 3) C dX11_change_28 rfl rfl ?_
        refine g_if_lt (tgt := 39) C dX11_change_29 (by decide) rfl (fun c10 => ?_) (fun c10 => ?_)
        · have hf := if_t c10 hf
          refine g_iconst C dX11_change_39 ?_
          obtain ⟨e1, e2⟩ := some_inv hf
          exact g_iret C hr hlk e1 e2 dX11_change_40
        · have hf := if_f c10 hf
          refine g_iload_n (i := 3) C dX11_change_32 rfl rfl ?_
          refine g_sipush C dX11_change_33 (by decide) ?_
          refine g_icmp_le (b' := 999) (tgt := 41) C dX11_change_36 (by decide) rfl (by decide) (fun c11 => ?_) (fun c11 => ?_)
          · have hf := if_t c11 hf
            refine g_iload_n (i := 2) C dX11_change_41 rfl rfl ?_
            refine g_if_ne (tgt := 57) C dX11_change_42 (by decide) rfl (fun c12 => ?_) (fun c12 => ?_)
            · have hf := if_f c12 hf
              refine g_aload_n (i := 0) C dX11_change_57 rfl rfl ?_
              refine gg_X11_fair (i := 2) C hiX11_change_X11 rfl dX11_change_58 ?_
              refine gg_X4_away (i := 4) (b := 13)  C (by decide) (by decide) hiX11_change_X4 rfl dX11_change_61 ?_
              refine g_iload_n (i := 1) C dX11_change_64 rfl rfl ?_
              obtain ⟨hb13, hf⟩ := if_inv hf
              refine g_iaload (N := 4) C (by decide) dX11_change_65 rfl hb13 ?_
              refine g_istore C dX11_change_66 (by decide) rfl ?_
              refine g_iload_n (i := 2) C dX11_change_68 rfl rfl ?_
              refine g_if_ne (tgt := 85) C dX11_change_69 (by decide) rfl (fun c15 => ?_) (fun c15 => ?_)
              · have hf := if_f c15 hf
                refine g_aload_n (i := 0) C dX11_change_85 rfl rfl ?_
                refine gg_X11_fair (i := 2) C hiX11_change_X11 rfl dX11_change_86 ?_
                refine gg_X4_away (i := 4) (b := 13)  C (by decide) (by decide) hiX11_change_X4 rfl dX11_change_89 ?_
                refine g_iload_n (i := 1) C dX11_change_92 rfl rfl ?_
                refine g_iload_n (i := 3) C dX11_change_93 rfl rfl ?_
                refine g_iastore (N := 4) C (by decide) dX11_change_94 rfl hb13 ?_
                refine g_iload C dX11_change_95 rfl ?_
                obtain ⟨e1, e2⟩ := some_inv hf
                exact g_iret C hr hlk e1 e2 dX11_change_97
              · have hf := if_t c15 hf
                refine g_aload_n (i := 0) C dX11_change_72 rfl rfl ?_
                refine gg_X11_fair (i := 2) C hiX11_change_X11 rfl dX11_change_73 ?_
                refine gg_X4_worth (i := 3) (b := 12)  C (by decide) (by decide) hiX11_change_X4 rfl dX11_change_76 ?_
                refine g_iload_n (i := 1) C dX11_change_79 rfl rfl ?_
                refine g_iload_n (i := 3) C dX11_change_80 rfl rfl ?_
                refine g_iastore (N := 4) C (by decide) dX11_change_81 rfl hb13 ?_
                refine g_goto (tgt := 95) C dX11_change_82 (by decide) ?_
                refine g_iload C dX11_change_95 rfl ?_
                obtain ⟨e1, e2⟩ := some_inv hf
                exact g_iret C hr hlk e1 e2 dX11_change_97
            · have hf := if_t c12 hf
              refine g_aload_n (i := 0) C dX11_change_45 rfl rfl ?_
              refine gg_X11_fair (i := 2) C hiX11_change_X11 rfl dX11_change_46 ?_
              refine gg_X4_worth (i := 3) (b := 12)  C (by decide) (by decide) hiX11_change_X4 rfl dX11_change_49 ?_
              refine g_iload_n (i := 1) C dX11_change_52 rfl rfl ?_
              obtain ⟨hb18, hf⟩ := if_inv hf
              refine g_iaload (N := 4) C (by decide) dX11_change_53 rfl hb18 ?_
              refine g_goto (tgt := 66) C dX11_change_54 (by decide) ?_
              refine g_istore C dX11_change_66 (by decide) rfl ?_
              refine g_iload_n (i := 2) C dX11_change_68 rfl rfl ?_
              refine g_if_ne (tgt := 85) C dX11_change_69 (by decide) rfl (fun c20 => ?_) (fun c20 => ?_)
              · have hf := if_f c20 hf
                refine g_aload_n (i := 0) C dX11_change_85 rfl rfl ?_
                refine gg_X11_fair (i := 2) C hiX11_change_X11 rfl dX11_change_86 ?_
                refine gg_X4_away (i := 4) (b := 13)  C (by decide) (by decide) hiX11_change_X4 rfl dX11_change_89 ?_
                refine g_iload_n (i := 1) C dX11_change_92 rfl rfl ?_
                refine g_iload_n (i := 3) C dX11_change_93 rfl rfl ?_
                refine g_iastore (N := 4) C (by decide) dX11_change_94 rfl hb18 ?_
                refine g_iload C dX11_change_95 rfl ?_
                obtain ⟨e1, e2⟩ := some_inv hf
                exact g_iret C hr hlk e1 e2 dX11_change_97
              · have hf := if_t c20 hf
                refine g_aload_n (i := 0) C dX11_change_72 rfl rfl ?_
                refine gg_X11_fair (i := 2) C hiX11_change_X11 rfl dX11_change_73 ?_
                refine gg_X4_worth (i := 3) (b := 12)  C (by decide) (by decide) hiX11_change_X4 rfl dX11_change_76 ?_
                refine g_iload_n (i := 1) C dX11_change_79 rfl rfl ?_
                refine g_iload_n (i := 3) C dX11_change_80 rfl rfl ?_
                refine g_iastore (N := 4) C (by decide) dX11_change_81 rfl hb18 ?_
                refine g_goto (tgt := 95) C dX11_change_82 (by decide) ?_
                refine g_iload C dX11_change_95 rfl ?_
                obtain ⟨e1, e2⟩ := some_inv hf
                exact g_iret C hr hlk e1 e2 dX11_change_97
          · have hf := if_f c11 hf
            refine g_iconst C dX11_change_39 ?_
            obtain ⟨e1, e2⟩ := some_inv hf
            exact g_iret C hr hlk e1 e2 dX11_change_40
  · have hf := if_t c1 hf
    refine g_bipush C dX11_change_7 (by decide) ?_
    obtain ⟨e1, e2⟩ := some_inv hf
    exact g_iret C hr hlk e1 e2 dX11_change_9
/-! X11_changeUse -/
abbrev rm_X11_changeUse : Room := { frames := 0, cells := 0, slots := 0, locals := 0 }
theorem hiX11_changeUse_X11 : ∀ w ∈ u_ws RX11 TX11 8, w ∈ wsX11_changeUse := fun _ h => (List.mem_cons_of_mem _ (List.mem_append_left _ (List.mem_append_right _ h)))
theorem hiX11_changeUse_X4 : ∀ w ∈ u_ws RX4 TX4 9, w ∈ wsX11_changeUse := fun _ h => (List.mem_cons_of_mem _ (List.mem_append_right _ h))
set_option maxHeartbeats 4000000 in
set_option maxRecDepth 100000 in
theorem c_X11_changeUse {v1 v2 : Int} {σ : Mem} (hf : f_X11_changeUse v1 v2 σ = some (r0, σ0)) : CTi l D ca ad A yX11_changeUse wsX11_changeUse rm_X11_changeUse [.ref (ad 0), .int (iI v1), .int (iI v2)] σ r0 σ0 := by
  refine ct_i (cc := cX11_changeUse) (own := RX11) (maxL := 4) (ret := (some .int)) (lv0 := [some (.ref (ad 0)), some (.int (iI v1)), some (.int (iI v2)), none]) (by decide) rfl rfl rfl (Nat.le_of_ble_eq_true rfl) ?_
  intro p e s m below meth c C hr hlk hnm
  unfold f_X11_changeUse at hf
  refine g_iload_n (i := 2) C dX11_changeUse_0 rfl rfl ?_
  refine g_bipush C dX11_changeUse_1 (by decide) ?_
  refine g_icmp_le (b' := 99) (tgt := 8) C dX11_changeUse_3 (by decide) rfl (by decide) (fun c1 => ?_) (fun c1 => ?_)
  · have hf := if_t c1 hf
    refine g_aload_n (i := 0) C dX11_changeUse_8 rfl rfl ?_
    refine gg_X11_fair (i := 1) C hiX11_changeUse_X11 rfl dX11_changeUse_9 ?_
    refine gg_X4_use (i := 2) (b := 14)  C (by decide) (by decide) hiX11_changeUse_X4 rfl dX11_changeUse_12 ?_
    refine g_iload_n (i := 1) C dX11_changeUse_15 rfl rfl ?_
    obtain ⟨hb2, hf⟩ := if_inv hf
    refine g_iaload (N := 4) C (by decide) dX11_changeUse_16 rfl hb2 ?_
    refine g_istore_n (i := 3) C dX11_changeUse_17 rfl (by decide) rfl ?_
    refine g_aload_n (i := 0) C dX11_changeUse_18 rfl rfl ?_
    refine gg_X11_fair (i := 1) C hiX11_changeUse_X11 rfl dX11_changeUse_19 ?_
    refine gg_X4_use (i := 2) (b := 14)  C (by decide) (by decide) hiX11_changeUse_X4 rfl dX11_changeUse_22 ?_
    refine g_iload_n (i := 1) C dX11_changeUse_25 rfl rfl ?_
    refine g_iload_n (i := 2) C dX11_changeUse_26 rfl rfl ?_
    refine g_iastore (N := 4) C (by decide) dX11_changeUse_27 rfl hb2 ?_
    refine g_iload_n (i := 3) C dX11_changeUse_28 rfl rfl ?_
    obtain ⟨e1, e2⟩ := some_inv hf
    exact g_iret C hr hlk e1 e2 dX11_changeUse_29
  · have hf := if_f c1 hf
    refine g_iconst C dX11_changeUse_6 ?_
    obtain ⟨e1, e2⟩ := some_inv hf
    exact g_iret C hr hlk e1 e2 dX11_changeUse_7
/-! X11_cost -/
abbrev rm_X11_cost : Room := { frames := 1, cells := 0, slots := 0, locals := 23 }
theorem hiX11_cost_X11 : ∀ w ∈ u_ws RX11 TX11 8, w ∈ wsX11_cost := fun _ h => (List.mem_cons_of_mem _ (List.mem_append_left _ (List.mem_append_right _ h)))
theorem hiX11_cost_X4 : ∀ w ∈ u_ws RX4 TX4 9, w ∈ wsX11_cost := fun _ h => (List.mem_cons_of_mem _ (List.mem_append_right _ h))
set_option maxHeartbeats 4000000 in
set_option maxRecDepth 100000 in
theorem c_X11_cost {v1 v2 v3 : Int} {σ : Mem} (hf : f_X11_cost v1 v2 v3 σ = some (r0, σ0)) : CTi l D ca ad A yX11_cost wsX11_cost rm_X11_cost [.ref (ad 0), .int (iI v1), .int (iI v2), .int (iI v3)] σ r0 σ0 := by
  refine ct_i (cc := cX11_cost) (own := RX11) (maxL := 5) (ret := (some .int)) (lv0 := [some (.ref (ad 0)), some (.int (iI v1)), some (.int (iI v2)), some (.int (iI v3)), none]) (by decide) rfl rfl rfl (Nat.le_of_ble_eq_true rfl) ?_
  intro p e s m below meth c C hr hlk hnm
  unfold f_X11_cost at hf
  refine g_aload_n (i := 0) C dX11_cost_0 rfl rfl ?_
  refine gg_X11_hasMarket (i := 1) C hiX11_cost_X11 rfl dX11_cost_1 ?_
  refine g_if_ne (tgt := 10) C dX11_cost_4 (by decide) rfl (fun c1 => ?_) (fun c1 => ?_)
  · have hf := if_f c1 hf
    refine g_aload_n (i := 0) C dX11_cost_10 rfl rfl ?_
    refine gg_X11_fair (i := 2) C hiX11_cost_X11 rfl dX11_cost_11 ?_
    refine g_iload_n (i := 1) C dX11_cost_14 rfl rfl ?_
    obtain ⟨r3, σ2, h4, hf⟩ := ob_inv hf
    refine g_callVi C (c_X4_hasMark (by decide) h4) (cwV 1 C.2.2.2.2.1 gX11_cost_X4_hasMark rfl rfl rfl (by decide +kernel) ⟨Nat.le_of_ble_eq_true rfl, Nat.le_of_ble_eq_true rfl⟩) (ob_X4 (by decide)) rfl rfl rfl rfl (Nat.le_of_ble_eq_true rfl) dX11_cost_15 ⟨Nat.zero_le _, Nat.zero_le _⟩ ?_
    refine g_if_eq (tgt := 25) C dX11_cost_18 (by decide) rfl (fun c5 => ?_) (fun c5 => ?_)
    · have hf := if_t c5 hf
      refine g_iconst C dX11_cost_25 ?_
      obtain ⟨e1, e2⟩ := some_inv hf
      exact g_iret C hr hlk e1 e2 dX11_cost_26
    · have hf := if_f c5 hf
      refine g_iload_n (i := 3) C dX11_cost_21 rfl rfl ?_
      refine g_if_ge (tgt := 27) C dX11_cost_22 (by decide) rfl (fun c6 => ?_) (fun c6 => ?_)
      · have hf := if_t c6 hf
        refine g_iload_n (i := 2) C dX11_cost_27 rfl rfl ?_
        refine g_iconst C dX11_cost_28 ?_
        refine g_icmp_ne (b' := (-1)) (tgt := 39) C dX11_cost_29 (by decide) rfl (by decide) (fun c7 => ?_) (fun c7 => ?_)
        · have hf := if_f c7 hf
          refine g_aload_n (i := 0) C dX11_cost_39 rfl rfl ?_
          refine gg_X11_fair (i := 2) C hiX11_cost_X11 rfl dX11_cost_40 ?_
          refine g_iload_n (i := 2) C dX11_cost_43 rfl rfl ?_
          obtain ⟨r9, σ8, h10, hf⟩ := ob_inv hf
          refine g_callVi C (c_X4_hasSort (by decide) h10) (cwV 1 C.2.2.2.2.1 gX11_cost_X4_hasSort rfl rfl rfl (by decide +kernel) ⟨Nat.le_of_ble_eq_true rfl, Nat.le_of_ble_eq_true rfl⟩) (ob_X4 (by decide)) rfl rfl rfl rfl (Nat.le_of_ble_eq_true rfl) dX11_cost_44 ⟨Nat.zero_le _, Nat.zero_le _⟩ ?_
          refine g_if_eq (tgt := 57) C dX11_cost_47 (by decide) rfl (fun c11 => ?_) (fun c11 => ?_)
          · have hf := if_t c11 hf
            refine g_iconst C dX11_cost_57 ?_
            obtain ⟨e1, e2⟩ := some_inv hf
            exact g_iret C hr hlk e1 e2 dX11_cost_58
          · have hf := if_f c11 hf
            refine g_iload_n (i := 3) C dX11_cost_50 rfl rfl ?_
            refine g_sipush C dX11_cost_51 (by decide) ?_
            refine g_icmp_le (b' := 999) (tgt := 59) C dX11_cost_54 (by decide) rfl (by decide) (fun c12 => ?_) (fun c12 => ?_)
            · have hf := if_t c12 hf
              refine g_aload_n (i := 0) C dX11_cost_59 rfl rfl ?_
              refine gg_X11_fair (i := 2) C hiX11_cost_X11 rfl dX11_cost_60 ?_
              refine gg_X4_cost (i := 3) (b := 16)  C (by decide) (by decide) hiX11_cost_X4 rfl dX11_cost_63 ?_
              refine g_iload_n (i := 1) C dX11_cost_66 rfl rfl ?_
              obtain ⟨hb13, hf⟩ := if_inv hf
              refine g_aaload C (Or.inr ⟨(by decide), rfl, hb13⟩) dX11_cost_67 rfl ?_
              refine g_iload_n (i := 2) C dX11_cost_68 rfl rfl ?_
              obtain ⟨hb14, hf⟩ := if_inv hf
              refine g_iaload (N := 4) C (kI_row (by decide) hb13) dX11_cost_69 rfl hb14 ?_
              refine g_istore C dX11_cost_70 (by decide) rfl ?_
              refine g_aload_n (i := 0) C dX11_cost_72 rfl rfl ?_
              refine gg_X11_fair (i := 2) C hiX11_cost_X11 rfl dX11_cost_73 ?_
              refine gg_X4_cost (i := 3) (b := 16)  C (by decide) (by decide) hiX11_cost_X4 rfl dX11_cost_76 ?_
              refine g_iload_n (i := 1) C dX11_cost_79 rfl rfl ?_
              refine g_aaload C (Or.inr ⟨(by decide), rfl, hb13⟩) dX11_cost_80 rfl ?_
              refine g_iload_n (i := 2) C dX11_cost_81 rfl rfl ?_
              refine g_iload_n (i := 3) C dX11_cost_82 rfl rfl ?_
              refine g_iastore (N := 4) C (kI_row (by decide) hb13) dX11_cost_83 rfl hb14 ?_
              refine g_iload C dX11_cost_84 rfl ?_
              obtain ⟨e1, e2⟩ := some_inv hf
              exact g_iret C hr hlk e1 e2 dX11_cost_86
            · have hf := if_f c12 hf
              refine g_iconst C dX11_cost_57 ?_
              obtain ⟨e1, e2⟩ := some_inv hf
              exact g_iret C hr hlk e1 e2 dX11_cost_58
        · have hf := if_t c7 hf
          refine g_aload_n (i := 0) C dX11_cost_32 rfl rfl ?_
          refine g_iload_n (i := 1) C dX11_cost_33 rfl rfl ?_
          refine g_iload_n (i := 3) C dX11_cost_34 rfl rfl ?_
          obtain ⟨r18, σ17, h19, hf⟩ := ob_inv hf
          refine g_callVi C (c_X11_changeUse  h19) (cwV 2 C.2.2.2.2.1 gX11_cost_X11_changeUse rfl rfl rfl (by decide +kernel) ⟨Nat.le_of_ble_eq_true rfl, Nat.le_of_ble_eq_true rfl⟩) ob_X11 rfl rfl rfl rfl (Nat.le_of_ble_eq_true rfl) dX11_cost_35 ⟨Nat.zero_le _, Nat.zero_le _⟩ ?_
          obtain ⟨e1, e2⟩ := some_inv hf
          exact g_iret C hr hlk e1 e2 dX11_cost_38
      · have hf := if_f c6 hf
        refine g_iconst C dX11_cost_25 ?_
        obtain ⟨e1, e2⟩ := some_inv hf
        exact g_iret C hr hlk e1 e2 dX11_cost_26
  · have hf := if_t c1 hf
    refine g_bipush C dX11_cost_7 (by decide) ?_
    obtain ⟨e1, e2⟩ := some_inv hf
    exact g_iret C hr hlk e1 e2 dX11_cost_9
/-! X11_think -/
abbrev rm_X11_think : Room := { frames := 1, cells := 0, slots := 0, locals := 21 }
theorem hiX11_think_X11 : ∀ w ∈ u_ws RX11 TX11 8, w ∈ wsX11_think := fun _ h => (List.mem_cons_of_mem _ (List.mem_append_left _ (List.mem_append_right _ h)))
theorem hiX11_think_X4 : ∀ w ∈ u_ws RX4 TX4 9, w ∈ wsX11_think := fun _ h => (List.mem_cons_of_mem _ (List.mem_append_right _ h))
set_option maxHeartbeats 4000000 in
set_option maxRecDepth 100000 in
theorem c_X11_think {v1 v2 : Int} {σ : Mem} (hf : f_X11_think v1 v2 σ = some (r0, σ0)) : CTi l D ca ad A yX11_think wsX11_think rm_X11_think [.ref (ad 0), .int (iI v1), .int (iI v2)] σ r0 σ0 := by
  refine ct_i (cc := cX11_think) (own := RX11) (maxL := 4) (ret := (some .int)) (lv0 := [some (.ref (ad 0)), some (.int (iI v1)), some (.int (iI v2)), none]) (by decide) rfl rfl rfl (Nat.le_of_ble_eq_true rfl) ?_
  intro p e s m below meth c C hr hlk hnm
  unfold f_X11_think at hf
  refine g_aload_n (i := 0) C dX11_think_0 rfl rfl ?_
  refine gg_X11_hasMarket (i := 1) C hiX11_think_X11 rfl dX11_think_1 ?_
  refine g_if_ne (tgt := 10) C dX11_think_4 (by decide) rfl (fun c1 => ?_) (fun c1 => ?_)
  · have hf := if_f c1 hf
    refine g_aload_n (i := 0) C dX11_think_10 rfl rfl ?_
    refine gg_X11_fair (i := 2) C hiX11_think_X11 rfl dX11_think_11 ?_
    refine g_iload_n (i := 1) C dX11_think_14 rfl rfl ?_
    obtain ⟨r3, σ2, h4, hf⟩ := ob_inv hf
    refine g_callVi C (c_X4_hasMark (by decide) h4) (cwV 1 C.2.2.2.2.1 gX11_think_X4_hasMark rfl rfl rfl (by decide +kernel) ⟨Nat.le_of_ble_eq_true rfl, Nat.le_of_ble_eq_true rfl⟩) (ob_X4 (by decide)) rfl rfl rfl rfl (Nat.le_of_ble_eq_true rfl) dX11_think_15 ⟨Nat.zero_le _, Nat.zero_le _⟩ ?_
    refine g_if_eq (tgt := 37) C dX11_think_18 (by decide) rfl (fun c5 => ?_) (fun c5 => ?_)
    · have hf := if_t c5 hf
      refine g_iconst C dX11_think_37 ?_
      obtain ⟨e1, e2⟩ := some_inv hf
      exact g_iret C hr hlk e1 e2 dX11_think_38
    · have hf := if_f c5 hf
      refine g_iload_n (i := 2) C dX11_think_21 rfl rfl ?_
      refine g_iconst C dX11_think_22 ?_
      refine g_icmp_eq (b' := (-1)) (tgt := 39) C dX11_think_23 (by decide) rfl (by decide) (fun c6 => ?_) (fun c6 => ?_)
      · have hf := if_t c6 hf
        refine g_aload_n (i := 0) C dX11_think_39 rfl rfl ?_
        refine gg_X11_fair (i := 2) C hiX11_think_X11 rfl dX11_think_40 ?_
        refine g_iload_n (i := 1) C dX11_think_43 rfl rfl ?_
        obtain ⟨r8, σ7, h9, hf⟩ := ob_inv hf
        refine g_callVi C (c_X4_toldAt (by decide) h9) (cwV 1 C.2.2.2.2.1 gX11_think_X4_toldAt rfl rfl rfl (by decide +kernel) ⟨Nat.le_of_ble_eq_true rfl, Nat.le_of_ble_eq_true rfl⟩) (ob_X4 (by decide)) rfl rfl rfl rfl (Nat.le_of_ble_eq_true rfl) dX11_think_44 ⟨Nat.zero_le _, Nat.zero_le _⟩ ?_
        refine g_istore_n (i := 3) C dX11_think_47 rfl (by decide) rfl ?_
        refine g_aload_n (i := 0) C dX11_think_48 rfl rfl ?_
        refine gg_X11_fair (i := 2) C hiX11_think_X11 rfl dX11_think_49 ?_
        refine gg_X4_told (i := 3) (b := 15)  C (by decide) (by decide) hiX11_think_X4 rfl dX11_think_52 ?_
        refine g_iload_n (i := 1) C dX11_think_55 rfl rfl ?_
        refine g_iload_n (i := 2) C dX11_think_56 rfl rfl ?_
        obtain ⟨hb10, hf⟩ := if_inv hf
        refine g_iastore (N := 4) C (by decide) dX11_think_57 rfl hb10 ?_
        refine g_iload_n (i := 3) C dX11_think_58 rfl rfl ?_
        obtain ⟨e1, e2⟩ := some_inv hf
        exact g_iret C hr hlk e1 e2 dX11_think_59
      · have hf := if_f c6 hf
        refine g_aload_n (i := 0) C dX11_think_26 rfl rfl ?_
        refine gg_X11_fair (i := 2) C hiX11_think_X11 rfl dX11_think_27 ?_
        refine g_iload_n (i := 2) C dX11_think_30 rfl rfl ?_
        obtain ⟨r13, σ12, h14, hf⟩ := ob_inv hf
        refine g_callVi C (c_X4_hasSort (by decide) h14) (cwV 1 C.2.2.2.2.1 gX11_think_X4_hasSort rfl rfl rfl (by decide +kernel) ⟨Nat.le_of_ble_eq_true rfl, Nat.le_of_ble_eq_true rfl⟩) (ob_X4 (by decide)) rfl rfl rfl rfl (Nat.le_of_ble_eq_true rfl) dX11_think_31 ⟨Nat.zero_le _, Nat.zero_le _⟩ ?_
        refine g_if_ne (tgt := 39) C dX11_think_34 (by decide) rfl (fun c15 => ?_) (fun c15 => ?_)
        · have hf := if_f c15 hf
          refine g_aload_n (i := 0) C dX11_think_39 rfl rfl ?_
          refine gg_X11_fair (i := 2) C hiX11_think_X11 rfl dX11_think_40 ?_
          refine g_iload_n (i := 1) C dX11_think_43 rfl rfl ?_
          obtain ⟨r17, σ16, h18, hf⟩ := ob_inv hf
          refine g_callVi C (c_X4_toldAt (by decide) h18) (cwV 1 C.2.2.2.2.1 gX11_think_X4_toldAt rfl rfl rfl (by decide +kernel) ⟨Nat.le_of_ble_eq_true rfl, Nat.le_of_ble_eq_true rfl⟩) (ob_X4 (by decide)) rfl rfl rfl rfl (Nat.le_of_ble_eq_true rfl) dX11_think_44 ⟨Nat.zero_le _, Nat.zero_le _⟩ ?_
          refine g_istore_n (i := 3) C dX11_think_47 rfl (by decide) rfl ?_
          refine g_aload_n (i := 0) C dX11_think_48 rfl rfl ?_
          refine gg_X11_fair (i := 2) C hiX11_think_X11 rfl dX11_think_49 ?_
          refine gg_X4_told (i := 3) (b := 15)  C (by decide) (by decide) hiX11_think_X4 rfl dX11_think_52 ?_
          refine g_iload_n (i := 1) C dX11_think_55 rfl rfl ?_
          refine g_iload_n (i := 2) C dX11_think_56 rfl rfl ?_
          obtain ⟨hb19, hf⟩ := if_inv hf
          refine g_iastore (N := 4) C (by decide) dX11_think_57 rfl hb19 ?_
          refine g_iload_n (i := 3) C dX11_think_58 rfl rfl ?_
          obtain ⟨e1, e2⟩ := some_inv hf
          exact g_iret C hr hlk e1 e2 dX11_think_59
        · have hf := if_t c15 hf
          refine g_iconst C dX11_think_37 ?_
          obtain ⟨e1, e2⟩ := some_inv hf
          exact g_iret C hr hlk e1 e2 dX11_think_38
  · have hf := if_t c1 hf
    refine g_bipush C dX11_think_7 (by decide) ?_
    obtain ⟨e1, e2⟩ := some_inv hf
    exact g_iret C hr hlk e1 e2 dX11_think_9
/-! X11_commonDivisor -/
abbrev rm_X11_commonDivisor : Room := { frames := 0, cells := 0, slots := 0, locals := 0 }
set_option maxHeartbeats 4000000 in
set_option maxRecDepth 100000 in
theorem it_X11_commonDivisor_9 (C : Cx p s m args c cX11_commonDivisor 11 RX11 wsX11_commonDivisor D ca A) (hr : meth.sig.returnType = (some .long)) (hlk : meth.locks = false) {o : (Int × Int × Int × Mem) ⊕ (Int × Mem)} (hc : ∀ (x4 x6 x8 : Int) (σ : Mem), o = .inl (x4, x6, x8, σ) → G p l e rm_X11_commonDivisor s m args below meth c 11 D ca ad A 0 0 (MQ below (Ql D ca ad A r0 σ0) args s 0 0 A) σ 9 [none, none, none, none, some (.long (lI x4)), none, some (.long (lI x6)), none, some (.int (iI x8)), none, none] []) (he : ∀ (y4 : Int) (σ : Mem), o = .inr (y4, σ) → G p l e rm_X11_commonDivisor s m args below meth c 11 D ca ad A 0 0 (MQ below (Ql D ca ad A r0 σ0) args s 0 0 A) σ 44 [none, none, none, none, some (.long (lI y4)), none, none, none, none, none, none] []) {x4 x6 x8 : Int} {σ : Mem} (hf : f_X11_commonDivisor_9  x4 x6 x8 σ = some o) : G p l e rm_X11_commonDivisor s m args below meth c 11 D ca ad A 0 0 (MQ below (Ql D ca ad A r0 σ0) args s 0 0 A) σ 9 [none, none, none, none, some (.long (lI x4)), none, some (.long (lI x6)), none, some (.int (iI x8)), none, none] [] := by
  unfold f_X11_commonDivisor_9 at hf
  refine g_iload C dX11_commonDivisor_9 rfl ?_
  refine g_bipush C dX11_commonDivisor_11 (by decide) ?_
  refine g_icmp_ge (b' := 100) (tgt := 44) C dX11_commonDivisor_13 (by decide) rfl (by decide) (fun c1 => ?_) (fun c1 => ?_)
  · have hf := if_t c1 hf
    exact g_mask [false, false, false, false, true, false, false, false, false, false, false] (he _ _ (Option.some.inj hf).symm)
  · have hf := if_f c1 hf
    refine g_lload C dX11_commonDivisor_16 rfl ?_
    refine g_lconst (z := 0) C dX11_commonDivisor_18 (by decide) ?_
    refine g_lcmp_eq (b' := 0) (tgt := 44) C dX11_commonDivisor_19 dX11_commonDivisor_20 (by decide) rfl (by decide) (fun c2 => ?_) (fun c2 => ?_)
    · have hf := if_t c2 hf
      exact g_mask [false, false, false, false, true, false, false, false, false, false, false] (he _ _ (Option.some.inj hf).symm)
    · have hf := if_f c2 hf
      refine g_lload C dX11_commonDivisor_23 rfl ?_
      refine g_lload C dX11_commonDivisor_25 rfl ?_
      obtain ⟨hz3, hf⟩ := if_ninv hf
      refine g_lrem C dX11_commonDivisor_27 rfl rfl hz3 ?_
      refine g_lstore C dX11_commonDivisor_28 (by decide) rfl ?_
      refine g_lload C dX11_commonDivisor_30 rfl ?_
      refine g_lstore C dX11_commonDivisor_32 (by decide) rfl ?_
      refine g_lload C dX11_commonDivisor_34 rfl ?_
      refine g_lstore C dX11_commonDivisor_36 (by decide) rfl ?_
      refine g_iinc C dX11_commonDivisor_38 rfl (by decide) rfl ?_
      refine g_goto (tgt := 9) C dX11_commonDivisor_41 (by decide) ?_
      exact g_mask [false, false, false, false, true, false, true, false, true, false, false] (hc _ _ _ _ (Option.some.inj hf).symm)
set_option maxHeartbeats 4000000 in
set_option maxRecDepth 100000 in
theorem w_X11_commonDivisor_9 (C : Cx p s m args c cX11_commonDivisor 11 RX11 wsX11_commonDivisor D ca A) (hr : meth.sig.returnType = (some .long)) (hlk : meth.locks = false) {n : Nat} {x4 x6 x8 : Int} {σ : Mem} {b : (Int × Mem)} (h : itr (fun z : Int × Int × Int × Mem => f_X11_commonDivisor_9  z.1 z.2.1 z.2.2.1 z.2.2.2) n (x4, x6, x8, σ) = some b) (he : ∀ (y4 : Int) (σ : Mem), b = (y4, σ) → G p l e rm_X11_commonDivisor s m args below meth c 11 D ca ad A 0 0 (MQ below (Ql D ca ad A r0 σ0) args s 0 0 A) σ 44 [none, none, none, none, some (.long (lI y4)), none, none, none, none, none, none] []) : G p l e rm_X11_commonDivisor s m args below meth c 11 D ca ad A 0 0 (MQ below (Ql D ca ad A r0 σ0) args s 0 0 A) σ 9 [none, none, none, none, some (.long (lI x4)), none, some (.long (lI x6)), none, some (.int (iI x8)), none, none] [] :=
  itr_rule (P := fun z : Int × Int × Int × Mem => G p l e rm_X11_commonDivisor s m args below meth c 11 D ca ad A 0 0 (MQ below (Ql D ca ad A r0 σ0) args s 0 0 A) z.2.2.2 9 [none, none, none, none, some (.long (lI z.1)), none, some (.long (lI z.2.1)), none, some (.int (iI z.2.2.1)), none, none] []) (E := fun b => ∀ (y4 : Int) (σ : Mem), b = (y4, σ) → G p l e rm_X11_commonDivisor s m args below meth c 11 D ca ad A 0 0 (MQ below (Ql D ca ad A r0 σ0) args s 0 0 A) σ 44 [none, none, none, none, some (.long (lI y4)), none, none, none, none, none, none] []) (fun z o hb hc he => it_X11_commonDivisor_9 C hr hlk (fun _ _ _ _ e => hc _ e) (fun _ _ e => (he _ e) _ _ rfl) hb) n _ _ h he
set_option maxHeartbeats 4000000 in
set_option maxRecDepth 100000 in
theorem c_X11_commonDivisor {v0 v2 : Int} {σ : Mem} (hf : f_X11_commonDivisor v0 v2 σ = some (r0, σ0)) : CTl l D ca ad A yX11_commonDivisor wsX11_commonDivisor rm_X11_commonDivisor [.long (lI v0), .long (lI v2)] σ r0 σ0 := by
  refine ct_l (cc := cX11_commonDivisor) (own := RX11) (maxL := 11) (ret := (some .long)) (lv0 := [some (.long (lI v0)), none, some (.long (lI v2)), none, none, none, none, none, none, none, none]) (by decide) rfl rfl rfl (Nat.le_of_ble_eq_true rfl) ?_
  intro p e s m below meth c C hr hlk hnm
  unfold f_X11_commonDivisor at hf
  refine g_lload_n (i := 0) C dX11_commonDivisor_0 rfl rfl ?_
  refine g_lstore C dX11_commonDivisor_1 (by decide) rfl ?_
  refine g_lload_n (i := 2) C dX11_commonDivisor_3 rfl rfl ?_
  refine g_lstore C dX11_commonDivisor_4 (by decide) rfl ?_
  refine g_iconst C dX11_commonDivisor_6 ?_
  refine g_istore C dX11_commonDivisor_7 (by decide) rfl ?_
  obtain ⟨q5, hl6, hf⟩ := lb_inv hf
  refine g_mask [false, false, false, false, true, false, true, false, true, false, false] (w_X11_commonDivisor_9 C hr hlk hl6 ?_)
  · rintro y7 σ8 rfl
    refine g_lload C dX11_commonDivisor_44 rfl ?_
    obtain ⟨e1, e2⟩ := some_inv hf
    exact g_lret C hr hlk e1 e2 dX11_commonDivisor_46
/-! X11_inLeastTerms -/
abbrev rm_X11_inLeastTerms : Room := { frames := 1, cells := 0, slots := 0, locals := 30 }
set_option maxHeartbeats 4000000 in
set_option maxRecDepth 100000 in
theorem c_X11_inLeastTerms {v0 v2 v4 : Int} {σ : Mem} (hf : f_X11_inLeastTerms v0 v2 v4 σ = some (r0, σ0)) : CTl l D ca ad A yX11_inLeastTerms wsX11_inLeastTerms rm_X11_inLeastTerms [.long (lI v0), .long (lI v2), .int (iI v4)] σ r0 σ0 := by
  refine ct_l (cc := cX11_inLeastTerms) (own := RX11) (maxL := 7) (ret := (some .long)) (lv0 := [some (.long (lI v0)), none, some (.long (lI v2)), none, some (.int (iI v4)), none, none]) (by decide) rfl rfl rfl (Nat.le_of_ble_eq_true rfl) ?_
  intro p e s m below meth c C hr hlk hnm
  unfold f_X11_inLeastTerms at hf
  refine g_lload_n (i := 0) C dX11_inLeastTerms_0 rfl rfl ?_
  refine g_absl (i1 := 1) (i2 := 2) (i3 := 3) (i4 := 4) C rfl rfl rfl rfl (by decide) (Nat.le_of_ble_eq_true rfl) ⟨Nat.zero_le _, Nat.zero_le _⟩ dX11_inLeastTerms_1 ?_
  refine g_lload_n (i := 2) C dX11_inLeastTerms_4 rfl rfl ?_
  refine g_absl (i1 := 1) (i2 := 2) (i3 := 3) (i4 := 4) C rfl rfl rfl rfl (by decide) (Nat.le_of_ble_eq_true rfl) ⟨Nat.zero_le _, Nat.zero_le _⟩ dX11_inLeastTerms_5 ?_
  obtain ⟨r2, σ1, h3, hf⟩ := ob_inv hf
  refine g_callSl C (c_X11_commonDivisor  h3) (va_cwS 2 C.2.2.2.2.1 gX11_inLeastTerms_X11_commonDivisor rfl rfl rfl (by decide +kernel) ⟨Nat.le_of_ble_eq_true rfl, Nat.le_of_ble_eq_true rfl⟩) rfl rfl (Nat.le_of_ble_eq_true rfl) dX11_inLeastTerms_8 ⟨Nat.zero_le _, Nat.zero_le _⟩ ?_
  refine g_lstore C dX11_inLeastTerms_11 (by decide) rfl ?_
  refine g_lload C dX11_inLeastTerms_13 rfl ?_
  refine g_lconst (z := 0) C dX11_inLeastTerms_15 (by decide) ?_
  refine g_lcmp_ne (b' := 0) (tgt := 24) C dX11_inLeastTerms_16 dX11_inLeastTerms_17 (by decide) rfl (by decide) (fun c4 => ?_) (fun c4 => ?_)
  · have hf := if_f c4 hf
    refine g_iload C dX11_inLeastTerms_24 rfl ?_
    refine g_if_ne (tgt := 33) C dX11_inLeastTerms_26 (by decide) rfl (fun c5 => ?_) (fun c5 => ?_)
    · have hf := if_f c5 hf
      refine g_lload_n (i := 2) C dX11_inLeastTerms_33 rfl rfl ?_
      refine g_lload C dX11_inLeastTerms_34 rfl ?_
      obtain ⟨hz6, hf⟩ := if_ninv hf
      refine g_ldiv C dX11_inLeastTerms_36 rfl rfl hz6 ?_
      obtain ⟨e1, e2⟩ := some_inv hf
      exact g_lret C hr hlk e1 e2 dX11_inLeastTerms_37
    · have hf := if_t c5 hf
      refine g_lload_n (i := 0) C dX11_inLeastTerms_29 rfl rfl ?_
      refine g_goto (tgt := 34) C dX11_inLeastTerms_30 (by decide) ?_
      refine g_lload C dX11_inLeastTerms_34 rfl ?_
      obtain ⟨hz7, hf⟩ := if_ninv hf
      refine g_ldiv C dX11_inLeastTerms_36 rfl rfl hz7 ?_
      obtain ⟨e1, e2⟩ := some_inv hf
      exact g_lret C hr hlk e1 e2 dX11_inLeastTerms_37
  · have hf := if_t c4 hf
    refine g_ldc2 (i := 5) (z := -4611686018427387904) C dX11_inLeastTerms_20 rfl (by decide) ?_
    obtain ⟨e1, e2⟩ := some_inv hf
    exact g_lret C hr hlk e1 e2 dX11_inLeastTerms_23
/-! X11_pay -/
abbrev rm_X11_pay : Room := { frames := 4, cells := 0, slots := 0, locals := 80 }
theorem hiX11_pay_X11 : ∀ w ∈ u_ws RX11 TX11 8, w ∈ wsX11_pay := fun _ h => (List.mem_cons_of_mem _ (List.mem_append_left _ (List.mem_append_left _ (List.mem_append_right _ h))))
theorem hiX11_pay_X7 : ∀ w ∈ u_ws RX7 TX7 14, w ∈ wsX11_pay := fun _ h => (List.mem_cons_of_mem _ (List.mem_append_left _ (List.mem_append_right _ h)))
set_option maxHeartbeats 4000000 in
set_option maxRecDepth 100000 in
theorem c_X11_pay {v1 v2 v3 : Int} {σ : Mem} (hf : f_X11_pay v1 v2 v3 σ = some (r0, σ0)) : CTl l D ca ad A yX11_pay wsX11_pay rm_X11_pay [.ref (ad 0), .int (iI v1), .int (iI v2), .int (iI v3)] σ r0 σ0 := by
  refine ct_l (cc := cX11_pay) (own := RX11) (maxL := 4) (ret := (some .long)) (lv0 := [some (.ref (ad 0)), some (.int (iI v1)), some (.int (iI v2)), some (.int (iI v3))]) (by decide) rfl rfl rfl (Nat.le_of_ble_eq_true rfl) ?_
  intro p e s m below meth c C hr hlk hnm
  unfold f_X11_pay at hf
  refine g_aload_n (i := 0) C dX11_pay_0 rfl rfl ?_
  refine gg_X11_hasMarket (i := 1) C hiX11_pay_X11 rfl dX11_pay_1 ?_
  refine g_if_eq (tgt := 36) C dX11_pay_4 (by decide) rfl (fun c1 => ?_) (fun c1 => ?_)
  · have hf := if_t c1 hf
    refine g_ldc2 (i := 3) (z := -4611686018427387904) C dX11_pay_36 rfl (by decide) ?_
    obtain ⟨e1, e2⟩ := some_inv hf
    exact g_lret C hr hlk e1 e2 dX11_pay_39
  · have hf := if_f c1 hf
    refine g_aload_n (i := 0) C dX11_pay_7 rfl rfl ?_
    refine gg_X11_fair (i := 2) C hiX11_pay_X11 rfl dX11_pay_8 ?_
    refine g_iload_n (i := 1) C dX11_pay_11 rfl rfl ?_
    obtain ⟨r3, σ2, h4, hf⟩ := ob_inv hf
    refine g_callVi C (c_X4_hasFit (by decide) h4) (cwV 1 C.2.2.2.2.1 gX11_pay_X4_hasFit rfl rfl rfl (by decide +kernel) ⟨Nat.le_of_ble_eq_true rfl, Nat.le_of_ble_eq_true rfl⟩) (ob_X4 (by decide)) rfl rfl rfl rfl (Nat.le_of_ble_eq_true rfl) dX11_pay_12 ⟨Nat.zero_le _, Nat.zero_le _⟩ ?_
    refine g_if_eq (tgt := 36) C dX11_pay_15 (by decide) rfl (fun c5 => ?_) (fun c5 => ?_)
    · have hf := if_t c5 hf
      refine g_ldc2 (i := 3) (z := -4611686018427387904) C dX11_pay_36 rfl (by decide) ?_
      obtain ⟨e1, e2⟩ := some_inv hf
      exact g_lret C hr hlk e1 e2 dX11_pay_39
    · have hf := if_f c5 hf
      refine g_aload_n (i := 0) C dX11_pay_18 rfl rfl ?_
      refine gg_X11_fair (i := 2) C hiX11_pay_X11 rfl dX11_pay_19 ?_
      refine g_iload_n (i := 2) C dX11_pay_22 rfl rfl ?_
      obtain ⟨r7, σ6, h8, hf⟩ := ob_inv hf
      refine g_callVi C (c_X4_hasMark (by decide) h8) (cwV 1 C.2.2.2.2.1 gX11_pay_X4_hasMark rfl rfl rfl (by decide +kernel) ⟨Nat.le_of_ble_eq_true rfl, Nat.le_of_ble_eq_true rfl⟩) (ob_X4 (by decide)) rfl rfl rfl rfl (Nat.le_of_ble_eq_true rfl) dX11_pay_23 ⟨Nat.zero_le _, Nat.zero_le _⟩ ?_
      refine g_if_eq (tgt := 36) C dX11_pay_26 (by decide) rfl (fun c9 => ?_) (fun c9 => ?_)
      · have hf := if_t c9 hf
        refine g_ldc2 (i := 3) (z := -4611686018427387904) C dX11_pay_36 rfl (by decide) ?_
        obtain ⟨e1, e2⟩ := some_inv hf
        exact g_lret C hr hlk e1 e2 dX11_pay_39
      · have hf := if_f c9 hf
        refine g_iload_n (i := 3) C dX11_pay_29 rfl rfl ?_
        obtain ⟨r11, σ10, h12, hf⟩ := ob_inv hf
        refine g_callSi C (c_X11_isBit  h12) (va_cwS 1 C.2.2.2.2.1 gX11_pay_X11_isBit rfl rfl rfl (by decide +kernel) ⟨Nat.le_of_ble_eq_true rfl, Nat.le_of_ble_eq_true rfl⟩) rfl rfl (Nat.le_of_ble_eq_true rfl) dX11_pay_30 ⟨Nat.zero_le _, Nat.zero_le _⟩ ?_
        refine g_if_ne (tgt := 40) C dX11_pay_33 (by decide) rfl (fun c13 => ?_) (fun c13 => ?_)
        · have hf := if_f c13 hf
          refine g_aload_n (i := 0) C dX11_pay_40 rfl rfl ?_
          refine gg_X11_scales (i := 4) C hiX11_pay_X11 rfl dX11_pay_41 ?_
          refine g_iload_n (i := 1) C dX11_pay_44 rfl rfl ?_
          obtain ⟨r15, σ14, h16, hf⟩ := ob_inv hf
          refine g_callVv C (c_X7_weigh  h16) (cwV 1 C.2.2.2.2.1 gX11_pay_X7_weigh rfl rfl rfl (by decide +kernel) ⟨Nat.le_of_ble_eq_true rfl, Nat.le_of_ble_eq_true rfl⟩) ob_X7 rfl rfl rfl rfl (Nat.le_of_ble_eq_true rfl) dX11_pay_45 ⟨Nat.zero_le _, Nat.zero_le _⟩ ?_
          refine g_aload_n (i := 0) C dX11_pay_48 rfl rfl ?_
          refine gg_X11_scales (i := 4) C hiX11_pay_X11 rfl dX11_pay_49 ?_
          refine gg_X7_payTop (i := 5) C hiX11_pay_X7 rfl dX11_pay_52 ?_
          refine g_iload_n (i := 2) C dX11_pay_55 rfl rfl ?_
          obtain ⟨hb17, hf⟩ := if_inv hf
          refine g_laload (N := 4) C (by decide) dX11_pay_56 rfl hb17 ?_
          refine g_aload_n (i := 0) C dX11_pay_57 rfl rfl ?_
          refine gg_X11_scales (i := 4) C hiX11_pay_X11 rfl dX11_pay_58 ?_
          refine gg_X7_payUnder (i := 6) C hiX11_pay_X7 rfl dX11_pay_61 ?_
          refine g_iload_n (i := 2) C dX11_pay_64 rfl rfl ?_
          refine g_laload (N := 4) C (by decide) dX11_pay_65 rfl hb17 ?_
          refine g_iload_n (i := 3) C dX11_pay_66 rfl rfl ?_
          obtain ⟨r19, σ18, h20, hf⟩ := ob_inv hf
          refine g_callSl C (c_X11_inLeastTerms  h20) (va_cwS 3 C.2.2.2.2.1 gX11_pay_X11_inLeastTerms rfl rfl rfl (by decide +kernel) ⟨Nat.le_of_ble_eq_true rfl, Nat.le_of_ble_eq_true rfl⟩) rfl rfl (Nat.le_of_ble_eq_true rfl) dX11_pay_67 ⟨Nat.zero_le _, Nat.zero_le _⟩ ?_
          obtain ⟨e1, e2⟩ := some_inv hf
          exact g_lret C hr hlk e1 e2 dX11_pay_70
        · have hf := if_t c13 hf
          refine g_ldc2 (i := 3) (z := -4611686018427387904) C dX11_pay_36 rfl (by decide) ?_
          obtain ⟨e1, e2⟩ := some_inv hf
          exact g_lret C hr hlk e1 e2 dX11_pay_39
/-! X11_gets -/
abbrev rm_X11_gets : Room := { frames := 4, cells := 0, slots := 0, locals := 80 }
theorem hiX11_gets_X11 : ∀ w ∈ u_ws RX11 TX11 8, w ∈ wsX11_gets := fun _ h => (List.mem_cons_of_mem _ (List.mem_append_left _ (List.mem_append_left _ (List.mem_append_right _ h))))
set_option maxHeartbeats 4000000 in
set_option maxRecDepth 100000 in
theorem c_X11_gets {v1 v2 v3 : Int} {σ : Mem} (hf : f_X11_gets v1 v2 v3 σ = some (r0, σ0)) : CTl l D ca ad A yX11_gets wsX11_gets rm_X11_gets [.ref (ad 0), .int (iI v1), .int (iI v2), .int (iI v3)] σ r0 σ0 := by
  refine ct_l (cc := cX11_gets) (own := RX11) (maxL := 4) (ret := (some .long)) (lv0 := [some (.ref (ad 0)), some (.int (iI v1)), some (.int (iI v2)), some (.int (iI v3))]) (by decide) rfl rfl rfl (Nat.le_of_ble_eq_true rfl) ?_
  intro p e s m below meth c C hr hlk hnm
  unfold f_X11_gets at hf
  refine g_aload_n (i := 0) C dX11_gets_0 rfl rfl ?_
  refine gg_X11_hasMarket (i := 1) C hiX11_gets_X11 rfl dX11_gets_1 ?_
  refine g_if_eq (tgt := 36) C dX11_gets_4 (by decide) rfl (fun c1 => ?_) (fun c1 => ?_)
  · have hf := if_t c1 hf
    refine g_ldc2 (i := 3) (z := -4611686018427387904) C dX11_gets_36 rfl (by decide) ?_
    obtain ⟨e1, e2⟩ := some_inv hf
    exact g_lret C hr hlk e1 e2 dX11_gets_39
  · have hf := if_f c1 hf
    refine g_aload_n (i := 0) C dX11_gets_7 rfl rfl ?_
    refine gg_X11_fair (i := 2) C hiX11_gets_X11 rfl dX11_gets_8 ?_
    refine g_iload_n (i := 1) C dX11_gets_11 rfl rfl ?_
    obtain ⟨r3, σ2, h4, hf⟩ := ob_inv hf
    refine g_callVi C (c_X4_hasFit (by decide) h4) (cwV 1 C.2.2.2.2.1 gX11_gets_X4_hasFit rfl rfl rfl (by decide +kernel) ⟨Nat.le_of_ble_eq_true rfl, Nat.le_of_ble_eq_true rfl⟩) (ob_X4 (by decide)) rfl rfl rfl rfl (Nat.le_of_ble_eq_true rfl) dX11_gets_12 ⟨Nat.zero_le _, Nat.zero_le _⟩ ?_
    refine g_if_eq (tgt := 36) C dX11_gets_15 (by decide) rfl (fun c5 => ?_) (fun c5 => ?_)
    · have hf := if_t c5 hf
      refine g_ldc2 (i := 3) (z := -4611686018427387904) C dX11_gets_36 rfl (by decide) ?_
      obtain ⟨e1, e2⟩ := some_inv hf
      exact g_lret C hr hlk e1 e2 dX11_gets_39
    · have hf := if_f c5 hf
      refine g_aload_n (i := 0) C dX11_gets_18 rfl rfl ?_
      refine gg_X11_fair (i := 2) C hiX11_gets_X11 rfl dX11_gets_19 ?_
      refine g_iload_n (i := 2) C dX11_gets_22 rfl rfl ?_
      obtain ⟨r7, σ6, h8, hf⟩ := ob_inv hf
      refine g_callVi C (c_X4_hasSort (by decide) h8) (cwV 1 C.2.2.2.2.1 gX11_gets_X4_hasSort rfl rfl rfl (by decide +kernel) ⟨Nat.le_of_ble_eq_true rfl, Nat.le_of_ble_eq_true rfl⟩) (ob_X4 (by decide)) rfl rfl rfl rfl (Nat.le_of_ble_eq_true rfl) dX11_gets_23 ⟨Nat.zero_le _, Nat.zero_le _⟩ ?_
      refine g_if_eq (tgt := 36) C dX11_gets_26 (by decide) rfl (fun c9 => ?_) (fun c9 => ?_)
      · have hf := if_t c9 hf
        refine g_ldc2 (i := 3) (z := -4611686018427387904) C dX11_gets_36 rfl (by decide) ?_
        obtain ⟨e1, e2⟩ := some_inv hf
        exact g_lret C hr hlk e1 e2 dX11_gets_39
      · have hf := if_f c9 hf
        refine g_iload_n (i := 3) C dX11_gets_29 rfl rfl ?_
        obtain ⟨r11, σ10, h12, hf⟩ := ob_inv hf
        refine g_callSi C (c_X11_isBit  h12) (va_cwS 1 C.2.2.2.2.1 gX11_gets_X11_isBit rfl rfl rfl (by decide +kernel) ⟨Nat.le_of_ble_eq_true rfl, Nat.le_of_ble_eq_true rfl⟩) rfl rfl (Nat.le_of_ble_eq_true rfl) dX11_gets_30 ⟨Nat.zero_le _, Nat.zero_le _⟩ ?_
        refine g_if_ne (tgt := 40) C dX11_gets_33 (by decide) rfl (fun c13 => ?_) (fun c13 => ?_)
        · have hf := if_f c13 hf
          refine g_aload_n (i := 0) C dX11_gets_40 rfl rfl ?_
          refine gg_X11_scales (i := 4) C hiX11_gets_X11 rfl dX11_gets_41 ?_
          refine g_iload_n (i := 1) C dX11_gets_44 rfl rfl ?_
          obtain ⟨r15, σ14, h16, hf⟩ := ob_inv hf
          refine g_callVv C (c_X7_weigh  h16) (cwV 1 C.2.2.2.2.1 gX11_gets_X7_weigh rfl rfl rfl (by decide +kernel) ⟨Nat.le_of_ble_eq_true rfl, Nat.le_of_ble_eq_true rfl⟩) ob_X7 rfl rfl rfl rfl (Nat.le_of_ble_eq_true rfl) dX11_gets_45 ⟨Nat.zero_le _, Nat.zero_le _⟩ ?_
          refine g_aload_n (i := 0) C dX11_gets_48 rfl rfl ?_
          refine gg_X11_scales (i := 4) C hiX11_gets_X11 rfl dX11_gets_49 ?_
          refine g_iload_n (i := 2) C dX11_gets_52 rfl rfl ?_
          obtain ⟨r18, σ17, h19, hf⟩ := ob_inv hf
          refine g_callVl C (c_X7_ownTop  h19) (cwV 1 C.2.2.2.2.1 gX11_gets_X7_ownTop rfl rfl rfl (by decide +kernel) ⟨Nat.le_of_ble_eq_true rfl, Nat.le_of_ble_eq_true rfl⟩) ob_X7 rfl rfl rfl rfl (Nat.le_of_ble_eq_true rfl) dX11_gets_53 ⟨Nat.zero_le _, Nat.zero_le _⟩ ?_
          refine g_aload_n (i := 0) C dX11_gets_56 rfl rfl ?_
          refine gg_X11_scales (i := 4) C hiX11_gets_X11 rfl dX11_gets_57 ?_
          refine g_iload_n (i := 2) C dX11_gets_60 rfl rfl ?_
          obtain ⟨r21, σ20, h22, hf⟩ := ob_inv hf
          refine g_callVl C (c_X7_ownUnder  h22) (cwV 1 C.2.2.2.2.1 gX11_gets_X7_ownUnder rfl rfl rfl (by decide +kernel) ⟨Nat.le_of_ble_eq_true rfl, Nat.le_of_ble_eq_true rfl⟩) ob_X7 rfl rfl rfl rfl (Nat.le_of_ble_eq_true rfl) dX11_gets_61 ⟨Nat.zero_le _, Nat.zero_le _⟩ ?_
          refine g_iload_n (i := 3) C dX11_gets_64 rfl rfl ?_
          obtain ⟨r24, σ23, h25, hf⟩ := ob_inv hf
          refine g_callSl C (c_X11_inLeastTerms  h25) (va_cwS 3 C.2.2.2.2.1 gX11_gets_X11_inLeastTerms rfl rfl rfl (by decide +kernel) ⟨Nat.le_of_ble_eq_true rfl, Nat.le_of_ble_eq_true rfl⟩) rfl rfl (Nat.le_of_ble_eq_true rfl) dX11_gets_65 ⟨Nat.zero_le _, Nat.zero_le _⟩ ?_
          obtain ⟨e1, e2⟩ := some_inv hf
          exact g_lret C hr hlk e1 e2 dX11_gets_68
        · have hf := if_t c13 hf
          refine g_ldc2 (i := 3) (z := -4611686018427387904) C dX11_gets_36 rfl (by decide) ?_
          obtain ⟨e1, e2⟩ := some_inv hf
          exact g_lret C hr hlk e1 e2 dX11_gets_39
/-! X11_fitFault -/
abbrev rm_X11_fitFault : Room := { frames := 1, cells := 0, slots := 0, locals := 24 }
theorem hiX11_fitFault_X11 : ∀ w ∈ u_ws RX11 TX11 8, w ∈ wsX11_fitFault := fun _ h => (List.mem_cons_of_mem _ (List.mem_append_left _ (List.mem_append_right _ h)))
set_option maxHeartbeats 4000000 in
set_option maxRecDepth 100000 in
theorem c_X11_fitFault {v1 : Int} {σ : Mem} (hf : f_X11_fitFault v1 σ = some (r0, σ0)) : CTi l D ca ad A yX11_fitFault wsX11_fitFault rm_X11_fitFault [.ref (ad 0), .int (iI v1)] σ r0 σ0 := by
  refine ct_i (cc := cX11_fitFault) (own := RX11) (maxL := 2) (ret := (some .int)) (lv0 := [some (.ref (ad 0)), some (.int (iI v1))]) (by decide) rfl rfl rfl (Nat.le_of_ble_eq_true rfl) ?_
  intro p e s m below meth c C hr hlk hnm
  unfold f_X11_fitFault at hf
  refine g_aload_n (i := 0) C dX11_fitFault_0 rfl rfl ?_
  refine gg_X11_hasMarket (i := 1) C hiX11_fitFault_X11 rfl dX11_fitFault_1 ?_
  refine g_if_ne (tgt := 10) C dX11_fitFault_4 (by decide) rfl (fun c1 => ?_) (fun c1 => ?_)
  · have hf := if_f c1 hf
    refine g_aload_n (i := 0) C dX11_fitFault_10 rfl rfl ?_
    refine gg_X11_fair (i := 2) C hiX11_fitFault_X11 rfl dX11_fitFault_11 ?_
    refine g_iload_n (i := 1) C dX11_fitFault_14 rfl rfl ?_
    obtain ⟨r3, σ2, h4, hf⟩ := ob_inv hf
    refine g_callVi C (c_X4_hasFit (by decide) h4) (cwV 1 C.2.2.2.2.1 gX11_fitFault_X4_hasFit rfl rfl rfl (by decide +kernel) ⟨Nat.le_of_ble_eq_true rfl, Nat.le_of_ble_eq_true rfl⟩) (ob_X4 (by decide)) rfl rfl rfl rfl (Nat.le_of_ble_eq_true rfl) dX11_fitFault_15 ⟨Nat.zero_le _, Nat.zero_le _⟩ ?_
    refine g_if_eq (tgt := 25) C dX11_fitFault_18 (by decide) rfl (fun c5 => ?_) (fun c5 => ?_)
    · have hf := if_t c5 hf
      refine g_iconst C dX11_fitFault_25 ?_
      obtain ⟨e1, e2⟩ := some_inv hf
      exact g_iret C hr hlk e1 e2 dX11_fitFault_26
    · have hf := if_f c5 hf
      refine g_iconst C dX11_fitFault_21 ?_
      refine g_goto (tgt := 26) C dX11_fitFault_22 (by decide) ?_
      obtain ⟨e1, e2⟩ := some_inv hf
      exact g_iret C hr hlk e1 e2 dX11_fitFault_26
  · have hf := if_t c1 hf
    refine g_bipush C dX11_fitFault_7 (by decide) ?_
    obtain ⟨e1, e2⟩ := some_inv hf
    exact g_iret C hr hlk e1 e2 dX11_fitFault_9
/-! X11_rather -/
abbrev rm_X11_rather : Room := { frames := 4, cells := 0, slots := 0, locals := 80 }
theorem hiX11_rather_X11 : ∀ w ∈ u_ws RX11 TX11 8, w ∈ wsX11_rather := fun _ h => (List.mem_cons_of_mem _ (List.mem_append_left _ (List.mem_append_left _ (List.mem_append_right _ h))))
set_option maxHeartbeats 4000000 in
set_option maxRecDepth 100000 in
theorem c_X11_rather {v1 : Int} {σ : Mem} (hf : f_X11_rather v1 σ = some (r0, σ0)) : CTi l D ca ad A yX11_rather wsX11_rather rm_X11_rather [.ref (ad 0), .int (iI v1)] σ r0 σ0 := by
  refine ct_i (cc := cX11_rather) (own := RX11) (maxL := 3) (ret := (some .int)) (lv0 := [some (.ref (ad 0)), some (.int (iI v1)), none]) (by decide) rfl rfl rfl (Nat.le_of_ble_eq_true rfl) ?_
  intro p e s m below meth c C hr hlk hnm
  unfold f_X11_rather at hf
  refine g_aload_n (i := 0) C dX11_rather_0 rfl rfl ?_
  refine g_iload_n (i := 1) C dX11_rather_1 rfl rfl ?_
  obtain ⟨r2, σ1, h3, hf⟩ := ob_inv hf
  refine g_callVi C (c_X11_fitFault  h3) (cwV 1 C.2.2.2.2.1 gX11_rather_X11_fitFault rfl rfl rfl (by decide +kernel) ⟨Nat.le_of_ble_eq_true rfl, Nat.le_of_ble_eq_true rfl⟩) ob_X11 rfl rfl rfl rfl (Nat.le_of_ble_eq_true rfl) dX11_rather_2 ⟨Nat.zero_le _, Nat.zero_le _⟩ ?_
  refine g_istore_n (i := 2) C dX11_rather_5 rfl (by decide) rfl ?_
  refine g_iload_n (i := 2) C dX11_rather_6 rfl rfl ?_
  refine g_if_eq (tgt := 12) C dX11_rather_7 (by decide) rfl (fun c4 => ?_) (fun c4 => ?_)
  · have hf := if_t c4 hf
    refine g_aload_n (i := 0) C dX11_rather_12 rfl rfl ?_
    refine gg_X11_scales (i := 1) C hiX11_rather_X11 rfl dX11_rather_13 ?_
    refine g_iload_n (i := 1) C dX11_rather_16 rfl rfl ?_
    obtain ⟨r6, σ5, h7, hf⟩ := ob_inv hf
    refine g_callVv C (c_X7_weigh  h7) (cwV 1 C.2.2.2.2.1 gX11_rather_X7_weigh rfl rfl rfl (by decide +kernel) ⟨Nat.le_of_ble_eq_true rfl, Nat.le_of_ble_eq_true rfl⟩) ob_X7 rfl rfl rfl rfl (Nat.le_of_ble_eq_true rfl) dX11_rather_17 ⟨Nat.zero_le _, Nat.zero_le _⟩ ?_
    refine g_aload_n (i := 0) C dX11_rather_20 rfl rfl ?_
    refine gg_X11_scales (i := 1) C hiX11_rather_X11 rfl dX11_rather_21 ?_
    obtain ⟨r9, σ8, h10, hf⟩ := ob_inv hf
    refine g_callVi C (c_X7_firstRather  h10) (cwV 0 C.2.2.2.2.1 gX11_rather_X7_firstRather rfl rfl rfl (by decide +kernel) ⟨Nat.le_of_ble_eq_true rfl, Nat.le_of_ble_eq_true rfl⟩) ob_X7 rfl rfl rfl rfl (Nat.le_of_ble_eq_true rfl) dX11_rather_24 ⟨Nat.zero_le _, Nat.zero_le _⟩ ?_
    obtain ⟨e1, e2⟩ := some_inv hf
    exact g_iret C hr hlk e1 e2 dX11_rather_27
  · have hf := if_f c4 hf
    refine g_iload_n (i := 2) C dX11_rather_10 rfl rfl ?_
    obtain ⟨e1, e2⟩ := some_inv hf
    exact g_iret C hr hlk e1 e2 dX11_rather_11
/-! X11_isSureFit -/
abbrev rm_X11_isSureFit : Room := { frames := 4, cells := 0, slots := 0, locals := 97 }
theorem hiX11_isSureFit_X11 : ∀ w ∈ u_ws RX11 TX11 8, w ∈ wsX11_isSureFit := fun _ h => (List.mem_cons_of_mem _ (List.mem_append_left _ (List.mem_append_left _ (List.mem_append_right _ h))))
set_option maxHeartbeats 4000000 in
set_option maxRecDepth 100000 in
theorem c_X11_isSureFit {v1 : Int} {σ : Mem} (hf : f_X11_isSureFit v1 σ = some (r0, σ0)) : CTi l D ca ad A yX11_isSureFit wsX11_isSureFit rm_X11_isSureFit [.ref (ad 0), .int (iI v1)] σ r0 σ0 := by
  refine ct_i (cc := cX11_isSureFit) (own := RX11) (maxL := 2) (ret := (some .boolean)) (lv0 := [some (.ref (ad 0)), some (.int (iI v1))]) (by decide) rfl rfl rfl (Nat.le_of_ble_eq_true rfl) ?_
  intro p e s m below meth c C hr hlk hnm
  unfold f_X11_isSureFit at hf
  refine g_aload_n (i := 0) C dX11_isSureFit_0 rfl rfl ?_
  refine gg_X11_fair (i := 1) C hiX11_isSureFit_X11 rfl dX11_isSureFit_1 ?_
  refine g_iload_n (i := 1) C dX11_isSureFit_4 rfl rfl ?_
  obtain ⟨r2, σ1, h3, hf⟩ := ob_inv hf
  refine g_callVi C (c_X4_hasFit (by decide) h3) (cwV 1 C.2.2.2.2.1 gX11_isSureFit_X4_hasFit rfl rfl rfl (by decide +kernel) ⟨Nat.le_of_ble_eq_true rfl, Nat.le_of_ble_eq_true rfl⟩) (ob_X4 (by decide)) rfl rfl rfl rfl (Nat.le_of_ble_eq_true rfl) dX11_isSureFit_5 ⟨Nat.zero_le _, Nat.zero_le _⟩ ?_
  refine g_if_ne (tgt := 13) C dX11_isSureFit_8 (by decide) rfl (fun c4 => ?_) (fun c4 => ?_)
  · have hf := if_f c4 hf
    refine g_aload_n (i := 0) C dX11_isSureFit_13 rfl rfl ?_
    refine gg_X11_scales (i := 2) C hiX11_isSureFit_X11 rfl dX11_isSureFit_14 ?_
    refine g_iload_n (i := 1) C dX11_isSureFit_17 rfl rfl ?_
    obtain ⟨r6, σ5, h7, hf⟩ := ob_inv hf
    refine g_callVv C (c_X7_weigh  h7) (cwV 1 C.2.2.2.2.1 gX11_isSureFit_X7_weigh rfl rfl rfl (by decide +kernel) ⟨Nat.le_of_ble_eq_true rfl, Nat.le_of_ble_eq_true rfl⟩) ob_X7 rfl rfl rfl rfl (Nat.le_of_ble_eq_true rfl) dX11_isSureFit_18 ⟨Nat.zero_le _, Nat.zero_le _⟩ ?_
    refine g_aload_n (i := 0) C dX11_isSureFit_21 rfl rfl ?_
    refine gg_X11_scales (i := 2) C hiX11_isSureFit_X11 rfl dX11_isSureFit_22 ?_
    obtain ⟨r9, σ8, h10, hf⟩ := ob_inv hf
    refine g_callVi C (c_X7_isSure  h10) (cwV 0 C.2.2.2.2.1 gX11_isSureFit_X7_isSure rfl rfl rfl (by decide +kernel) ⟨Nat.le_of_ble_eq_true rfl, Nat.le_of_ble_eq_true rfl⟩) ob_X7 rfl rfl rfl rfl (Nat.le_of_ble_eq_true rfl) dX11_isSureFit_25 ⟨Nat.zero_le _, Nat.zero_le _⟩ ?_
    obtain ⟨hz11, hf⟩ := if_inv hf
    obtain ⟨e1, e2⟩ := some_inv hf
    exact g_zret C hr hlk hz11 e1 e2 dX11_isSureFit_28
  · have hf := if_t c4 hf
    refine g_iconst C dX11_isSureFit_11 ?_
    obtain ⟨e1, e2⟩ := some_inv hf
    exact g_zret C hr hlk (by decide) e1 e2 dX11_isSureFit_12
/-! X11_next -/
abbrev rm_X11_next : Room := { frames := 5, cells := 0, slots := 0, locals := 118 }
theorem hiX11_next_X11 : ∀ w ∈ u_ws RX11 TX11 8, w ∈ wsX11_next := fun _ h => (List.mem_cons_of_mem _ (List.mem_append_left _ (List.mem_append_left _ (List.mem_append_right _ h))))
set_option maxHeartbeats 4000000 in
set_option maxRecDepth 100000 in
theorem it_X11_next_37 (C : Cx p s m args c cX11_next 4 RX11 wsX11_next D ca A) (hr : meth.sig.returnType = (some .int)) (hlk : meth.locks = false) {p2 : Int} {o : (Int × Mem) ⊕ ((Int × Mem) ⊕ (Mem))} (hc : ∀ (x3 : Int) (σ : Mem), o = .inl (x3, σ) → G p l e rm_X11_next s m args below meth c 4 D ca ad A 0 0 (MQ below (Qi D ca ad A r0 σ0) args s 0 0 A) σ 37 [some (.ref (ad 0)), none, some (.int (iI p2)), some (.int (iI x3))] []) (he1 : ∀ (r1 : Int) (σ1 : Mem), o = .inr (.inl (r1, σ1)) → r1 = r0 ∧ σ1 = σ0) (he2 : ∀ (σ : Mem), o = .inr (.inr σ) → G p l e rm_X11_next s m args below meth c 4 D ca ad A 0 0 (MQ below (Qi D ca ad A r0 σ0) args s 0 0 A) σ 58 [none, none, none, none] []) {x3 : Int} {σ : Mem} (hf : f_X11_next_37 p2 x3 σ = some o) : G p l e rm_X11_next s m args below meth c 4 D ca ad A 0 0 (MQ below (Qi D ca ad A r0 σ0) args s 0 0 A) σ 37 [some (.ref (ad 0)), none, some (.int (iI p2)), some (.int (iI x3))] [] := by
  unfold f_X11_next_37 at hf
  refine g_iload_n (i := 3) C dX11_next_37 rfl rfl ?_
  refine g_iload_n (i := 2) C dX11_next_38 rfl rfl ?_
  refine g_icmp_ge (tgt := 58) C dX11_next_39 (by decide) rfl rfl (fun c12 => ?_) (fun c12 => ?_)
  · have hf := if_t c12 hf
    exact g_mask [false, false, false, false] (he2 _ (Option.some.inj hf).symm)
  · have hf := if_f c12 hf
    refine g_aload_n (i := 0) C dX11_next_42 rfl rfl ?_
    refine g_iload_n (i := 3) C dX11_next_43 rfl rfl ?_
    obtain ⟨r14, σ13, h15, hf⟩ := ob_inv hf
    refine g_callVi C (c_X11_isSureFit  h15) (cwV 1 C.2.2.2.2.1 gX11_next_X11_isSureFit rfl rfl rfl (by decide +kernel) ⟨Nat.le_of_ble_eq_true rfl, Nat.le_of_ble_eq_true rfl⟩) ob_X11 rfl rfl rfl rfl (Nat.le_of_ble_eq_true rfl) dX11_next_44 ⟨Nat.zero_le _, Nat.zero_le _⟩ ?_
    refine g_if_eq (tgt := 52) C dX11_next_47 (by decide) rfl (fun c16 => ?_) (fun c16 => ?_)
    · have hf := if_t c16 hf
      refine g_iinc C dX11_next_52 rfl (by decide) rfl ?_
      refine g_goto (tgt := 37) C dX11_next_55 (by decide) ?_
      exact g_mask [true, false, true, true] (hc _ _ (Option.some.inj hf).symm)
    · have hf := if_f c16 hf
      refine g_iload_n (i := 3) C dX11_next_50 rfl rfl ?_
      obtain ⟨e1, e2⟩ := he1 _ _ (Option.some.inj hf).symm
      exact g_iret C hr hlk e1 e2 dX11_next_51
set_option maxHeartbeats 4000000 in
set_option maxRecDepth 100000 in
theorem w_X11_next_37 (C : Cx p s m args c cX11_next 4 RX11 wsX11_next D ca A) (hr : meth.sig.returnType = (some .int)) (hlk : meth.locks = false) {p2 : Int} {n : Nat} {x3 : Int} {σ : Mem} {b : ((Int × Mem) ⊕ (Mem))} (h : itr (fun z : Int × Mem => f_X11_next_37 p2 z.1 z.2) n (x3, σ) = some b) (he1 : ∀ (r1 : Int) (σ1 : Mem), b = .inl (r1, σ1) → r1 = r0 ∧ σ1 = σ0) (he2 : ∀ (σ : Mem), b = .inr σ → G p l e rm_X11_next s m args below meth c 4 D ca ad A 0 0 (MQ below (Qi D ca ad A r0 σ0) args s 0 0 A) σ 58 [none, none, none, none] []) : G p l e rm_X11_next s m args below meth c 4 D ca ad A 0 0 (MQ below (Qi D ca ad A r0 σ0) args s 0 0 A) σ 37 [some (.ref (ad 0)), none, some (.int (iI p2)), some (.int (iI x3))] [] :=
  itr_rule (P := fun z : Int × Mem => G p l e rm_X11_next s m args below meth c 4 D ca ad A 0 0 (MQ below (Qi D ca ad A r0 σ0) args s 0 0 A) z.2 37 [some (.ref (ad 0)), none, some (.int (iI p2)), some (.int (iI z.1))] []) (E := fun b => (∀ (r1 : Int) (σ1 : Mem), b = .inl (r1, σ1) → r1 = r0 ∧ σ1 = σ0) ∧ (∀ (σ : Mem), b = .inr σ → G p l e rm_X11_next s m args below meth c 4 D ca ad A 0 0 (MQ below (Qi D ca ad A r0 σ0) args s 0 0 A) σ 58 [none, none, none, none] [])) (fun z o hb hc he => it_X11_next_37 C hr hlk (fun _ _ e => hc _ e) (fun r1 σ1 e => (he _ e).1 r1 σ1 rfl) (fun _ e => (he _ e).2 _ rfl) hb) n _ _ h ⟨he1, he2⟩
set_option maxHeartbeats 4000000 in
set_option maxRecDepth 100000 in
theorem c_X11_next {v1 : Int} {σ : Mem} (hf : f_X11_next v1 σ = some (r0, σ0)) : CTi l D ca ad A yX11_next wsX11_next rm_X11_next [.ref (ad 0), .int (iI v1)] σ r0 σ0 := by
  refine ct_i (cc := cX11_next) (own := RX11) (maxL := 4) (ret := (some .int)) (lv0 := [some (.ref (ad 0)), some (.int (iI v1)), none, none]) (by decide) rfl rfl rfl (Nat.le_of_ble_eq_true rfl) ?_
  intro p e s m below meth c C hr hlk hnm
  unfold f_X11_next at hf
  refine g_aload_n (i := 0) C dX11_next_0 rfl rfl ?_
  refine gg_X11_hasMarket (i := 1) C hiX11_next_X11 rfl dX11_next_1 ?_
  refine g_if_ne (tgt := 10) C dX11_next_4 (by decide) rfl (fun c1 => ?_) (fun c1 => ?_)
  · have hf := if_f c1 hf
    refine g_iload_n (i := 1) C dX11_next_10 rfl rfl ?_
    refine g_iconst C dX11_next_11 ?_
    refine g_icmp_ge (b' := (-1)) (tgt := 17) C dX11_next_12 (by decide) rfl (by decide) (fun c2 => ?_) (fun c2 => ?_)
    · have hf := if_t c2 hf
      refine g_aload_n (i := 0) C dX11_next_17 rfl rfl ?_
      refine gg_X11_fair (i := 2) C hiX11_next_X11 rfl dX11_next_18 ?_
      obtain ⟨r4, σ3, h5, hf⟩ := ob_inv hf
      refine g_callVi C (c_X4_fitNumbers (by decide) h5) (cwV 0 C.2.2.2.2.1 gX11_next_X4_fitNumbers rfl rfl rfl (by decide +kernel) ⟨Nat.le_of_ble_eq_true rfl, Nat.le_of_ble_eq_true rfl⟩) (ob_X4 (by decide)) rfl rfl rfl rfl (Nat.le_of_ble_eq_true rfl) dX11_next_21 ⟨Nat.zero_le _, Nat.zero_le _⟩ ?_
      refine g_istore_n (i := 2) C dX11_next_24 rfl (by decide) rfl ?_
      refine g_iload_n (i := 1) C dX11_next_25 rfl rfl ?_
      refine g_iload_n (i := 2) C dX11_next_26 rfl rfl ?_
      refine g_icmp_lt (tgt := 33) C dX11_next_27 (by decide) rfl rfl (fun c6 => ?_) (fun c6 => ?_)
      · have hf := if_t c6 hf
        refine g_iload_n (i := 1) C dX11_next_33 rfl rfl ?_
        refine g_iconst C dX11_next_34 ?_
        refine g_iadd C dX11_next_35 ?_
        refine g_istore_n (i := 3) C dX11_next_36 rfl (by decide) rfl ?_
        obtain ⟨q17, hl18, hf⟩ := lb_inv hf
        refine g_mask [true, false, true, true] (w_X11_next_37 C hr hlk hl18 ?_ ?_)
        · rintro r1 σ1 rfl
          exact some_inv hf
        · rintro σ19 rfl
          have hf := se_r hf
          refine g_bipush C dX11_next_58 (by decide) ?_
          obtain ⟨e1, e2⟩ := some_inv hf
          exact g_iret C hr hlk e1 e2 dX11_next_60
      · have hf := if_f c6 hf
        refine g_bipush C dX11_next_30 (by decide) ?_
        obtain ⟨e1, e2⟩ := some_inv hf
        exact g_iret C hr hlk e1 e2 dX11_next_32
    · have hf := if_f c2 hf
      refine g_iconst C dX11_next_15 ?_
      obtain ⟨e1, e2⟩ := some_inv hf
      exact g_iret C hr hlk e1 e2 dX11_next_16
  · have hf := if_t c1 hf
    refine g_bipush C dX11_next_7 (by decide) ?_
    obtain ⟨e1, e2⟩ := some_inv hf
    exact g_iret C hr hlk e1 e2 dX11_next_9
/-! X11_all -/
abbrev rm_X11_all : Room := { frames := 6, cells := 0, slots := 0, locals := 144 }
theorem hiX11_all_X11 : ∀ w ∈ u_ws RX11 TX11 8, w ∈ wsX11_all := fun _ h => (List.mem_cons_of_mem _ (List.mem_append_left _ (List.mem_append_left _ (List.mem_append_right _ h))))
theorem hiX11_all_X7 : ∀ w ∈ u_ws RX7 TX7 14, w ∈ wsX11_all := fun _ h => (List.mem_cons_of_mem _ (List.mem_append_left _ (List.mem_append_right _ h)))
set_option maxHeartbeats 4000000 in
set_option maxRecDepth 100000 in
theorem it_X11_all_51 (C : Cx p s m args c cX11_all 5 RX11 wsX11_all D ca A) (hr : meth.sig.returnType = (some .int)) (hlk : meth.locks = false) {p1 p2 : Int} {o : (Int × Int × Mem) ⊕ (Int × Mem)} (hc : ∀ (x3 x4 : Int) (σ : Mem), o = .inl (x3, x4, σ) → G p l e rm_X11_all s m args below meth c 5 D ca ad A 0 0 (MQ below (Qi D ca ad A r0 σ0) args s 0 0 A) σ 51 [some (.ref (ad 0)), some (.int (iI p1)), some (.int (iI p2)), some (.int (iI x3)), some (.int (iI x4))] []) (he : ∀ (y3 : Int) (σ : Mem), o = .inr (y3, σ) → G p l e rm_X11_all s m args below meth c 5 D ca ad A 0 0 (MQ below (Qi D ca ad A r0 σ0) args s 0 0 A) σ 92 [some (.ref (ad 0)), none, none, some (.int (iI y3)), none] []) {x3 x4 : Int} {σ : Mem} (hf : f_X11_all_51 p1 p2 x3 x4 σ = some o) : G p l e rm_X11_all s m args below meth c 5 D ca ad A 0 0 (MQ below (Qi D ca ad A r0 σ0) args s 0 0 A) σ 51 [some (.ref (ad 0)), some (.int (iI p1)), some (.int (iI p2)), some (.int (iI x3)), some (.int (iI x4))] [] := by
  unfold f_X11_all_51 at hf
  refine g_iload C dX11_all_51 rfl ?_
  refine g_iload_n (i := 2) C dX11_all_53 rfl rfl ?_
  refine g_icmp_ge (tgt := 92) C dX11_all_54 (by decide) rfl rfl (fun c9 => ?_) (fun c9 => ?_)
  · have hf := if_t c9 hf
    exact g_mask [true, false, false, true, false] (he _ _ (Option.some.inj hf).symm)
  · have hf := if_f c9 hf
    refine g_aload_n (i := 0) C dX11_all_57 rfl rfl ?_
    refine g_iload C dX11_all_58 rfl ?_
    obtain ⟨r11, σ10, h12, hf⟩ := ob_inv hf
    refine g_callVi C (c_X11_isSureFit  h12) (cwV 1 C.2.2.2.2.1 gX11_all_X11_isSureFit rfl rfl rfl (by decide +kernel) ⟨Nat.le_of_ble_eq_true rfl, Nat.le_of_ble_eq_true rfl⟩) ob_X11 rfl rfl rfl rfl (Nat.le_of_ble_eq_true rfl) dX11_all_60 ⟨Nat.zero_le _, Nat.zero_le _⟩ ?_
    refine g_if_eq (tgt := 86) C dX11_all_63 (by decide) rfl (fun c13 => ?_) (fun c13 => ?_)
    · have hf := if_t c13 hf
      refine g_iinc C dX11_all_86 rfl (by decide) rfl ?_
      refine g_goto (tgt := 51) C dX11_all_89 (by decide) ?_
      exact g_mask [true, true, true, true, true] (hc _ _ _ (Option.some.inj hf).symm)
    · have hf := if_f c13 hf
      refine g_iload_n (i := 1) C dX11_all_66 rfl rfl ?_
      refine g_iconst C dX11_all_67 ?_
      refine g_icmp_ne (b' := 2) (tgt := 83) C dX11_all_68 (by decide) rfl (by decide) (fun c14 => ?_) (fun c14 => ?_)
      · have hf := if_f c14 hf
        refine g_iinc C dX11_all_83 rfl (by decide) rfl ?_
        refine g_iinc C dX11_all_86 rfl (by decide) rfl ?_
        refine g_goto (tgt := 51) C dX11_all_89 (by decide) ?_
        exact g_mask [true, true, true, true, true] (hc _ _ _ (Option.some.inj hf).symm)
      · have hf := if_t c14 hf
        refine g_aload_n (i := 0) C dX11_all_71 rfl rfl ?_
        refine gg_X11_scales (i := 2) C hiX11_all_X11 rfl dX11_all_72 ?_
        obtain ⟨r16, σ15, h17, hf⟩ := ob_inv hf
        refine g_callVi C (c_X7_fallsBy  h17) (cwV 0 C.2.2.2.2.1 gX11_all_X7_fallsBy rfl rfl rfl (by decide +kernel) ⟨Nat.le_of_ble_eq_true rfl, Nat.le_of_ble_eq_true rfl⟩) ob_X7 rfl rfl rfl rfl (Nat.le_of_ble_eq_true rfl) dX11_all_75 ⟨Nat.zero_le _, Nat.zero_le _⟩ ?_
        refine g_bipush C dX11_all_78 (by decide) ?_
        refine g_icmp_ne (b' := (-4)) (tgt := 86) C dX11_all_80 (by decide) rfl (by decide) (fun c18 => ?_) (fun c18 => ?_)
        · have hf := if_f c18 hf
          refine g_iinc C dX11_all_86 rfl (by decide) rfl ?_
          refine g_goto (tgt := 51) C dX11_all_89 (by decide) ?_
          exact g_mask [true, true, true, true, true] (hc _ _ _ (Option.some.inj hf).symm)
        · have hf := if_t c18 hf
          refine g_iinc C dX11_all_83 rfl (by decide) rfl ?_
          refine g_iinc C dX11_all_86 rfl (by decide) rfl ?_
          refine g_goto (tgt := 51) C dX11_all_89 (by decide) ?_
          exact g_mask [true, true, true, true, true] (hc _ _ _ (Option.some.inj hf).symm)
set_option maxHeartbeats 4000000 in
set_option maxRecDepth 100000 in
theorem w_X11_all_51 (C : Cx p s m args c cX11_all 5 RX11 wsX11_all D ca A) (hr : meth.sig.returnType = (some .int)) (hlk : meth.locks = false) {p1 p2 : Int} {n : Nat} {x3 x4 : Int} {σ : Mem} {b : (Int × Mem)} (h : itr (fun z : Int × Int × Mem => f_X11_all_51 p1 p2 z.1 z.2.1 z.2.2) n (x3, x4, σ) = some b) (he : ∀ (y3 : Int) (σ : Mem), b = (y3, σ) → G p l e rm_X11_all s m args below meth c 5 D ca ad A 0 0 (MQ below (Qi D ca ad A r0 σ0) args s 0 0 A) σ 92 [some (.ref (ad 0)), none, none, some (.int (iI y3)), none] []) : G p l e rm_X11_all s m args below meth c 5 D ca ad A 0 0 (MQ below (Qi D ca ad A r0 σ0) args s 0 0 A) σ 51 [some (.ref (ad 0)), some (.int (iI p1)), some (.int (iI p2)), some (.int (iI x3)), some (.int (iI x4))] [] :=
  itr_rule (P := fun z : Int × Int × Mem => G p l e rm_X11_all s m args below meth c 5 D ca ad A 0 0 (MQ below (Qi D ca ad A r0 σ0) args s 0 0 A) z.2.2 51 [some (.ref (ad 0)), some (.int (iI p1)), some (.int (iI p2)), some (.int (iI z.1)), some (.int (iI z.2.1))] []) (E := fun b => ∀ (y3 : Int) (σ : Mem), b = (y3, σ) → G p l e rm_X11_all s m args below meth c 5 D ca ad A 0 0 (MQ below (Qi D ca ad A r0 σ0) args s 0 0 A) σ 92 [some (.ref (ad 0)), none, none, some (.int (iI y3)), none] []) (fun z o hb hc he => it_X11_all_51 C hr hlk (fun _ _ _ e => hc _ e) (fun _ _ e => (he _ e) _ _ rfl) hb) n _ _ h he
set_option maxHeartbeats 4000000 in
set_option maxRecDepth 100000 in
theorem c_X11_all {v1 : Int} {σ : Mem} (hf : f_X11_all v1 σ = some (r0, σ0)) : CTi l D ca ad A yX11_all wsX11_all rm_X11_all [.ref (ad 0), .int (iI v1)] σ r0 σ0 := by
  refine ct_i (cc := cX11_all) (own := RX11) (maxL := 5) (ret := (some .int)) (lv0 := [some (.ref (ad 0)), some (.int (iI v1)), none, none, none]) (by decide) rfl rfl rfl (Nat.le_of_ble_eq_true rfl) ?_
  intro p e s m below meth c C hr hlk hnm
  unfold f_X11_all at hf
  refine g_aload_n (i := 0) C dX11_all_0 rfl rfl ?_
  refine gg_X11_hasMarket (i := 1) C hiX11_all_X11 rfl dX11_all_1 ?_
  refine g_if_ne (tgt := 10) C dX11_all_4 (by decide) rfl (fun c1 => ?_) (fun c1 => ?_)
  · have hf := if_f c1 hf
    refine g_iload_n (i := 1) C dX11_all_10 rfl rfl ?_
    refine g_if_lt (tgt := 19) C dX11_all_11 (by decide) rfl (fun c2 => ?_) (fun c2 => ?_)
    · have hf := if_t c2 hf
      refine g_iconst C dX11_all_19 ?_
      obtain ⟨e1, e2⟩ := some_inv hf
      exact g_iret C hr hlk e1 e2 dX11_all_20
    · have hf := if_f c2 hf
      refine g_iload_n (i := 1) C dX11_all_14 rfl rfl ?_
      refine g_iconst C dX11_all_15 ?_
      refine g_icmp_le (b' := 2) (tgt := 21) C dX11_all_16 (by decide) rfl (by decide) (fun c3 => ?_) (fun c3 => ?_)
      · have hf := if_t c3 hf
        refine g_aload_n (i := 0) C dX11_all_21 rfl rfl ?_
        refine gg_X11_scales (i := 2) C hiX11_all_X11 rfl dX11_all_22 ?_
        refine g_iload_n (i := 1) C dX11_all_25 rfl rfl ?_
        refine g_iconst C dX11_all_26 ?_
        refine g_icmp_ne (b' := 1) (tgt := 34) C dX11_all_27 (by decide) rfl (by decide) (fun c4 => ?_) (fun c4 => ?_)
        · have hf := if_f c4 hf
          refine g_iconst C dX11_all_34 ?_
          refine gp_X7_allOpen (i := 3) C (by decide) hiX11_all_X7 rfl dX11_all_35 ?_
          refine g_aload_n (i := 0) C dX11_all_38 rfl rfl ?_
          refine gg_X11_fair (i := 4) C hiX11_all_X11 rfl dX11_all_39 ?_
          obtain ⟨r7, σ6, h8, hf⟩ := ob_inv hf
          refine g_callVi C (c_X4_fitNumbers (by decide) h8) (cwV 0 C.2.2.2.2.1 gX11_all_X4_fitNumbers rfl rfl rfl (by decide +kernel) ⟨Nat.le_of_ble_eq_true rfl, Nat.le_of_ble_eq_true rfl⟩) (ob_X4 (by decide)) rfl rfl rfl rfl (Nat.le_of_ble_eq_true rfl) dX11_all_42 ⟨Nat.zero_le _, Nat.zero_le _⟩ ?_
          refine g_istore_n (i := 2) C dX11_all_45 rfl (by decide) rfl ?_
          refine g_iconst C dX11_all_46 ?_
          refine g_istore_n (i := 3) C dX11_all_47 rfl (by decide) rfl ?_
          refine g_iconst C dX11_all_48 ?_
          refine g_istore C dX11_all_49 (by decide) rfl ?_
          obtain ⟨q19, hl20, hf⟩ := lb_inv hf
          refine g_mask [true, true, true, true, true] (w_X11_all_51 C hr hlk hl20 ?_)
          · rintro y21 σ22 rfl
            refine g_aload_n (i := 0) C dX11_all_92 rfl rfl ?_
            refine gg_X11_scales (i := 2) C hiX11_all_X11 rfl dX11_all_93 ?_
            refine g_iconst C dX11_all_96 ?_
            refine gp_X7_allOpen (i := 3) C (by decide) hiX11_all_X7 rfl dX11_all_97 ?_
            refine g_iload_n (i := 3) C dX11_all_100 rfl rfl ?_
            obtain ⟨e1, e2⟩ := some_inv hf
            exact g_iret C hr hlk e1 e2 dX11_all_101
        · have hf := if_t c4 hf
          refine g_iconst C dX11_all_30 ?_
          refine g_goto (tgt := 35) C dX11_all_31 (by decide) ?_
          refine gp_X7_allOpen (i := 3) C (by decide) hiX11_all_X7 rfl dX11_all_35 ?_
          refine g_aload_n (i := 0) C dX11_all_38 rfl rfl ?_
          refine gg_X11_fair (i := 4) C hiX11_all_X11 rfl dX11_all_39 ?_
          obtain ⟨r26, σ25, h27, hf⟩ := ob_inv hf
          refine g_callVi C (c_X4_fitNumbers (by decide) h27) (cwV 0 C.2.2.2.2.1 gX11_all_X4_fitNumbers rfl rfl rfl (by decide +kernel) ⟨Nat.le_of_ble_eq_true rfl, Nat.le_of_ble_eq_true rfl⟩) (ob_X4 (by decide)) rfl rfl rfl rfl (Nat.le_of_ble_eq_true rfl) dX11_all_42 ⟨Nat.zero_le _, Nat.zero_le _⟩ ?_
          refine g_istore_n (i := 2) C dX11_all_45 rfl (by decide) rfl ?_
          refine g_iconst C dX11_all_46 ?_
          refine g_istore_n (i := 3) C dX11_all_47 rfl (by decide) rfl ?_
          refine g_iconst C dX11_all_48 ?_
          refine g_istore C dX11_all_49 (by decide) rfl ?_
          obtain ⟨q28, hl29, hf⟩ := lb_inv hf
          refine g_mask [true, true, true, true, true] (w_X11_all_51 C hr hlk hl29 ?_)
          · rintro y30 σ31 rfl
            refine g_aload_n (i := 0) C dX11_all_92 rfl rfl ?_
            refine gg_X11_scales (i := 2) C hiX11_all_X11 rfl dX11_all_93 ?_
            refine g_iconst C dX11_all_96 ?_
            refine gp_X7_allOpen (i := 3) C (by decide) hiX11_all_X7 rfl dX11_all_97 ?_
            refine g_iload_n (i := 3) C dX11_all_100 rfl rfl ?_
            obtain ⟨e1, e2⟩ := some_inv hf
            exact g_iret C hr hlk e1 e2 dX11_all_101
      · have hf := if_f c3 hf
        refine g_iconst C dX11_all_19 ?_
        obtain ⟨e1, e2⟩ := some_inv hf
        exact g_iret C hr hlk e1 e2 dX11_all_20
  · have hf := if_t c1 hf
    refine g_bipush C dX11_all_7 (by decide) ?_
    obtain ⟨e1, e2⟩ := some_inv hf
    exact g_iret C hr hlk e1 e2 dX11_all_9
/-! X11_sureFitFault -/
abbrev rm_X11_sureFitFault : Room := { frames := 5, cells := 0, slots := 0, locals := 118 }
set_option maxHeartbeats 4000000 in
set_option maxRecDepth 100000 in
theorem c_X11_sureFitFault {v1 : Int} {σ : Mem} (hf : f_X11_sureFitFault v1 σ = some (r0, σ0)) : CTi l D ca ad A yX11_sureFitFault wsX11_sureFitFault rm_X11_sureFitFault [.ref (ad 0), .int (iI v1)] σ r0 σ0 := by
  refine ct_i (cc := cX11_sureFitFault) (own := RX11) (maxL := 3) (ret := (some .int)) (lv0 := [some (.ref (ad 0)), some (.int (iI v1)), none]) (by decide) rfl rfl rfl (Nat.le_of_ble_eq_true rfl) ?_
  intro p e s m below meth c C hr hlk hnm
  unfold f_X11_sureFitFault at hf
  refine g_aload_n (i := 0) C dX11_sureFitFault_0 rfl rfl ?_
  refine g_iload_n (i := 1) C dX11_sureFitFault_1 rfl rfl ?_
  obtain ⟨r2, σ1, h3, hf⟩ := ob_inv hf
  refine g_callVi C (c_X11_fitFault  h3) (cwV 1 C.2.2.2.2.1 gX11_sureFitFault_X11_fitFault rfl rfl rfl (by decide +kernel) ⟨Nat.le_of_ble_eq_true rfl, Nat.le_of_ble_eq_true rfl⟩) ob_X11 rfl rfl rfl rfl (Nat.le_of_ble_eq_true rfl) dX11_sureFitFault_2 ⟨Nat.zero_le _, Nat.zero_le _⟩ ?_
  refine g_istore_n (i := 2) C dX11_sureFitFault_5 rfl (by decide) rfl ?_
  refine g_iload_n (i := 2) C dX11_sureFitFault_6 rfl rfl ?_
  refine g_if_eq (tgt := 12) C dX11_sureFitFault_7 (by decide) rfl (fun c4 => ?_) (fun c4 => ?_)
  · have hf := if_t c4 hf
    refine g_aload_n (i := 0) C dX11_sureFitFault_12 rfl rfl ?_
    refine g_iload_n (i := 1) C dX11_sureFitFault_13 rfl rfl ?_
    obtain ⟨r6, σ5, h7, hf⟩ := ob_inv hf
    refine g_callVi C (c_X11_isSureFit  h7) (cwV 1 C.2.2.2.2.1 gX11_sureFitFault_X11_isSureFit rfl rfl rfl (by decide +kernel) ⟨Nat.le_of_ble_eq_true rfl, Nat.le_of_ble_eq_true rfl⟩) ob_X11 rfl rfl rfl rfl (Nat.le_of_ble_eq_true rfl) dX11_sureFitFault_14 ⟨Nat.zero_le _, Nat.zero_le _⟩ ?_
    refine g_if_eq (tgt := 24) C dX11_sureFitFault_17 (by decide) rfl (fun c8 => ?_) (fun c8 => ?_)
    · have hf := if_t c8 hf
      refine g_bipush C dX11_sureFitFault_24 (by decide) ?_
      obtain ⟨e1, e2⟩ := some_inv hf
      exact g_iret C hr hlk e1 e2 dX11_sureFitFault_26
    · have hf := if_f c8 hf
      refine g_iconst C dX11_sureFitFault_20 ?_
      refine g_goto (tgt := 26) C dX11_sureFitFault_21 (by decide) ?_
      obtain ⟨e1, e2⟩ := some_inv hf
      exact g_iret C hr hlk e1 e2 dX11_sureFitFault_26
  · have hf := if_f c4 hf
    refine g_iload_n (i := 2) C dX11_sureFitFault_10 rfl rfl ?_
    obtain ⟨e1, e2⟩ := some_inv hf
    exact g_iret C hr hlk e1 e2 dX11_sureFitFault_11
/-! X11_falls -/
abbrev rm_X11_falls : Room := { frames := 6, cells := 0, slots := 0, locals := 144 }
theorem hiX11_falls_X11 : ∀ w ∈ u_ws RX11 TX11 8, w ∈ wsX11_falls := fun _ h => (List.mem_cons_of_mem _ (List.mem_append_left _ (List.mem_append_left _ (List.mem_append_right _ h))))
set_option maxHeartbeats 4000000 in
set_option maxRecDepth 100000 in
theorem c_X11_falls {v1 : Int} {σ : Mem} (hf : f_X11_falls v1 σ = some (r0, σ0)) : CTi l D ca ad A yX11_falls wsX11_falls rm_X11_falls [.ref (ad 0), .int (iI v1)] σ r0 σ0 := by
  refine ct_i (cc := cX11_falls) (own := RX11) (maxL := 3) (ret := (some .int)) (lv0 := [some (.ref (ad 0)), some (.int (iI v1)), none]) (by decide) rfl rfl rfl (Nat.le_of_ble_eq_true rfl) ?_
  intro p e s m below meth c C hr hlk hnm
  unfold f_X11_falls at hf
  refine g_aload_n (i := 0) C dX11_falls_0 rfl rfl ?_
  refine g_iload_n (i := 1) C dX11_falls_1 rfl rfl ?_
  obtain ⟨r2, σ1, h3, hf⟩ := ob_inv hf
  refine g_callVi C (c_X11_sureFitFault  h3) (cwV 1 C.2.2.2.2.1 gX11_falls_X11_sureFitFault rfl rfl rfl (by decide +kernel) ⟨Nat.le_of_ble_eq_true rfl, Nat.le_of_ble_eq_true rfl⟩) ob_X11 rfl rfl rfl rfl (Nat.le_of_ble_eq_true rfl) dX11_falls_2 ⟨Nat.zero_le _, Nat.zero_le _⟩ ?_
  refine g_istore_n (i := 2) C dX11_falls_5 rfl (by decide) rfl ?_
  refine g_iload_n (i := 2) C dX11_falls_6 rfl rfl ?_
  refine g_if_eq (tgt := 14) C dX11_falls_7 (by decide) rfl (fun c4 => ?_) (fun c4 => ?_)
  · have hf := if_t c4 hf
    refine g_aload_n (i := 0) C dX11_falls_14 rfl rfl ?_
    refine gg_X11_scales (i := 1) C hiX11_falls_X11 rfl dX11_falls_15 ?_
    obtain ⟨r6, σ5, h7, hf⟩ := ob_inv hf
    refine g_callVi C (c_X7_fallsBy  h7) (cwV 0 C.2.2.2.2.1 gX11_falls_X7_fallsBy rfl rfl rfl (by decide +kernel) ⟨Nat.le_of_ble_eq_true rfl, Nat.le_of_ble_eq_true rfl⟩) ob_X7 rfl rfl rfl rfl (Nat.le_of_ble_eq_true rfl) dX11_falls_18 ⟨Nat.zero_le _, Nat.zero_le _⟩ ?_
    obtain ⟨e1, e2⟩ := some_inv hf
    exact g_iret C hr hlk e1 e2 dX11_falls_21
  · have hf := if_f c4 hf
    refine g_iload_n (i := 2) C dX11_falls_10 rfl rfl ?_
    refine g_goto (tgt := 21) C dX11_falls_11 (by decide) ?_
    obtain ⟨e1, e2⟩ := some_inv hf
    exact g_iret C hr hlk e1 e2 dX11_falls_21
/-! X11_barred -/
abbrev rm_X11_barred : Room := { frames := 6, cells := 0, slots := 0, locals := 140 }
theorem hiX11_barred_X11 : ∀ w ∈ u_ws RX11 TX11 8, w ∈ wsX11_barred := fun _ h => (List.mem_cons_of_mem _ (List.mem_append_left _ (List.mem_append_left _ (List.mem_append_right _ h))))
set_option maxHeartbeats 4000000 in
set_option maxRecDepth 100000 in
theorem c_X11_barred {v1 v2 v3 : Int} {σ : Mem} (hf : f_X11_barred v1 v2 v3 σ = some (r0, σ0)) : CTi l D ca ad A yX11_barred wsX11_barred rm_X11_barred [.ref (ad 0), .int (iI v1), .int (iI v2), .int (iI v3)] σ r0 σ0 := by
  refine ct_i (cc := cX11_barred) (own := RX11) (maxL := 5) (ret := (some .int)) (lv0 := [some (.ref (ad 0)), some (.int (iI v1)), some (.int (iI v2)), some (.int (iI v3)), none]) (by decide) rfl rfl rfl (Nat.le_of_ble_eq_true rfl) ?_
  intro p e s m below meth c C hr hlk hnm
  unfold f_X11_barred at hf
  refine g_aload_n (i := 0) C dX11_barred_0 rfl rfl ?_
  refine gg_X11_hasMarket (i := 1) C hiX11_barred_X11 rfl dX11_barred_1 ?_
  refine g_if_ne (tgt := 10) C dX11_barred_4 (by decide) rfl (fun c1 => ?_) (fun c1 => ?_)
  · have hf := if_f c1 hf
    refine g_aload_n (i := 0) C dX11_barred_10 rfl rfl ?_
    refine gg_X11_fair (i := 2) C hiX11_barred_X11 rfl dX11_barred_11 ?_
    refine g_iload_n (i := 2) C dX11_barred_14 rfl rfl ?_
    obtain ⟨r3, σ2, h4, hf⟩ := ob_inv hf
    refine g_callVi C (c_X4_hasMark (by decide) h4) (cwV 1 C.2.2.2.2.1 gX11_barred_X4_hasMark rfl rfl rfl (by decide +kernel) ⟨Nat.le_of_ble_eq_true rfl, Nat.le_of_ble_eq_true rfl⟩) (ob_X4 (by decide)) rfl rfl rfl rfl (Nat.le_of_ble_eq_true rfl) dX11_barred_15 ⟨Nat.zero_le _, Nat.zero_le _⟩ ?_
    refine g_if_eq (tgt := 32) C dX11_barred_18 (by decide) rfl (fun c5 => ?_) (fun c5 => ?_)
    · have hf := if_t c5 hf
      refine g_iconst C dX11_barred_32 ?_
      obtain ⟨e1, e2⟩ := some_inv hf
      exact g_iret C hr hlk e1 e2 dX11_barred_33
    · have hf := if_f c5 hf
      refine g_aload_n (i := 0) C dX11_barred_21 rfl rfl ?_
      refine gg_X11_fair (i := 2) C hiX11_barred_X11 rfl dX11_barred_22 ?_
      refine g_iload_n (i := 3) C dX11_barred_25 rfl rfl ?_
      obtain ⟨r7, σ6, h8, hf⟩ := ob_inv hf
      refine g_callVi C (c_X4_hasSort (by decide) h8) (cwV 1 C.2.2.2.2.1 gX11_barred_X4_hasSort rfl rfl rfl (by decide +kernel) ⟨Nat.le_of_ble_eq_true rfl, Nat.le_of_ble_eq_true rfl⟩) (ob_X4 (by decide)) rfl rfl rfl rfl (Nat.le_of_ble_eq_true rfl) dX11_barred_26 ⟨Nat.zero_le _, Nat.zero_le _⟩ ?_
      refine g_if_ne (tgt := 34) C dX11_barred_29 (by decide) rfl (fun c9 => ?_) (fun c9 => ?_)
      · have hf := if_f c9 hf
        refine g_aload_n (i := 0) C dX11_barred_34 rfl rfl ?_
        refine g_iload_n (i := 1) C dX11_barred_35 rfl rfl ?_
        obtain ⟨r11, σ10, h12, hf⟩ := ob_inv hf
        refine g_callVi C (c_X11_sureFitFault  h12) (cwV 1 C.2.2.2.2.1 gX11_barred_X11_sureFitFault rfl rfl rfl (by decide +kernel) ⟨Nat.le_of_ble_eq_true rfl, Nat.le_of_ble_eq_true rfl⟩) ob_X11 rfl rfl rfl rfl (Nat.le_of_ble_eq_true rfl) dX11_barred_36 ⟨Nat.zero_le _, Nat.zero_le _⟩ ?_
        refine g_istore C dX11_barred_39 (by decide) rfl ?_
        refine g_iload C dX11_barred_41 rfl ?_
        refine g_if_eq (tgt := 49) C dX11_barred_43 (by decide) rfl (fun c13 => ?_) (fun c13 => ?_)
        · have hf := if_t c13 hf
          refine g_aload_n (i := 0) C dX11_barred_49 rfl rfl ?_
          refine gg_X11_scales (i := 3) C hiX11_barred_X11 rfl dX11_barred_50 ?_
          refine g_iload_n (i := 2) C dX11_barred_53 rfl rfl ?_
          obtain ⟨r15, σ14, h16, hf⟩ := ob_inv hf
          refine g_callVi C (c_X7_isMade  h16) (cwV 1 C.2.2.2.2.1 gX11_barred_X7_isMade rfl rfl rfl (by decide +kernel) ⟨Nat.le_of_ble_eq_true rfl, Nat.le_of_ble_eq_true rfl⟩) ob_X7 rfl rfl rfl rfl (Nat.le_of_ble_eq_true rfl) dX11_barred_54 ⟨Nat.zero_le _, Nat.zero_le _⟩ ?_
          refine g_if_eq (tgt := 63) C dX11_barred_57 (by decide) rfl (fun c17 => ?_) (fun c17 => ?_)
          · have hf := if_t c17 hf
            refine g_aload_n (i := 0) C dX11_barred_63 rfl rfl ?_
            refine gg_X11_scales (i := 3) C hiX11_barred_X11 rfl dX11_barred_64 ?_
            refine g_iload_n (i := 2) C dX11_barred_67 rfl rfl ?_
            refine g_iload_n (i := 3) C dX11_barred_68 rfl rfl ?_
            obtain ⟨r19, σ18, h20, hf⟩ := ob_inv hf
            refine g_callVi C (c_X7_isBarred  h20) (cwV 2 C.2.2.2.2.1 gX11_barred_X7_isBarred rfl rfl rfl (by decide +kernel) ⟨Nat.le_of_ble_eq_true rfl, Nat.le_of_ble_eq_true rfl⟩) ob_X7 rfl rfl rfl rfl (Nat.le_of_ble_eq_true rfl) dX11_barred_69 ⟨Nat.zero_le _, Nat.zero_le _⟩ ?_
            refine g_if_eq (tgt := 79) C dX11_barred_72 (by decide) rfl (fun c21 => ?_) (fun c21 => ?_)
            · have hf := if_t c21 hf
              refine g_iconst C dX11_barred_79 ?_
              obtain ⟨e1, e2⟩ := some_inv hf
              exact g_iret C hr hlk e1 e2 dX11_barred_80
            · have hf := if_f c21 hf
              refine g_iconst C dX11_barred_75 ?_
              refine g_goto (tgt := 80) C dX11_barred_76 (by decide) ?_
              obtain ⟨e1, e2⟩ := some_inv hf
              exact g_iret C hr hlk e1 e2 dX11_barred_80
          · have hf := if_f c17 hf
            refine g_bipush C dX11_barred_60 (by decide) ?_
            obtain ⟨e1, e2⟩ := some_inv hf
            exact g_iret C hr hlk e1 e2 dX11_barred_62
        · have hf := if_f c13 hf
          refine g_iload C dX11_barred_46 rfl ?_
          obtain ⟨e1, e2⟩ := some_inv hf
          exact g_iret C hr hlk e1 e2 dX11_barred_48
      · have hf := if_t c9 hf
        refine g_iconst C dX11_barred_32 ?_
        obtain ⟨e1, e2⟩ := some_inv hf
        exact g_iret C hr hlk e1 e2 dX11_barred_33
  · have hf := if_t c1 hf
    refine g_bipush C dX11_barred_7 (by decide) ?_
    obtain ⟨e1, e2⟩ := some_inv hf
    exact g_iret C hr hlk e1 e2 dX11_barred_9
/-! X11_lots -/
abbrev rm_X11_lots : Room := { frames := 2, cells := 0, slots := 0, locals := 56 }
theorem hiX11_lots_X11 : ∀ w ∈ u_ws RX11 TX11 8, w ∈ wsX11_lots := fun _ h => (List.mem_cons_of_mem _ (List.mem_append_left _ (List.mem_append_left _ (List.mem_append_right _ h))))
theorem hiX11_lots_X7 : ∀ w ∈ u_ws RX7 TX7 14, w ∈ wsX11_lots := fun _ h => (List.mem_cons_of_mem _ (List.mem_append_left _ (List.mem_append_right _ h)))
set_option maxHeartbeats 4000000 in
set_option maxRecDepth 100000 in
theorem c_X11_lots {v1 v2 v3 v4 : Int} {σ : Mem} (hf : f_X11_lots v1 v2 v3 v4 σ = some (r0, σ0)) : CTl l D ca ad A yX11_lots wsX11_lots rm_X11_lots [.ref (ad 0), .int (iI v1), .int (iI v2), .int (iI v3), .int (iI v4)] σ r0 σ0 := by
  refine ct_l (cc := cX11_lots) (own := RX11) (maxL := 5) (ret := (some .long)) (lv0 := [some (.ref (ad 0)), some (.int (iI v1)), some (.int (iI v2)), some (.int (iI v3)), some (.int (iI v4))]) (by decide) rfl rfl rfl (Nat.le_of_ble_eq_true rfl) ?_
  intro p e s m below meth c C hr hlk hnm
  unfold f_X11_lots at hf
  refine g_aload_n (i := 0) C dX11_lots_0 rfl rfl ?_
  refine gg_X11_hasMarket (i := 1) C hiX11_lots_X11 rfl dX11_lots_1 ?_
  refine g_if_eq (tgt := 48) C dX11_lots_4 (by decide) rfl (fun c1 => ?_) (fun c1 => ?_)
  · have hf := if_t c1 hf
    refine g_ldc2 (i := 3) (z := -4611686018427387904) C dX11_lots_48 rfl (by decide) ?_
    obtain ⟨e1, e2⟩ := some_inv hf
    exact g_lret C hr hlk e1 e2 dX11_lots_51
  · have hf := if_f c1 hf
    refine g_aload_n (i := 0) C dX11_lots_7 rfl rfl ?_
    refine gg_X11_fair (i := 2) C hiX11_lots_X11 rfl dX11_lots_8 ?_
    refine g_iload_n (i := 1) C dX11_lots_11 rfl rfl ?_
    obtain ⟨r3, σ2, h4, hf⟩ := ob_inv hf
    refine g_callVi C (c_X4_hasFit (by decide) h4) (cwV 1 C.2.2.2.2.1 gX11_lots_X4_hasFit rfl rfl rfl (by decide +kernel) ⟨Nat.le_of_ble_eq_true rfl, Nat.le_of_ble_eq_true rfl⟩) (ob_X4 (by decide)) rfl rfl rfl rfl (Nat.le_of_ble_eq_true rfl) dX11_lots_12 ⟨Nat.zero_le _, Nat.zero_le _⟩ ?_
    refine g_if_eq (tgt := 48) C dX11_lots_15 (by decide) rfl (fun c5 => ?_) (fun c5 => ?_)
    · have hf := if_t c5 hf
      refine g_ldc2 (i := 3) (z := -4611686018427387904) C dX11_lots_48 rfl (by decide) ?_
      obtain ⟨e1, e2⟩ := some_inv hf
      exact g_lret C hr hlk e1 e2 dX11_lots_51
    · have hf := if_f c5 hf
      refine g_aload_n (i := 0) C dX11_lots_18 rfl rfl ?_
      refine gg_X11_fair (i := 2) C hiX11_lots_X11 rfl dX11_lots_19 ?_
      refine g_iload_n (i := 2) C dX11_lots_22 rfl rfl ?_
      obtain ⟨r7, σ6, h8, hf⟩ := ob_inv hf
      refine g_callVi C (c_X4_hasSort (by decide) h8) (cwV 1 C.2.2.2.2.1 gX11_lots_X4_hasSort rfl rfl rfl (by decide +kernel) ⟨Nat.le_of_ble_eq_true rfl, Nat.le_of_ble_eq_true rfl⟩) (ob_X4 (by decide)) rfl rfl rfl rfl (Nat.le_of_ble_eq_true rfl) dX11_lots_23 ⟨Nat.zero_le _, Nat.zero_le _⟩ ?_
      refine g_if_eq (tgt := 48) C dX11_lots_26 (by decide) rfl (fun c9 => ?_) (fun c9 => ?_)
      · have hf := if_t c9 hf
        refine g_ldc2 (i := 3) (z := -4611686018427387904) C dX11_lots_48 rfl (by decide) ?_
        obtain ⟨e1, e2⟩ := some_inv hf
        exact g_lret C hr hlk e1 e2 dX11_lots_51
      · have hf := if_f c9 hf
        refine g_aload_n (i := 0) C dX11_lots_29 rfl rfl ?_
        refine gg_X11_fair (i := 2) C hiX11_lots_X11 rfl dX11_lots_30 ?_
        refine g_iload_n (i := 3) C dX11_lots_33 rfl rfl ?_
        obtain ⟨r11, σ10, h12, hf⟩ := ob_inv hf
        refine g_callVi C (c_X4_hasMark (by decide) h12) (cwV 1 C.2.2.2.2.1 gX11_lots_X4_hasMark rfl rfl rfl (by decide +kernel) ⟨Nat.le_of_ble_eq_true rfl, Nat.le_of_ble_eq_true rfl⟩) (ob_X4 (by decide)) rfl rfl rfl rfl (Nat.le_of_ble_eq_true rfl) dX11_lots_34 ⟨Nat.zero_le _, Nat.zero_le _⟩ ?_
        refine g_if_eq (tgt := 48) C dX11_lots_37 (by decide) rfl (fun c13 => ?_) (fun c13 => ?_)
        · have hf := if_t c13 hf
          refine g_ldc2 (i := 3) (z := -4611686018427387904) C dX11_lots_48 rfl (by decide) ?_
          obtain ⟨e1, e2⟩ := some_inv hf
          exact g_lret C hr hlk e1 e2 dX11_lots_51
        · have hf := if_f c13 hf
          refine g_iload C dX11_lots_40 rfl ?_
          obtain ⟨r15, σ14, h16, hf⟩ := ob_inv hf
          refine g_callSi C (c_X11_isBit  h16) (va_cwS 1 C.2.2.2.2.1 gX11_lots_X11_isBit rfl rfl rfl (by decide +kernel) ⟨Nat.le_of_ble_eq_true rfl, Nat.le_of_ble_eq_true rfl⟩) rfl rfl (Nat.le_of_ble_eq_true rfl) dX11_lots_42 ⟨Nat.zero_le _, Nat.zero_le _⟩ ?_
          refine g_if_ne (tgt := 52) C dX11_lots_45 (by decide) rfl (fun c17 => ?_) (fun c17 => ?_)
          · have hf := if_f c17 hf
            refine g_aload_n (i := 0) C dX11_lots_52 rfl rfl ?_
            refine gg_X11_scales (i := 4) C hiX11_lots_X11 rfl dX11_lots_53 ?_
            refine g_iload_n (i := 1) C dX11_lots_56 rfl rfl ?_
            obtain ⟨r19, σ18, h20, hf⟩ := ob_inv hf
            refine g_callVv C (c_X7_lay  h20) (cwV 1 C.2.2.2.2.1 gX11_lots_X7_lay rfl rfl rfl (by decide +kernel) ⟨Nat.le_of_ble_eq_true rfl, Nat.le_of_ble_eq_true rfl⟩) ob_X7 rfl rfl rfl rfl (Nat.le_of_ble_eq_true rfl) dX11_lots_57 ⟨Nat.zero_le _, Nat.zero_le _⟩ ?_
            refine g_aload_n (i := 0) C dX11_lots_60 rfl rfl ?_
            refine gg_X11_scales (i := 4) C hiX11_lots_X11 rfl dX11_lots_61 ?_
            refine g_iload_n (i := 2) C dX11_lots_64 rfl rfl ?_
            refine g_iload_n (i := 3) C dX11_lots_65 rfl rfl ?_
            obtain ⟨r22, σ21, h23, hf⟩ := ob_inv hf
            refine g_callVi C (c_X7_drawsLots  h23) (cwV 2 C.2.2.2.2.1 gX11_lots_X7_drawsLots rfl rfl rfl (by decide +kernel) ⟨Nat.le_of_ble_eq_true rfl, Nat.le_of_ble_eq_true rfl⟩) ob_X7 rfl rfl rfl rfl (Nat.le_of_ble_eq_true rfl) dX11_lots_66 ⟨Nat.zero_le _, Nat.zero_le _⟩ ?_
            refine g_if_ne (tgt := 76) C dX11_lots_69 (by decide) rfl (fun c24 => ?_) (fun c24 => ?_)
            · have hf := if_f c24 hf
              refine g_aload_n (i := 0) C dX11_lots_76 rfl rfl ?_
              refine gg_X11_scales (i := 4) C hiX11_lots_X11 rfl dX11_lots_77 ?_
              refine gg_X7_lotsTop (i := 5) C hiX11_lots_X7 rfl dX11_lots_80 ?_
              refine g_aload_n (i := 0) C dX11_lots_83 rfl rfl ?_
              refine gg_X11_scales (i := 4) C hiX11_lots_X11 rfl dX11_lots_84 ?_
              refine gg_X7_lotsUnder (i := 6) C hiX11_lots_X7 rfl dX11_lots_87 ?_
              refine g_iload C dX11_lots_90 rfl ?_
              obtain ⟨r26, σ25, h27, hf⟩ := ob_inv hf
              refine g_callSl C (c_X11_inLeastTerms  h27) (va_cwS 3 C.2.2.2.2.1 gX11_lots_X11_inLeastTerms rfl rfl rfl (by decide +kernel) ⟨Nat.le_of_ble_eq_true rfl, Nat.le_of_ble_eq_true rfl⟩) rfl rfl (Nat.le_of_ble_eq_true rfl) dX11_lots_92 ⟨Nat.zero_le _, Nat.zero_le _⟩ ?_
              obtain ⟨e1, e2⟩ := some_inv hf
              exact g_lret C hr hlk e1 e2 dX11_lots_95
            · have hf := if_t c24 hf
              refine g_ldc2 (i := 3) (z := -4611686018427387904) C dX11_lots_72 rfl (by decide) ?_
              obtain ⟨e1, e2⟩ := some_inv hf
              exact g_lret C hr hlk e1 e2 dX11_lots_75
          · have hf := if_t c17 hf
            refine g_ldc2 (i := 3) (z := -4611686018427387904) C dX11_lots_48 rfl (by decide) ?_
            obtain ⟨e1, e2⟩ := some_inv hf
            exact g_lret C hr hlk e1 e2 dX11_lots_51
/-! X11_apart -/
abbrev rm_X11_apart : Room := { frames := 5, cells := 0, slots := 0, locals := 118 }
theorem hiX11_apart_X11 : ∀ w ∈ u_ws RX11 TX11 8, w ∈ wsX11_apart := fun _ h => (List.mem_cons_of_mem _ (List.mem_append_left _ (List.mem_append_left _ (List.mem_append_right _ h))))
set_option maxHeartbeats 4000000 in
set_option maxRecDepth 100000 in
theorem it_X11_apart_26 (C : Cx p s m args c cX11_apart 6 RX11 wsX11_apart D ca A) (hr : meth.sig.returnType = (some .int)) (hlk : meth.locks = false) {p1 : Int} {o : (Int × Int × Int × Mem) ⊕ (Int × Mem)} (hc : ∀ (x2 x3 x4 : Int) (σ : Mem), o = .inl (x2, x3, x4, σ) → G p l e rm_X11_apart s m args below meth c 6 D ca ad A 0 0 (MQ below (Qi D ca ad A r0 σ0) args s 0 0 A) σ 26 [some (.ref (ad 0)), some (.int (iI p1)), some (.int (iI x2)), some (.int (iI x3)), some (.int (iI x4)), none] []) (he : ∀ (y2 : Int) (σ : Mem), o = .inr (y2, σ) → G p l e rm_X11_apart s m args below meth c 6 D ca ad A 0 0 (MQ below (Qi D ca ad A r0 σ0) args s 0 0 A) σ 98 [none, none, some (.int (iI y2)), none, none, none] []) {x2 x3 x4 : Int} {σ : Mem} (hf : f_X11_apart_26 p1 x2 x3 x4 σ = some o) : G p l e rm_X11_apart s m args below meth c 6 D ca ad A 0 0 (MQ below (Qi D ca ad A r0 σ0) args s 0 0 A) σ 26 [some (.ref (ad 0)), some (.int (iI p1)), some (.int (iI x2)), some (.int (iI x3)), some (.int (iI x4)), none] [] := by
  unfold f_X11_apart_26 at hf
  refine g_iload C dX11_apart_26 rfl ?_
  refine g_iload_n (i := 1) C dX11_apart_28 rfl rfl ?_
  refine g_icmp_ge (tgt := 98) C dX11_apart_29 (by decide) rfl rfl (fun c5 => ?_) (fun c5 => ?_)
  · have hf := if_t c5 hf
    exact g_mask [false, false, true, false, false, false] (he _ _ (Option.some.inj hf).symm)
  · have hf := if_f c5 hf
    refine g_aload_n (i := 0) C dX11_apart_32 rfl rfl ?_
    refine gg_X11_fair (i := 2) C hiX11_apart_X11 rfl dX11_apart_33 ?_
    refine g_iload C dX11_apart_36 rfl ?_
    obtain ⟨r7, σ6, h8, hf⟩ := ob_inv hf
    refine g_callVi C (c_X4_hasFit (by decide) h8) (cwV 1 C.2.2.2.2.1 gX11_apart_X4_hasFit rfl rfl rfl (by decide +kernel) ⟨Nat.le_of_ble_eq_true rfl, Nat.le_of_ble_eq_true rfl⟩) (ob_X4 (by decide)) rfl rfl rfl rfl (Nat.le_of_ble_eq_true rfl) dX11_apart_38 ⟨Nat.zero_le _, Nat.zero_le _⟩ ?_
    refine g_if_eq (tgt := 92) C dX11_apart_41 (by decide) rfl (fun c9 => ?_) (fun c9 => ?_)
    · have hf := if_t c9 hf
      refine g_iinc C dX11_apart_92 rfl (by decide) rfl ?_
      refine g_goto (tgt := 26) C dX11_apart_95 (by decide) ?_
      exact g_mask [true, true, true, true, true, false] (hc _ _ _ _ (Option.some.inj hf).symm)
    · have hf := if_f c9 hf
      refine g_aload_n (i := 0) C dX11_apart_44 rfl rfl ?_
      refine gg_X11_scales (i := 3) C hiX11_apart_X11 rfl dX11_apart_45 ?_
      refine g_iload C dX11_apart_48 rfl ?_
      obtain ⟨r11, σ10, h12, hf⟩ := ob_inv hf
      refine g_callVi C (c_X7_tellsAllApart  h12) (cwV 1 C.2.2.2.2.1 gX11_apart_X7_tellsAllApart rfl rfl rfl (by decide +kernel) ⟨Nat.le_of_ble_eq_true rfl, Nat.le_of_ble_eq_true rfl⟩) ob_X7 rfl rfl rfl rfl (Nat.le_of_ble_eq_true rfl) dX11_apart_50 ⟨Nat.zero_le _, Nat.zero_le _⟩ ?_
      refine g_if_eq (tgt := 92) C dX11_apart_53 (by decide) rfl (fun c13 => ?_) (fun c13 => ?_)
      · have hf := if_t c13 hf
        refine g_iinc C dX11_apart_92 rfl (by decide) rfl ?_
        refine g_goto (tgt := 26) C dX11_apart_95 (by decide) ?_
        exact g_mask [true, true, true, true, true, false] (hc _ _ _ _ (Option.some.inj hf).symm)
      · have hf := if_f c13 hf
        refine g_aload_n (i := 0) C dX11_apart_56 rfl rfl ?_
        refine g_iload C dX11_apart_57 rfl ?_
        obtain ⟨r15, σ14, h16, hf⟩ := ob_inv hf
        refine g_callVi C (c_X11_isSureFit  h16) (cwV 1 C.2.2.2.2.1 gX11_apart_X11_isSureFit rfl rfl rfl (by decide +kernel) ⟨Nat.le_of_ble_eq_true rfl, Nat.le_of_ble_eq_true rfl⟩) ob_X11 rfl rfl rfl rfl (Nat.le_of_ble_eq_true rfl) dX11_apart_59 ⟨Nat.zero_le _, Nat.zero_le _⟩ ?_
        refine g_if_eq (tgt := 92) C dX11_apart_62 (by decide) rfl (fun c17 => ?_) (fun c17 => ?_)
        · have hf := if_t c17 hf
          refine g_iinc C dX11_apart_92 rfl (by decide) rfl ?_
          refine g_goto (tgt := 26) C dX11_apart_95 (by decide) ?_
          exact g_mask [true, true, true, true, true, false] (hc _ _ _ _ (Option.some.inj hf).symm)
        · have hf := if_f c17 hf
          refine g_aload_n (i := 0) C dX11_apart_65 rfl rfl ?_
          refine gg_X11_scales (i := 3) C hiX11_apart_X11 rfl dX11_apart_66 ?_
          obtain ⟨r19, σ18, h20, hf⟩ := ob_inv hf
          refine g_callVi C (c_X7_wasted  h20) (cwV 0 C.2.2.2.2.1 gX11_apart_X7_wasted rfl rfl rfl (by decide +kernel) ⟨Nat.le_of_ble_eq_true rfl, Nat.le_of_ble_eq_true rfl⟩) ob_X7 rfl rfl rfl rfl (Nat.le_of_ble_eq_true rfl) dX11_apart_69 ⟨Nat.zero_le _, Nat.zero_le _⟩ ?_
          refine g_istore C dX11_apart_72 (by decide) rfl ?_
          refine g_iload_n (i := 2) C dX11_apart_74 rfl rfl ?_
          refine g_bipush C dX11_apart_75 (by decide) ?_
          refine g_icmp_eq (b' := (-4)) (tgt := 86) C dX11_apart_77 (by decide) rfl (by decide) (fun c21 => ?_) (fun c21 => ?_)
          · have hf := if_t c21 hf
            refine g_iload C dX11_apart_86 rfl ?_
            refine g_istore_n (i := 2) C dX11_apart_88 rfl (by decide) rfl ?_
            refine g_iload C dX11_apart_89 rfl ?_
            refine g_istore_n (i := 3) C dX11_apart_91 rfl (by decide) rfl ?_
            refine g_iinc C dX11_apart_92 rfl (by decide) rfl ?_
            refine g_goto (tgt := 26) C dX11_apart_95 (by decide) ?_
            exact g_mask [true, true, true, true, true, false] (hc _ _ _ _ (Option.some.inj hf).symm)
          · have hf := if_f c21 hf
            refine g_iload C dX11_apart_80 rfl ?_
            refine g_iload_n (i := 3) C dX11_apart_82 rfl rfl ?_
            refine g_icmp_ge (tgt := 92) C dX11_apart_83 (by decide) rfl rfl (fun c22 => ?_) (fun c22 => ?_)
            · have hf := if_t c22 hf
              refine g_iinc C dX11_apart_92 rfl (by decide) rfl ?_
              refine g_goto (tgt := 26) C dX11_apart_95 (by decide) ?_
              exact g_mask [true, true, true, true, true, false] (hc _ _ _ _ (Option.some.inj hf).symm)
            · have hf := if_f c22 hf
              refine g_iload C dX11_apart_86 rfl ?_
              refine g_istore_n (i := 2) C dX11_apart_88 rfl (by decide) rfl ?_
              refine g_iload C dX11_apart_89 rfl ?_
              refine g_istore_n (i := 3) C dX11_apart_91 rfl (by decide) rfl ?_
              refine g_iinc C dX11_apart_92 rfl (by decide) rfl ?_
              refine g_goto (tgt := 26) C dX11_apart_95 (by decide) ?_
              exact g_mask [true, true, true, true, true, false] (hc _ _ _ _ (Option.some.inj hf).symm)
set_option maxHeartbeats 4000000 in
set_option maxRecDepth 100000 in
theorem w_X11_apart_26 (C : Cx p s m args c cX11_apart 6 RX11 wsX11_apart D ca A) (hr : meth.sig.returnType = (some .int)) (hlk : meth.locks = false) {p1 : Int} {n : Nat} {x2 x3 x4 : Int} {σ : Mem} {b : (Int × Mem)} (h : itr (fun z : Int × Int × Int × Mem => f_X11_apart_26 p1 z.1 z.2.1 z.2.2.1 z.2.2.2) n (x2, x3, x4, σ) = some b) (he : ∀ (y2 : Int) (σ : Mem), b = (y2, σ) → G p l e rm_X11_apart s m args below meth c 6 D ca ad A 0 0 (MQ below (Qi D ca ad A r0 σ0) args s 0 0 A) σ 98 [none, none, some (.int (iI y2)), none, none, none] []) : G p l e rm_X11_apart s m args below meth c 6 D ca ad A 0 0 (MQ below (Qi D ca ad A r0 σ0) args s 0 0 A) σ 26 [some (.ref (ad 0)), some (.int (iI p1)), some (.int (iI x2)), some (.int (iI x3)), some (.int (iI x4)), none] [] :=
  itr_rule (P := fun z : Int × Int × Int × Mem => G p l e rm_X11_apart s m args below meth c 6 D ca ad A 0 0 (MQ below (Qi D ca ad A r0 σ0) args s 0 0 A) z.2.2.2 26 [some (.ref (ad 0)), some (.int (iI p1)), some (.int (iI z.1)), some (.int (iI z.2.1)), some (.int (iI z.2.2.1)), none] []) (E := fun b => ∀ (y2 : Int) (σ : Mem), b = (y2, σ) → G p l e rm_X11_apart s m args below meth c 6 D ca ad A 0 0 (MQ below (Qi D ca ad A r0 σ0) args s 0 0 A) σ 98 [none, none, some (.int (iI y2)), none, none, none] []) (fun z o hb hc he => it_X11_apart_26 C hr hlk (fun _ _ _ _ e => hc _ e) (fun _ _ e => (he _ e) _ _ rfl) hb) n _ _ h he
set_option maxHeartbeats 4000000 in
set_option maxRecDepth 100000 in
theorem c_X11_apart {σ : Mem} (hf : f_X11_apart  σ = some (r0, σ0)) : CTi l D ca ad A yX11_apart wsX11_apart rm_X11_apart [.ref (ad 0)] σ r0 σ0 := by
  refine ct_i (cc := cX11_apart) (own := RX11) (maxL := 6) (ret := (some .int)) (lv0 := [some (.ref (ad 0)), none, none, none, none, none]) (by decide) rfl rfl rfl (Nat.le_of_ble_eq_true rfl) ?_
  intro p e s m below meth c C hr hlk hnm
  unfold f_X11_apart at hf
  refine g_aload_n (i := 0) C dX11_apart_0 rfl rfl ?_
  refine gg_X11_hasMarket (i := 1) C hiX11_apart_X11 rfl dX11_apart_1 ?_
  refine g_if_ne (tgt := 10) C dX11_apart_4 (by decide) rfl (fun c1 => ?_) (fun c1 => ?_)
  · have hf := if_f c1 hf
    refine g_aload_n (i := 0) C dX11_apart_10 rfl rfl ?_
    refine gg_X11_fair (i := 2) C hiX11_apart_X11 rfl dX11_apart_11 ?_
    obtain ⟨r3, σ2, h4, hf⟩ := ob_inv hf
    refine g_callVi C (c_X4_fitNumbers (by decide) h4) (cwV 0 C.2.2.2.2.1 gX11_apart_X4_fitNumbers rfl rfl rfl (by decide +kernel) ⟨Nat.le_of_ble_eq_true rfl, Nat.le_of_ble_eq_true rfl⟩) (ob_X4 (by decide)) rfl rfl rfl rfl (Nat.le_of_ble_eq_true rfl) dX11_apart_14 ⟨Nat.zero_le _, Nat.zero_le _⟩ ?_
    refine g_istore_n (i := 1) C dX11_apart_17 rfl (by decide) rfl ?_
    refine g_bipush C dX11_apart_18 (by decide) ?_
    refine g_istore_n (i := 2) C dX11_apart_20 rfl (by decide) rfl ?_
    refine g_iconst C dX11_apart_21 ?_
    refine g_istore_n (i := 3) C dX11_apart_22 rfl (by decide) rfl ?_
    refine g_iconst C dX11_apart_23 ?_
    refine g_istore C dX11_apart_24 (by decide) rfl ?_
    obtain ⟨q23, hl24, hf⟩ := lb_inv hf
    refine g_mask [true, true, true, true, true, false] (w_X11_apart_26 C hr hlk hl24 ?_)
    · rintro y25 σ26 rfl
      refine g_iload_n (i := 2) C dX11_apart_98 rfl rfl ?_
      obtain ⟨e1, e2⟩ := some_inv hf
      exact g_iret C hr hlk e1 e2 dX11_apart_99
  · have hf := if_t c1 hf
    refine g_bipush C dX11_apart_7 (by decide) ?_
    obtain ⟨e1, e2⟩ := some_inv hf
    exact g_iret C hr hlk e1 e2 dX11_apart_9
/-! X11_justNot -/
abbrev rm_X11_justNot : Room := { frames := 6, cells := 0, slots := 0, locals := 140 }
theorem hiX11_justNot_X11 : ∀ w ∈ u_ws RX11 TX11 8, w ∈ wsX11_justNot := fun _ h => (List.mem_cons_of_mem _ (List.mem_append_left _ (List.mem_append_left _ (List.mem_append_right _ h))))
set_option maxHeartbeats 4000000 in
set_option maxRecDepth 100000 in
theorem c_X11_justNot {v1 : Int} {σ : Mem} (hf : f_X11_justNot v1 σ = some (r0, σ0)) : CTi l D ca ad A yX11_justNot wsX11_justNot rm_X11_justNot [.ref (ad 0), .int (iI v1)] σ r0 σ0 := by
  refine ct_i (cc := cX11_justNot) (own := RX11) (maxL := 3) (ret := (some .int)) (lv0 := [some (.ref (ad 0)), some (.int (iI v1)), none]) (by decide) rfl rfl rfl (Nat.le_of_ble_eq_true rfl) ?_
  intro p e s m below meth c C hr hlk hnm
  unfold f_X11_justNot at hf
  refine g_aload_n (i := 0) C dX11_justNot_0 rfl rfl ?_
  refine g_iload_n (i := 1) C dX11_justNot_1 rfl rfl ?_
  obtain ⟨r2, σ1, h3, hf⟩ := ob_inv hf
  refine g_callVi C (c_X11_sureFitFault  h3) (cwV 1 C.2.2.2.2.1 gX11_justNot_X11_sureFitFault rfl rfl rfl (by decide +kernel) ⟨Nat.le_of_ble_eq_true rfl, Nat.le_of_ble_eq_true rfl⟩) ob_X11 rfl rfl rfl rfl (Nat.le_of_ble_eq_true rfl) dX11_justNot_2 ⟨Nat.zero_le _, Nat.zero_le _⟩ ?_
  refine g_istore_n (i := 2) C dX11_justNot_5 rfl (by decide) rfl ?_
  refine g_iload_n (i := 2) C dX11_justNot_6 rfl rfl ?_
  refine g_if_eq (tgt := 14) C dX11_justNot_7 (by decide) rfl (fun c4 => ?_) (fun c4 => ?_)
  · have hf := if_t c4 hf
    refine g_aload_n (i := 0) C dX11_justNot_14 rfl rfl ?_
    refine gg_X11_scales (i := 1) C hiX11_justNot_X11 rfl dX11_justNot_15 ?_
    obtain ⟨r6, σ5, h7, hf⟩ := ob_inv hf
    refine g_callVi C (c_X7_leastLoss  h7) (cwV 0 C.2.2.2.2.1 gX11_justNot_X7_leastLoss rfl rfl rfl (by decide +kernel) ⟨Nat.le_of_ble_eq_true rfl, Nat.le_of_ble_eq_true rfl⟩) ob_X7 rfl rfl rfl rfl (Nat.le_of_ble_eq_true rfl) dX11_justNot_18 ⟨Nat.zero_le _, Nat.zero_le _⟩ ?_
    obtain ⟨e1, e2⟩ := some_inv hf
    exact g_iret C hr hlk e1 e2 dX11_justNot_21
  · have hf := if_f c4 hf
    refine g_iload_n (i := 2) C dX11_justNot_10 rfl rfl ?_
    refine g_goto (tgt := 21) C dX11_justNot_11 (by decide) ?_
    obtain ⟨e1, e2⟩ := some_inv hf
    exact g_iret C hr hlk e1 e2 dX11_justNot_21
/-! X11_waste -/
abbrev rm_X11_waste : Room := { frames := 2, cells := 0, slots := 0, locals := 45 }
theorem hiX11_waste_X11 : ∀ w ∈ u_ws RX11 TX11 8, w ∈ wsX11_waste := fun _ h => (List.mem_cons_of_mem _ (List.mem_append_left _ (List.mem_append_left _ (List.mem_append_right _ h))))
set_option maxHeartbeats 4000000 in
set_option maxRecDepth 100000 in
theorem c_X11_waste {v1 : Int} {σ : Mem} (hf : f_X11_waste v1 σ = some (r0, σ0)) : CTi l D ca ad A yX11_waste wsX11_waste rm_X11_waste [.ref (ad 0), .int (iI v1)] σ r0 σ0 := by
  refine ct_i (cc := cX11_waste) (own := RX11) (maxL := 3) (ret := (some .int)) (lv0 := [some (.ref (ad 0)), some (.int (iI v1)), none]) (by decide) rfl rfl rfl (Nat.le_of_ble_eq_true rfl) ?_
  intro p e s m below meth c C hr hlk hnm
  unfold f_X11_waste at hf
  refine g_aload_n (i := 0) C dX11_waste_0 rfl rfl ?_
  refine g_iload_n (i := 1) C dX11_waste_1 rfl rfl ?_
  obtain ⟨r2, σ1, h3, hf⟩ := ob_inv hf
  refine g_callVi C (c_X11_fitFault  h3) (cwV 1 C.2.2.2.2.1 gX11_waste_X11_fitFault rfl rfl rfl (by decide +kernel) ⟨Nat.le_of_ble_eq_true rfl, Nat.le_of_ble_eq_true rfl⟩) ob_X11 rfl rfl rfl rfl (Nat.le_of_ble_eq_true rfl) dX11_waste_2 ⟨Nat.zero_le _, Nat.zero_le _⟩ ?_
  refine g_istore_n (i := 2) C dX11_waste_5 rfl (by decide) rfl ?_
  refine g_iload_n (i := 2) C dX11_waste_6 rfl rfl ?_
  refine g_if_eq (tgt := 12) C dX11_waste_7 (by decide) rfl (fun c4 => ?_) (fun c4 => ?_)
  · have hf := if_t c4 hf
    refine g_aload_n (i := 0) C dX11_waste_12 rfl rfl ?_
    refine gg_X11_scales (i := 1) C hiX11_waste_X11 rfl dX11_waste_13 ?_
    refine g_iload_n (i := 1) C dX11_waste_16 rfl rfl ?_
    obtain ⟨r6, σ5, h7, hf⟩ := ob_inv hf
    refine g_callVv C (c_X7_lay  h7) (cwV 1 C.2.2.2.2.1 gX11_waste_X7_lay rfl rfl rfl (by decide +kernel) ⟨Nat.le_of_ble_eq_true rfl, Nat.le_of_ble_eq_true rfl⟩) ob_X7 rfl rfl rfl rfl (Nat.le_of_ble_eq_true rfl) dX11_waste_17 ⟨Nat.zero_le _, Nat.zero_le _⟩ ?_
    refine g_aload_n (i := 0) C dX11_waste_20 rfl rfl ?_
    refine gg_X11_scales (i := 1) C hiX11_waste_X11 rfl dX11_waste_21 ?_
    obtain ⟨r9, σ8, h10, hf⟩ := ob_inv hf
    refine g_callVi C (c_X7_wasted  h10) (cwV 0 C.2.2.2.2.1 gX11_waste_X7_wasted rfl rfl rfl (by decide +kernel) ⟨Nat.le_of_ble_eq_true rfl, Nat.le_of_ble_eq_true rfl⟩) ob_X7 rfl rfl rfl rfl (Nat.le_of_ble_eq_true rfl) dX11_waste_24 ⟨Nat.zero_le _, Nat.zero_le _⟩ ?_
    obtain ⟨e1, e2⟩ := some_inv hf
    exact g_iret C hr hlk e1 e2 dX11_waste_27
  · have hf := if_f c4 hf
    refine g_iload_n (i := 2) C dX11_waste_10 rfl rfl ?_
    obtain ⟨e1, e2⟩ := some_inv hf
    exact g_iret C hr hlk e1 e2 dX11_waste_11
/-! X11_gain -/
abbrev rm_X11_gain : Room := { frames := 4, cells := 0, slots := 0, locals := 80 }
theorem hiX11_gain_X11 : ∀ w ∈ u_ws RX11 TX11 8, w ∈ wsX11_gain := fun _ h => (List.mem_cons_of_mem _ (List.mem_append_left _ (List.mem_append_left _ (List.mem_append_right _ h))))
set_option maxHeartbeats 4000000 in
set_option maxRecDepth 100000 in
theorem c_X11_gain {v1 v2 v3 v4 : Int} {σ : Mem} (hf : f_X11_gain v1 v2 v3 v4 σ = some (r0, σ0)) : CTl l D ca ad A yX11_gain wsX11_gain rm_X11_gain [.ref (ad 0), .int (iI v1), .int (iI v2), .int (iI v3), .int (iI v4)] σ r0 σ0 := by
  refine ct_l (cc := cX11_gain) (own := RX11) (maxL := 5) (ret := (some .long)) (lv0 := [some (.ref (ad 0)), some (.int (iI v1)), some (.int (iI v2)), some (.int (iI v3)), some (.int (iI v4))]) (by decide) rfl rfl rfl (Nat.le_of_ble_eq_true rfl) ?_
  intro p e s m below meth c C hr hlk hnm
  unfold f_X11_gain at hf
  refine g_aload_n (i := 0) C dX11_gain_0 rfl rfl ?_
  refine gg_X11_hasMarket (i := 1) C hiX11_gain_X11 rfl dX11_gain_1 ?_
  refine g_if_eq (tgt := 44) C dX11_gain_4 (by decide) rfl (fun c1 => ?_) (fun c1 => ?_)
  · have hf := if_t c1 hf
    refine g_ldc2 (i := 3) (z := -4611686018427387904) C dX11_gain_44 rfl (by decide) ?_
    obtain ⟨e1, e2⟩ := some_inv hf
    exact g_lret C hr hlk e1 e2 dX11_gain_47
  · have hf := if_f c1 hf
    refine g_aload_n (i := 0) C dX11_gain_7 rfl rfl ?_
    refine gg_X11_fair (i := 2) C hiX11_gain_X11 rfl dX11_gain_8 ?_
    refine g_iload_n (i := 1) C dX11_gain_11 rfl rfl ?_
    obtain ⟨r3, σ2, h4, hf⟩ := ob_inv hf
    refine g_callVi C (c_X4_hasFit (by decide) h4) (cwV 1 C.2.2.2.2.1 gX11_gain_X4_hasFit rfl rfl rfl (by decide +kernel) ⟨Nat.le_of_ble_eq_true rfl, Nat.le_of_ble_eq_true rfl⟩) (ob_X4 (by decide)) rfl rfl rfl rfl (Nat.le_of_ble_eq_true rfl) dX11_gain_12 ⟨Nat.zero_le _, Nat.zero_le _⟩ ?_
    refine g_if_eq (tgt := 44) C dX11_gain_15 (by decide) rfl (fun c5 => ?_) (fun c5 => ?_)
    · have hf := if_t c5 hf
      refine g_ldc2 (i := 3) (z := -4611686018427387904) C dX11_gain_44 rfl (by decide) ?_
      obtain ⟨e1, e2⟩ := some_inv hf
      exact g_lret C hr hlk e1 e2 dX11_gain_47
    · have hf := if_f c5 hf
      refine g_aload_n (i := 0) C dX11_gain_18 rfl rfl ?_
      refine gg_X11_fair (i := 2) C hiX11_gain_X11 rfl dX11_gain_19 ?_
      refine g_iload_n (i := 2) C dX11_gain_22 rfl rfl ?_
      obtain ⟨r7, σ6, h8, hf⟩ := ob_inv hf
      refine g_callVi C (c_X4_hasSort (by decide) h8) (cwV 1 C.2.2.2.2.1 gX11_gain_X4_hasSort rfl rfl rfl (by decide +kernel) ⟨Nat.le_of_ble_eq_true rfl, Nat.le_of_ble_eq_true rfl⟩) (ob_X4 (by decide)) rfl rfl rfl rfl (Nat.le_of_ble_eq_true rfl) dX11_gain_23 ⟨Nat.zero_le _, Nat.zero_le _⟩ ?_
      refine g_if_eq (tgt := 44) C dX11_gain_26 (by decide) rfl (fun c9 => ?_) (fun c9 => ?_)
      · have hf := if_t c9 hf
        refine g_ldc2 (i := 3) (z := -4611686018427387904) C dX11_gain_44 rfl (by decide) ?_
        obtain ⟨e1, e2⟩ := some_inv hf
        exact g_lret C hr hlk e1 e2 dX11_gain_47
      · have hf := if_f c9 hf
        refine g_iload_n (i := 3) C dX11_gain_29 rfl rfl ?_
        obtain ⟨r11, σ10, h12, hf⟩ := ob_inv hf
        refine g_callSi C (c_X11_isBit  h12) (va_cwS 1 C.2.2.2.2.1 gX11_gain_X11_isBit rfl rfl rfl (by decide +kernel) ⟨Nat.le_of_ble_eq_true rfl, Nat.le_of_ble_eq_true rfl⟩) rfl rfl (Nat.le_of_ble_eq_true rfl) dX11_gain_30 ⟨Nat.zero_le _, Nat.zero_le _⟩ ?_
        refine g_if_eq (tgt := 44) C dX11_gain_33 (by decide) rfl (fun c13 => ?_) (fun c13 => ?_)
        · have hf := if_t c13 hf
          refine g_ldc2 (i := 3) (z := -4611686018427387904) C dX11_gain_44 rfl (by decide) ?_
          obtain ⟨e1, e2⟩ := some_inv hf
          exact g_lret C hr hlk e1 e2 dX11_gain_47
        · have hf := if_f c13 hf
          refine g_iload C dX11_gain_36 rfl ?_
          obtain ⟨r15, σ14, h16, hf⟩ := ob_inv hf
          refine g_callSi C (c_X11_isBit  h16) (va_cwS 1 C.2.2.2.2.1 gX11_gain_X11_isBit rfl rfl rfl (by decide +kernel) ⟨Nat.le_of_ble_eq_true rfl, Nat.le_of_ble_eq_true rfl⟩) rfl rfl (Nat.le_of_ble_eq_true rfl) dX11_gain_38 ⟨Nat.zero_le _, Nat.zero_le _⟩ ?_
          refine g_if_ne (tgt := 48) C dX11_gain_41 (by decide) rfl (fun c17 => ?_) (fun c17 => ?_)
          · have hf := if_f c17 hf
            refine g_aload_n (i := 0) C dX11_gain_48 rfl rfl ?_
            refine gg_X11_scales (i := 4) C hiX11_gain_X11 rfl dX11_gain_49 ?_
            refine g_iload_n (i := 1) C dX11_gain_52 rfl rfl ?_
            obtain ⟨r19, σ18, h20, hf⟩ := ob_inv hf
            refine g_callVv C (c_X7_weigh  h20) (cwV 1 C.2.2.2.2.1 gX11_gain_X7_weigh rfl rfl rfl (by decide +kernel) ⟨Nat.le_of_ble_eq_true rfl, Nat.le_of_ble_eq_true rfl⟩) ob_X7 rfl rfl rfl rfl (Nat.le_of_ble_eq_true rfl) dX11_gain_53 ⟨Nat.zero_le _, Nat.zero_le _⟩ ?_
            refine g_aload_n (i := 0) C dX11_gain_56 rfl rfl ?_
            refine gg_X11_scales (i := 4) C hiX11_gain_X11 rfl dX11_gain_57 ?_
            refine g_iload_n (i := 2) C dX11_gain_60 rfl rfl ?_
            refine g_iload_n (i := 3) C dX11_gain_61 rfl rfl ?_
            obtain ⟨r22, σ21, h23, hf⟩ := ob_inv hf
            refine g_callVl C (c_X7_gainTop  h23) (cwV 2 C.2.2.2.2.1 gX11_gain_X7_gainTop rfl rfl rfl (by decide +kernel) ⟨Nat.le_of_ble_eq_true rfl, Nat.le_of_ble_eq_true rfl⟩) ob_X7 rfl rfl rfl rfl (Nat.le_of_ble_eq_true rfl) dX11_gain_62 ⟨Nat.zero_le _, Nat.zero_le _⟩ ?_
            refine g_aload_n (i := 0) C dX11_gain_65 rfl rfl ?_
            refine gg_X11_scales (i := 4) C hiX11_gain_X11 rfl dX11_gain_66 ?_
            refine g_iload_n (i := 2) C dX11_gain_69 rfl rfl ?_
            obtain ⟨r25, σ24, h26, hf⟩ := ob_inv hf
            refine g_callVl C (c_X7_gainUnder  h26) (cwV 1 C.2.2.2.2.1 gX11_gain_X7_gainUnder rfl rfl rfl (by decide +kernel) ⟨Nat.le_of_ble_eq_true rfl, Nat.le_of_ble_eq_true rfl⟩) ob_X7 rfl rfl rfl rfl (Nat.le_of_ble_eq_true rfl) dX11_gain_70 ⟨Nat.zero_le _, Nat.zero_le _⟩ ?_
            refine g_iload C dX11_gain_73 rfl ?_
            obtain ⟨r28, σ27, h29, hf⟩ := ob_inv hf
            refine g_callSl C (c_X11_inLeastTerms  h29) (va_cwS 3 C.2.2.2.2.1 gX11_gain_X11_inLeastTerms rfl rfl rfl (by decide +kernel) ⟨Nat.le_of_ble_eq_true rfl, Nat.le_of_ble_eq_true rfl⟩) rfl rfl (Nat.le_of_ble_eq_true rfl) dX11_gain_75 ⟨Nat.zero_le _, Nat.zero_le _⟩ ?_
            obtain ⟨e1, e2⟩ := some_inv hf
            exact g_lret C hr hlk e1 e2 dX11_gain_78
          · have hf := if_t c17 hf
            refine g_ldc2 (i := 3) (z := -4611686018427387904) C dX11_gain_44 rfl (by decide) ?_
            obtain ⟨e1, e2⟩ := some_inv hf
            exact g_lret C hr hlk e1 e2 dX11_gain_47
/-! X11_inOne -/
abbrev rm_X11_inOne : Room := { frames := 2, cells := 0, slots := 0, locals := 38 }
theorem hiX11_inOne_X11 : ∀ w ∈ u_ws RX11 TX11 8, w ∈ wsX11_inOne := fun _ h => (List.mem_cons_of_mem _ (List.mem_append_left _ (List.mem_append_right _ h)))
set_option maxHeartbeats 4000000 in
set_option maxRecDepth 100000 in
theorem c_X11_inOne {v1 v2 : Int} {σ : Mem} (hf : f_X11_inOne v1 v2 σ = some (r0, σ0)) : CTi l D ca ad A yX11_inOne wsX11_inOne rm_X11_inOne [.ref (ad 0), .int (iI v1), .int (iI v2)] σ r0 σ0 := by
  refine ct_i (cc := cX11_inOne) (own := RX11) (maxL := 3) (ret := (some .int)) (lv0 := [some (.ref (ad 0)), some (.int (iI v1)), some (.int (iI v2))]) (by decide) rfl rfl rfl (Nat.le_of_ble_eq_true rfl) ?_
  intro p e s m below meth c C hr hlk hnm
  unfold f_X11_inOne at hf
  refine g_aload_n (i := 0) C dX11_inOne_0 rfl rfl ?_
  refine gg_X11_hasMarket (i := 1) C hiX11_inOne_X11 rfl dX11_inOne_1 ?_
  refine g_if_ne (tgt := 10) C dX11_inOne_4 (by decide) rfl (fun c1 => ?_) (fun c1 => ?_)
  · have hf := if_f c1 hf
    refine g_aload_n (i := 0) C dX11_inOne_10 rfl rfl ?_
    refine gg_X11_fair (i := 2) C hiX11_inOne_X11 rfl dX11_inOne_11 ?_
    refine g_iload_n (i := 1) C dX11_inOne_14 rfl rfl ?_
    obtain ⟨r3, σ2, h4, hf⟩ := ob_inv hf
    refine g_callVi C (c_X4_hasMark (by decide) h4) (cwV 1 C.2.2.2.2.1 gX11_inOne_X4_hasMark rfl rfl rfl (by decide +kernel) ⟨Nat.le_of_ble_eq_true rfl, Nat.le_of_ble_eq_true rfl⟩) (ob_X4 (by decide)) rfl rfl rfl rfl (Nat.le_of_ble_eq_true rfl) dX11_inOne_15 ⟨Nat.zero_le _, Nat.zero_le _⟩ ?_
    refine g_if_eq (tgt := 37) C dX11_inOne_18 (by decide) rfl (fun c5 => ?_) (fun c5 => ?_)
    · have hf := if_t c5 hf
      refine g_iconst C dX11_inOne_37 ?_
      obtain ⟨e1, e2⟩ := some_inv hf
      exact g_iret C hr hlk e1 e2 dX11_inOne_38
    · have hf := if_f c5 hf
      refine g_aload_n (i := 0) C dX11_inOne_21 rfl rfl ?_
      refine gg_X11_fair (i := 2) C hiX11_inOne_X11 rfl dX11_inOne_22 ?_
      refine g_iload_n (i := 2) C dX11_inOne_25 rfl rfl ?_
      obtain ⟨r7, σ6, h8, hf⟩ := ob_inv hf
      refine g_callVi C (c_X4_hasMark (by decide) h8) (cwV 1 C.2.2.2.2.1 gX11_inOne_X4_hasMark rfl rfl rfl (by decide +kernel) ⟨Nat.le_of_ble_eq_true rfl, Nat.le_of_ble_eq_true rfl⟩) (ob_X4 (by decide)) rfl rfl rfl rfl (Nat.le_of_ble_eq_true rfl) dX11_inOne_26 ⟨Nat.zero_le _, Nat.zero_le _⟩ ?_
      refine g_if_eq (tgt := 37) C dX11_inOne_29 (by decide) rfl (fun c9 => ?_) (fun c9 => ?_)
      · have hf := if_t c9 hf
        refine g_iconst C dX11_inOne_37 ?_
        obtain ⟨e1, e2⟩ := some_inv hf
        exact g_iret C hr hlk e1 e2 dX11_inOne_38
      · have hf := if_f c9 hf
        refine g_iload_n (i := 1) C dX11_inOne_32 rfl rfl ?_
        refine g_iload_n (i := 2) C dX11_inOne_33 rfl rfl ?_
        refine g_icmp_ne (tgt := 39) C dX11_inOne_34 (by decide) rfl rfl (fun c10 => ?_) (fun c10 => ?_)
        · have hf := if_f c10 hf
          refine g_aload_n (i := 0) C dX11_inOne_39 rfl rfl ?_
          refine gg_X11_fair (i := 2) C hiX11_inOne_X11 rfl dX11_inOne_40 ?_
          refine g_iload_n (i := 1) C dX11_inOne_43 rfl rfl ?_
          refine g_iload_n (i := 2) C dX11_inOne_44 rfl rfl ?_
          obtain ⟨r12, σ11, h13, hf⟩ := ob_inv hf
          refine g_callVi C (c_X4_join (by decide) h13) (cwV 2 C.2.2.2.2.1 gX11_inOne_X4_join rfl rfl rfl (by decide +kernel) ⟨Nat.le_of_ble_eq_true rfl, Nat.le_of_ble_eq_true rfl⟩) (ob_X4 (by decide)) rfl rfl rfl rfl (Nat.le_of_ble_eq_true rfl) dX11_inOne_45 ⟨Nat.zero_le _, Nat.zero_le _⟩ ?_
          obtain ⟨e1, e2⟩ := some_inv hf
          exact g_iret C hr hlk e1 e2 dX11_inOne_48
        · have hf := if_t c10 hf
          refine g_iconst C dX11_inOne_37 ?_
          obtain ⟨e1, e2⟩ := some_inv hf
          exact g_iret C hr hlk e1 e2 dX11_inOne_38
  · have hf := if_t c1 hf
    refine g_bipush C dX11_inOne_7 (by decide) ?_
    obtain ⟨e1, e2⟩ := some_inv hf
    exact g_iret C hr hlk e1 e2 dX11_inOne_9
/-! X11_bars -/
abbrev rm_X11_bars : Room := { frames := 5, cells := 0, slots := 0, locals := 118 }
theorem hiX11_bars_X11 : ∀ w ∈ u_ws RX11 TX11 8, w ∈ wsX11_bars := fun _ h => (List.mem_cons_of_mem _ (List.mem_append_left _ (List.mem_append_left _ (List.mem_append_right _ h))))
theorem hiX11_bars_X7 : ∀ w ∈ u_ws RX7 TX7 14, w ∈ wsX11_bars := fun _ h => (List.mem_cons_of_mem _ (List.mem_append_left _ (List.mem_append_right _ h)))
set_option maxHeartbeats 4000000 in
set_option maxRecDepth 100000 in
theorem it_X11_bars_48 (C : Cx p s m args c cX11_bars 5 RX11 wsX11_bars D ca A) (hr : meth.sig.returnType = (some .int)) (hlk : meth.locks = false) {p2 : Int} {o : (Int × Int × Mem) ⊕ (Int × Mem)} (hc : ∀ (x3 x4 : Int) (σ : Mem), o = .inl (x3, x4, σ) → G p l e rm_X11_bars s m args below meth c 5 D ca ad A 0 0 (MQ below (Qi D ca ad A r0 σ0) args s 0 0 A) σ 48 [some (.ref (ad 0)), none, some (.int (iI p2)), some (.int (iI x3)), some (.int (iI x4))] []) (he : ∀ (y3 : Int) (σ : Mem), o = .inr (y3, σ) → G p l e rm_X11_bars s m args below meth c 5 D ca ad A 0 0 (MQ below (Qi D ca ad A r0 σ0) args s 0 0 A) σ 72 [some (.ref (ad 0)), none, none, some (.int (iI y3)), none] []) {x3 x4 : Int} {σ : Mem} (hf : f_X11_bars_48 p2 x3 x4 σ = some o) : G p l e rm_X11_bars s m args below meth c 5 D ca ad A 0 0 (MQ below (Qi D ca ad A r0 σ0) args s 0 0 A) σ 48 [some (.ref (ad 0)), none, some (.int (iI p2)), some (.int (iI x3)), some (.int (iI x4))] [] := by
  unfold f_X11_bars_48 at hf
  refine g_iload C dX11_bars_48 rfl ?_
  refine g_iload_n (i := 2) C dX11_bars_50 rfl rfl ?_
  refine g_icmp_ge (tgt := 72) C dX11_bars_51 (by decide) rfl rfl (fun c11 => ?_) (fun c11 => ?_)
  · have hf := if_t c11 hf
    exact g_mask [true, false, false, true, false] (he _ _ (Option.some.inj hf).symm)
  · have hf := if_f c11 hf
    refine g_aload_n (i := 0) C dX11_bars_54 rfl rfl ?_
    refine g_iload C dX11_bars_55 rfl ?_
    obtain ⟨r13, σ12, h14, hf⟩ := ob_inv hf
    refine g_callVi C (c_X11_isSureFit  h14) (cwV 1 C.2.2.2.2.1 gX11_bars_X11_isSureFit rfl rfl rfl (by decide +kernel) ⟨Nat.le_of_ble_eq_true rfl, Nat.le_of_ble_eq_true rfl⟩) ob_X11 rfl rfl rfl rfl (Nat.le_of_ble_eq_true rfl) dX11_bars_57 ⟨Nat.zero_le _, Nat.zero_le _⟩ ?_
    refine g_if_eq (tgt := 66) C dX11_bars_60 (by decide) rfl (fun c15 => ?_) (fun c15 => ?_)
    · have hf := if_t c15 hf
      refine g_iinc C dX11_bars_66 rfl (by decide) rfl ?_
      refine g_goto (tgt := 48) C dX11_bars_69 (by decide) ?_
      exact g_mask [true, false, true, true, true] (hc _ _ _ (Option.some.inj hf).symm)
    · have hf := if_f c15 hf
      refine g_iinc C dX11_bars_63 rfl (by decide) rfl ?_
      refine g_iinc C dX11_bars_66 rfl (by decide) rfl ?_
      refine g_goto (tgt := 48) C dX11_bars_69 (by decide) ?_
      exact g_mask [true, false, true, true, true] (hc _ _ _ (Option.some.inj hf).symm)
set_option maxHeartbeats 4000000 in
set_option maxRecDepth 100000 in
theorem w_X11_bars_48 (C : Cx p s m args c cX11_bars 5 RX11 wsX11_bars D ca A) (hr : meth.sig.returnType = (some .int)) (hlk : meth.locks = false) {p2 : Int} {n : Nat} {x3 x4 : Int} {σ : Mem} {b : (Int × Mem)} (h : itr (fun z : Int × Int × Mem => f_X11_bars_48 p2 z.1 z.2.1 z.2.2) n (x3, x4, σ) = some b) (he : ∀ (y3 : Int) (σ : Mem), b = (y3, σ) → G p l e rm_X11_bars s m args below meth c 5 D ca ad A 0 0 (MQ below (Qi D ca ad A r0 σ0) args s 0 0 A) σ 72 [some (.ref (ad 0)), none, none, some (.int (iI y3)), none] []) : G p l e rm_X11_bars s m args below meth c 5 D ca ad A 0 0 (MQ below (Qi D ca ad A r0 σ0) args s 0 0 A) σ 48 [some (.ref (ad 0)), none, some (.int (iI p2)), some (.int (iI x3)), some (.int (iI x4))] [] :=
  itr_rule (P := fun z : Int × Int × Mem => G p l e rm_X11_bars s m args below meth c 5 D ca ad A 0 0 (MQ below (Qi D ca ad A r0 σ0) args s 0 0 A) z.2.2 48 [some (.ref (ad 0)), none, some (.int (iI p2)), some (.int (iI z.1)), some (.int (iI z.2.1))] []) (E := fun b => ∀ (y3 : Int) (σ : Mem), b = (y3, σ) → G p l e rm_X11_bars s m args below meth c 5 D ca ad A 0 0 (MQ below (Qi D ca ad A r0 σ0) args s 0 0 A) σ 72 [some (.ref (ad 0)), none, none, some (.int (iI y3)), none] []) (fun z o hb hc he => it_X11_bars_48 C hr hlk (fun _ _ _ e => hc _ e) (fun _ _ e => (he _ e) _ _ rfl) hb) n _ _ h he
set_option maxHeartbeats 4000000 in
set_option maxRecDepth 100000 in
theorem c_X11_bars {v1 : Int} {σ : Mem} (hf : f_X11_bars v1 σ = some (r0, σ0)) : CTi l D ca ad A yX11_bars wsX11_bars rm_X11_bars [.ref (ad 0), .int (iI v1)] σ r0 σ0 := by
  refine ct_i (cc := cX11_bars) (own := RX11) (maxL := 5) (ret := (some .int)) (lv0 := [some (.ref (ad 0)), some (.int (iI v1)), none, none, none]) (by decide) rfl rfl rfl (Nat.le_of_ble_eq_true rfl) ?_
  intro p e s m below meth c C hr hlk hnm
  unfold f_X11_bars at hf
  refine g_aload_n (i := 0) C dX11_bars_0 rfl rfl ?_
  refine gg_X11_hasMarket (i := 1) C hiX11_bars_X11 rfl dX11_bars_1 ?_
  refine g_if_ne (tgt := 10) C dX11_bars_4 (by decide) rfl (fun c1 => ?_) (fun c1 => ?_)
  · have hf := if_f c1 hf
    refine g_iload_n (i := 1) C dX11_bars_10 rfl rfl ?_
    refine g_if_lt (tgt := 25) C dX11_bars_11 (by decide) rfl (fun c2 => ?_) (fun c2 => ?_)
    · have hf := if_t c2 hf
      refine g_iconst C dX11_bars_25 ?_
      obtain ⟨e1, e2⟩ := some_inv hf
      exact g_iret C hr hlk e1 e2 dX11_bars_26
    · have hf := if_f c2 hf
      refine g_iload_n (i := 1) C dX11_bars_14 rfl rfl ?_
      refine g_aload_n (i := 0) C dX11_bars_15 rfl rfl ?_
      refine gg_X11_fair (i := 2) C hiX11_bars_X11 rfl dX11_bars_16 ?_
      obtain ⟨r4, σ3, h5, hf⟩ := ob_inv hf
      refine g_callVi C (c_X4_allMarks (by decide) h5) (cwV 0 C.2.2.2.2.1 gX11_bars_X4_allMarks rfl rfl rfl (by decide +kernel) ⟨Nat.le_of_ble_eq_true rfl, Nat.le_of_ble_eq_true rfl⟩) (ob_X4 (by decide)) rfl rfl rfl rfl (Nat.le_of_ble_eq_true rfl) dX11_bars_19 ⟨Nat.zero_le _, Nat.zero_le _⟩ ?_
      refine g_icmp_lt (tgt := 27) C dX11_bars_22 (by decide) rfl rfl (fun c6 => ?_) (fun c6 => ?_)
      · have hf := if_t c6 hf
        refine g_aload_n (i := 0) C dX11_bars_27 rfl rfl ?_
        refine gg_X11_scales (i := 3) C hiX11_bars_X11 rfl dX11_bars_28 ?_
        refine g_iload_n (i := 1) C dX11_bars_31 rfl rfl ?_
        refine gp_X7_bars (i := 4) C hiX11_bars_X7 rfl dX11_bars_32 ?_
        refine g_aload_n (i := 0) C dX11_bars_35 rfl rfl ?_
        refine gg_X11_fair (i := 2) C hiX11_bars_X11 rfl dX11_bars_36 ?_
        obtain ⟨r9, σ8, h10, hf⟩ := ob_inv hf
        refine g_callVi C (c_X4_fitNumbers (by decide) h10) (cwV 0 C.2.2.2.2.1 gX11_bars_X4_fitNumbers rfl rfl rfl (by decide +kernel) ⟨Nat.le_of_ble_eq_true rfl, Nat.le_of_ble_eq_true rfl⟩) (ob_X4 (by decide)) rfl rfl rfl rfl (Nat.le_of_ble_eq_true rfl) dX11_bars_39 ⟨Nat.zero_le _, Nat.zero_le _⟩ ?_
        refine g_istore_n (i := 2) C dX11_bars_42 rfl (by decide) rfl ?_
        refine g_iconst C dX11_bars_43 ?_
        refine g_istore_n (i := 3) C dX11_bars_44 rfl (by decide) rfl ?_
        refine g_iconst C dX11_bars_45 ?_
        refine g_istore C dX11_bars_46 (by decide) rfl ?_
        obtain ⟨q16, hl17, hf⟩ := lb_inv hf
        refine g_mask [true, false, true, true, true] (w_X11_bars_48 C hr hlk hl17 ?_)
        · rintro y18 σ19 rfl
          refine g_aload_n (i := 0) C dX11_bars_72 rfl rfl ?_
          refine gg_X11_scales (i := 3) C hiX11_bars_X11 rfl dX11_bars_73 ?_
          refine g_iconst C dX11_bars_76 ?_
          refine gp_X7_bars (i := 4) C hiX11_bars_X7 rfl dX11_bars_77 ?_
          refine g_iload_n (i := 3) C dX11_bars_80 rfl rfl ?_
          obtain ⟨e1, e2⟩ := some_inv hf
          exact g_iret C hr hlk e1 e2 dX11_bars_81
      · have hf := if_f c6 hf
        refine g_iconst C dX11_bars_25 ?_
        obtain ⟨e1, e2⟩ := some_inv hf
        exact g_iret C hr hlk e1 e2 dX11_bars_26
  · have hf := if_t c1 hf
    refine g_bipush C dX11_bars_7 (by decide) ?_
    obtain ⟨e1, e2⟩ := some_inv hf
    exact g_iret C hr hlk e1 e2 dX11_bars_9
/-! X11_leastWaste -/
abbrev rm_X11_leastWaste : Room := { frames := 5, cells := 0, slots := 0, locals := 118 }
theorem hiX11_leastWaste_X11 : ∀ w ∈ u_ws RX11 TX11 8, w ∈ wsX11_leastWaste := fun _ h => (List.mem_cons_of_mem _ (List.mem_append_left _ (List.mem_append_left _ (List.mem_append_right _ h))))
set_option maxHeartbeats 4000000 in
set_option maxRecDepth 100000 in
theorem it_X11_leastWaste_13 (C : Cx p s m args c cX11_leastWaste 5 RX11 wsX11_leastWaste D ca A) (hr : meth.sig.returnType = (some .int)) (hlk : meth.locks = false) {p1 : Int} {o : (Int × Int × Mem) ⊕ (Int × Mem)} (hc : ∀ (x2 x3 : Int) (σ : Mem), o = .inl (x2, x3, σ) → G p l e rm_X11_leastWaste s m args below meth c 5 D ca ad A 0 0 (MQ below (Qi D ca ad A r0 σ0) args s 0 0 A) σ 13 [some (.ref (ad 0)), some (.int (iI p1)), some (.int (iI x2)), some (.int (iI x3)), none] []) (he : ∀ (y2 : Int) (σ : Mem), o = .inr (y2, σ) → G p l e rm_X11_leastWaste s m args below meth c 5 D ca ad A 0 0 (MQ below (Qi D ca ad A r0 σ0) args s 0 0 A) σ 60 [none, none, some (.int (iI y2)), none, none] []) {x2 x3 : Int} {σ : Mem} (hf : f_X11_leastWaste_13 p1 x2 x3 σ = some o) : G p l e rm_X11_leastWaste s m args below meth c 5 D ca ad A 0 0 (MQ below (Qi D ca ad A r0 σ0) args s 0 0 A) σ 13 [some (.ref (ad 0)), some (.int (iI p1)), some (.int (iI x2)), some (.int (iI x3)), none] [] := by
  unfold f_X11_leastWaste_13 at hf
  refine g_iload_n (i := 3) C dX11_leastWaste_13 rfl rfl ?_
  refine g_iload_n (i := 1) C dX11_leastWaste_14 rfl rfl ?_
  refine g_icmp_ge (tgt := 60) C dX11_leastWaste_15 (by decide) rfl rfl (fun c4 => ?_) (fun c4 => ?_)
  · have hf := if_t c4 hf
    exact g_mask [false, false, true, false, false] (he _ _ (Option.some.inj hf).symm)
  · have hf := if_f c4 hf
    refine g_aload_n (i := 0) C dX11_leastWaste_18 rfl rfl ?_
    refine g_iload_n (i := 3) C dX11_leastWaste_19 rfl rfl ?_
    obtain ⟨r6, σ5, h7, hf⟩ := ob_inv hf
    refine g_callVi C (c_X11_isSureFit  h7) (cwV 1 C.2.2.2.2.1 gX11_leastWaste_X11_isSureFit rfl rfl rfl (by decide +kernel) ⟨Nat.le_of_ble_eq_true rfl, Nat.le_of_ble_eq_true rfl⟩) ob_X11 rfl rfl rfl rfl (Nat.le_of_ble_eq_true rfl) dX11_leastWaste_20 ⟨Nat.zero_le _, Nat.zero_le _⟩ ?_
    refine g_if_eq (tgt := 54) C dX11_leastWaste_23 (by decide) rfl (fun c8 => ?_) (fun c8 => ?_)
    · have hf := if_t c8 hf
      refine g_iinc C dX11_leastWaste_54 rfl (by decide) rfl ?_
      refine g_goto (tgt := 13) C dX11_leastWaste_57 (by decide) ?_
      exact g_mask [true, true, true, true, false] (hc _ _ _ (Option.some.inj hf).symm)
    · have hf := if_f c8 hf
      refine g_aload_n (i := 0) C dX11_leastWaste_26 rfl rfl ?_
      refine gg_X11_scales (i := 2) C hiX11_leastWaste_X11 rfl dX11_leastWaste_27 ?_
      obtain ⟨r10, σ9, h11, hf⟩ := ob_inv hf
      refine g_callVi C (c_X7_wasted  h11) (cwV 0 C.2.2.2.2.1 gX11_leastWaste_X7_wasted rfl rfl rfl (by decide +kernel) ⟨Nat.le_of_ble_eq_true rfl, Nat.le_of_ble_eq_true rfl⟩) ob_X7 rfl rfl rfl rfl (Nat.le_of_ble_eq_true rfl) dX11_leastWaste_30 ⟨Nat.zero_le _, Nat.zero_le _⟩ ?_
      refine g_istore C dX11_leastWaste_33 (by decide) rfl ?_
      refine g_iload_n (i := 2) C dX11_leastWaste_35 rfl rfl ?_
      refine g_bipush C dX11_leastWaste_36 (by decide) ?_
      refine g_icmp_eq (b' := (-4)) (tgt := 47) C dX11_leastWaste_38 (by decide) rfl (by decide) (fun c12 => ?_) (fun c12 => ?_)
      · have hf := if_t c12 hf
        refine g_iload C dX11_leastWaste_47 rfl ?_
        refine g_goto (tgt := 53) C dX11_leastWaste_49 (by decide) ?_
        refine g_istore_n (i := 2) C dX11_leastWaste_53 rfl (by decide) rfl ?_
        refine g_iinc C dX11_leastWaste_54 rfl (by decide) rfl ?_
        refine g_goto (tgt := 13) C dX11_leastWaste_57 (by decide) ?_
        exact g_mask [true, true, true, true, false] (hc _ _ _ (Option.some.inj hf).symm)
      · have hf := if_f c12 hf
        refine g_iload C dX11_leastWaste_41 rfl ?_
        refine g_iload_n (i := 2) C dX11_leastWaste_43 rfl rfl ?_
        refine g_icmp_ge (tgt := 52) C dX11_leastWaste_44 (by decide) rfl rfl (fun c13 => ?_) (fun c13 => ?_)
        · have hf := if_t c13 hf
          refine g_iload_n (i := 2) C dX11_leastWaste_52 rfl rfl ?_
          refine g_istore_n (i := 2) C dX11_leastWaste_53 rfl (by decide) rfl ?_
          refine g_iinc C dX11_leastWaste_54 rfl (by decide) rfl ?_
          refine g_goto (tgt := 13) C dX11_leastWaste_57 (by decide) ?_
          exact g_mask [true, true, true, true, false] (hc _ _ _ (Option.some.inj hf).symm)
        · have hf := if_f c13 hf
          refine g_iload C dX11_leastWaste_47 rfl ?_
          refine g_goto (tgt := 53) C dX11_leastWaste_49 (by decide) ?_
          refine g_istore_n (i := 2) C dX11_leastWaste_53 rfl (by decide) rfl ?_
          refine g_iinc C dX11_leastWaste_54 rfl (by decide) rfl ?_
          refine g_goto (tgt := 13) C dX11_leastWaste_57 (by decide) ?_
          exact g_mask [true, true, true, true, false] (hc _ _ _ (Option.some.inj hf).symm)
set_option maxHeartbeats 4000000 in
set_option maxRecDepth 100000 in
theorem w_X11_leastWaste_13 (C : Cx p s m args c cX11_leastWaste 5 RX11 wsX11_leastWaste D ca A) (hr : meth.sig.returnType = (some .int)) (hlk : meth.locks = false) {p1 : Int} {n : Nat} {x2 x3 : Int} {σ : Mem} {b : (Int × Mem)} (h : itr (fun z : Int × Int × Mem => f_X11_leastWaste_13 p1 z.1 z.2.1 z.2.2) n (x2, x3, σ) = some b) (he : ∀ (y2 : Int) (σ : Mem), b = (y2, σ) → G p l e rm_X11_leastWaste s m args below meth c 5 D ca ad A 0 0 (MQ below (Qi D ca ad A r0 σ0) args s 0 0 A) σ 60 [none, none, some (.int (iI y2)), none, none] []) : G p l e rm_X11_leastWaste s m args below meth c 5 D ca ad A 0 0 (MQ below (Qi D ca ad A r0 σ0) args s 0 0 A) σ 13 [some (.ref (ad 0)), some (.int (iI p1)), some (.int (iI x2)), some (.int (iI x3)), none] [] :=
  itr_rule (P := fun z : Int × Int × Mem => G p l e rm_X11_leastWaste s m args below meth c 5 D ca ad A 0 0 (MQ below (Qi D ca ad A r0 σ0) args s 0 0 A) z.2.2 13 [some (.ref (ad 0)), some (.int (iI p1)), some (.int (iI z.1)), some (.int (iI z.2.1)), none] []) (E := fun b => ∀ (y2 : Int) (σ : Mem), b = (y2, σ) → G p l e rm_X11_leastWaste s m args below meth c 5 D ca ad A 0 0 (MQ below (Qi D ca ad A r0 σ0) args s 0 0 A) σ 60 [none, none, some (.int (iI y2)), none, none] []) (fun z o hb hc he => it_X11_leastWaste_13 C hr hlk (fun _ _ _ e => hc _ e) (fun _ _ e => (he _ e) _ _ rfl) hb) n _ _ h he
set_option maxHeartbeats 4000000 in
set_option maxRecDepth 100000 in
theorem c_X11_leastWaste {σ : Mem} (hf : f_X11_leastWaste  σ = some (r0, σ0)) : CTi l D ca ad A yX11_leastWaste wsX11_leastWaste rm_X11_leastWaste [.ref (ad 0)] σ r0 σ0 := by
  refine ct_i (cc := cX11_leastWaste) (own := RX11) (maxL := 5) (ret := (some .int)) (lv0 := [some (.ref (ad 0)), none, none, none, none]) (by decide) rfl rfl rfl (Nat.le_of_ble_eq_true rfl) ?_
  intro p e s m below meth c C hr hlk hnm
  unfold f_X11_leastWaste at hf
  refine g_aload_n (i := 0) C dX11_leastWaste_0 rfl rfl ?_
  refine gg_X11_fair (i := 1) C hiX11_leastWaste_X11 rfl dX11_leastWaste_1 ?_
  obtain ⟨r2, σ1, h3, hf⟩ := ob_inv hf
  refine g_callVi C (c_X4_fitNumbers (by decide) h3) (cwV 0 C.2.2.2.2.1 gX11_leastWaste_X4_fitNumbers rfl rfl rfl (by decide +kernel) ⟨Nat.le_of_ble_eq_true rfl, Nat.le_of_ble_eq_true rfl⟩) (ob_X4 (by decide)) rfl rfl rfl rfl (Nat.le_of_ble_eq_true rfl) dX11_leastWaste_4 ⟨Nat.zero_le _, Nat.zero_le _⟩ ?_
  refine g_istore_n (i := 1) C dX11_leastWaste_7 rfl (by decide) rfl ?_
  refine g_bipush C dX11_leastWaste_8 (by decide) ?_
  refine g_istore_n (i := 2) C dX11_leastWaste_10 rfl (by decide) rfl ?_
  refine g_iconst C dX11_leastWaste_11 ?_
  refine g_istore_n (i := 3) C dX11_leastWaste_12 rfl (by decide) rfl ?_
  obtain ⟨q14, hl15, hf⟩ := lb_inv hf
  refine g_mask [true, true, true, true, false] (w_X11_leastWaste_13 C hr hlk hl15 ?_)
  · rintro y16 σ17 rfl
    refine g_iload_n (i := 2) C dX11_leastWaste_60 rfl rfl ?_
    obtain ⟨e1, e2⟩ := some_inv hf
    exact g_iret C hr hlk e1 e2 dX11_leastWaste_61
/-! X11_leastBar -/
abbrev rm_X11_leastBar : Room := { frames := 6, cells := 0, slots := 0, locals := 142 }
theorem hiX11_leastBar_X11 : ∀ w ∈ u_ws RX11 TX11 8, w ∈ wsX11_leastBar := fun _ h => (List.mem_cons_of_mem _ (List.mem_append_left _ (List.mem_append_left _ (List.mem_append_right _ h))))
theorem hiX11_leastBar_X7 : ∀ w ∈ u_ws RX7 TX7 14, w ∈ wsX11_leastBar := fun _ h => (List.mem_cons_of_mem _ (List.mem_append_left _ (List.mem_append_right _ h)))
set_option maxHeartbeats 4000000 in
set_option maxRecDepth 100000 in
theorem it_X11_leastBar_28 (C : Cx p s m args c cX11_leastBar 7 RX11 wsX11_leastBar D ca A) (hr : meth.sig.returnType = (some .int)) (hlk : meth.locks = false) {p1 : Int} {o : (Int × Int × Int × Mem) ⊕ (Int × Int × Mem)} (hc : ∀ (x2 x3 x4 : Int) (σ : Mem), o = .inl (x2, x3, x4, σ) → G p l e rm_X11_leastBar s m args below meth c 7 D ca ad A 0 0 (MQ below (Qi D ca ad A r0 σ0) args s 0 0 A) σ 28 [some (.ref (ad 0)), some (.int (iI p1)), some (.int (iI x2)), some (.int (iI x3)), some (.int (iI x4)), none, none] []) (he : ∀ (y2 y3 : Int) (σ : Mem), o = .inr (y2, y3, σ) → G p l e rm_X11_leastBar s m args below meth c 7 D ca ad A 0 0 (MQ below (Qi D ca ad A r0 σ0) args s 0 0 A) σ 116 [some (.ref (ad 0)), some (.int (iI p1)), some (.int (iI y2)), some (.int (iI y3)), none, none, none] []) {x2 x3 x4 : Int} {σ : Mem} (hf : f_X11_leastBar_28 p1 x2 x3 x4 σ = some o) : G p l e rm_X11_leastBar s m args below meth c 7 D ca ad A 0 0 (MQ below (Qi D ca ad A r0 σ0) args s 0 0 A) σ 28 [some (.ref (ad 0)), some (.int (iI p1)), some (.int (iI x2)), some (.int (iI x3)), some (.int (iI x4)), none, none] [] := by
  unfold f_X11_leastBar_28 at hf
  refine g_iload C dX11_leastBar_28 rfl ?_
  refine g_aload_n (i := 0) C dX11_leastBar_30 rfl rfl ?_
  refine gg_X11_fair (i := 2) C hiX11_leastBar_X11 rfl dX11_leastBar_31 ?_
  obtain ⟨r7, σ6, h8, hf⟩ := ob_inv hf
  refine g_callVi C (c_X4_allMarks (by decide) h8) (cwV 0 C.2.2.2.2.1 gX11_leastBar_X4_allMarks rfl rfl rfl (by decide +kernel) ⟨Nat.le_of_ble_eq_true rfl, Nat.le_of_ble_eq_true rfl⟩) (ob_X4 (by decide)) rfl rfl rfl rfl (Nat.le_of_ble_eq_true rfl) dX11_leastBar_34 ⟨Nat.zero_le _, Nat.zero_le _⟩ ?_
  refine g_icmp_ge (tgt := 116) C dX11_leastBar_37 (by decide) rfl rfl (fun c9 => ?_) (fun c9 => ?_)
  · have hf := if_t c9 hf
    exact g_mask [true, true, true, true, false, false, false] (he _ _ _ (Option.some.inj hf).symm)
  · have hf := if_f c9 hf
    refine g_aload_n (i := 0) C dX11_leastBar_40 rfl rfl ?_
    refine gg_X11_scales (i := 3) C hiX11_leastBar_X11 rfl dX11_leastBar_41 ?_
    refine g_iload C dX11_leastBar_44 rfl ?_
    refine gp_X7_bars (i := 4) C hiX11_leastBar_X7 rfl dX11_leastBar_46 ?_
    refine g_aload_n (i := 0) C dX11_leastBar_49 rfl rfl ?_
    obtain ⟨r12, σ11, h13, hf⟩ := ob_inv hf
    refine g_callVi C (c_X11_leastWaste  h13) (cwV 0 C.2.2.2.2.1 gX11_leastBar_X11_leastWaste rfl rfl rfl (by decide +kernel) ⟨Nat.le_of_ble_eq_true rfl, Nat.le_of_ble_eq_true rfl⟩) ob_X11 rfl rfl rfl rfl (Nat.le_of_ble_eq_true rfl) dX11_leastBar_50 ⟨Nat.zero_le _, Nat.zero_le _⟩ ?_
    refine g_istore C dX11_leastBar_53 (by decide) rfl ?_
    refine g_iload C dX11_leastBar_55 rfl ?_
    refine g_iload_n (i := 3) C dX11_leastBar_57 rfl rfl ?_
    refine g_icmp_ne (tgt := 77) C dX11_leastBar_58 (by decide) rfl rfl (fun c14 => ?_) (fun c14 => ?_)
    · have hf := if_f c14 hf
      refine g_iconst C dX11_leastBar_77 ?_
      refine g_istore C dX11_leastBar_78 (by decide) rfl ?_
      refine g_iload C dX11_leastBar_80 rfl ?_
      refine g_bipush C dX11_leastBar_82 (by decide) ?_
      refine g_icmp_eq (b' := (-4)) (tgt := 110) C dX11_leastBar_84 (by decide) rfl (by decide) (fun c15 => ?_) (fun c15 => ?_)
      · have hf := if_t c15 hf
        refine g_iinc C dX11_leastBar_110 rfl (by decide) rfl ?_
        refine g_goto (tgt := 28) C dX11_leastBar_113 (by decide) ?_
        exact g_mask [true, true, true, true, true, false, false] (hc _ _ _ _ (Option.some.inj hf).symm)
      · have hf := if_f c15 hf
        refine g_iload_n (i := 3) C dX11_leastBar_87 rfl rfl ?_
        refine g_bipush C dX11_leastBar_88 (by decide) ?_
        refine g_icmp_eq (b' := (-4)) (tgt := 104) C dX11_leastBar_90 (by decide) rfl (by decide) (fun c16 => ?_) (fun c16 => ?_)
        · have hf := if_t c16 hf
          refine g_iload C dX11_leastBar_104 rfl ?_
          refine g_istore_n (i := 2) C dX11_leastBar_106 rfl (by decide) rfl ?_
          refine g_iload C dX11_leastBar_107 rfl ?_
          refine g_istore_n (i := 3) C dX11_leastBar_109 rfl (by decide) rfl ?_
          refine g_iinc C dX11_leastBar_110 rfl (by decide) rfl ?_
          refine g_goto (tgt := 28) C dX11_leastBar_113 (by decide) ?_
          exact g_mask [true, true, true, true, true, false, false] (hc _ _ _ _ (Option.some.inj hf).symm)
        · have hf := if_f c16 hf
          refine g_iload C dX11_leastBar_93 rfl ?_
          refine g_iload_n (i := 3) C dX11_leastBar_95 rfl rfl ?_
          refine g_icmp_lt (tgt := 104) C dX11_leastBar_96 (by decide) rfl rfl (fun c17 => ?_) (fun c17 => ?_)
          · have hf := if_t c17 hf
            refine g_iload C dX11_leastBar_104 rfl ?_
            refine g_istore_n (i := 2) C dX11_leastBar_106 rfl (by decide) rfl ?_
            refine g_iload C dX11_leastBar_107 rfl ?_
            refine g_istore_n (i := 3) C dX11_leastBar_109 rfl (by decide) rfl ?_
            refine g_iinc C dX11_leastBar_110 rfl (by decide) rfl ?_
            refine g_goto (tgt := 28) C dX11_leastBar_113 (by decide) ?_
            exact g_mask [true, true, true, true, true, false, false] (hc _ _ _ _ (Option.some.inj hf).symm)
          · have hf := if_f c17 hf
            refine g_iload C dX11_leastBar_99 rfl ?_
            refine g_if_eq (a' := 0) (tgt := 110) C dX11_leastBar_101 (by decide) (by decide) (fun c18 => ?_) (fun c18 => absurd c18 (by decide))
            refine g_iinc C dX11_leastBar_110 rfl (by decide) rfl ?_
            refine g_goto (tgt := 28) C dX11_leastBar_113 (by decide) ?_
            exact g_mask [true, true, true, true, true, false, false] (hc _ _ _ _ (Option.some.inj hf).symm)
    · have hf := if_t c14 hf
      refine g_iload C dX11_leastBar_61 rfl ?_
      obtain ⟨r20, σ19, h21, hf⟩ := ob_inv hf
      refine g_callSi C (c_J6_bitCount_0f7a4  h21) (va_cwS 1 C.2.2.2.2.1 gX11_leastBar_J6_bitCount_0f7a4 rfl rfl rfl (by decide +kernel) ⟨Nat.le_of_ble_eq_true rfl, Nat.le_of_ble_eq_true rfl⟩) rfl rfl (Nat.le_of_ble_eq_true rfl) dX11_leastBar_63 ⟨Nat.zero_le _, Nat.zero_le _⟩ ?_
      refine g_iload_n (i := 2) C dX11_leastBar_66 rfl rfl ?_
      obtain ⟨r23, σ22, h24, hf⟩ := ob_inv hf
      refine g_callSi C (c_J6_bitCount_0f7a4  h24) (va_cwS 1 C.2.2.2.2.1 gX11_leastBar_J6_bitCount_0f7a4 rfl rfl rfl (by decide +kernel) ⟨Nat.le_of_ble_eq_true rfl, Nat.le_of_ble_eq_true rfl⟩) rfl rfl (Nat.le_of_ble_eq_true rfl) dX11_leastBar_67 ⟨Nat.zero_le _, Nat.zero_le _⟩ ?_
      refine g_icmp_ge (tgt := 77) C dX11_leastBar_70 (by decide) rfl rfl (fun c25 => ?_) (fun c25 => ?_)
      · have hf := if_t c25 hf
        refine g_iconst C dX11_leastBar_77 ?_
        refine g_istore C dX11_leastBar_78 (by decide) rfl ?_
        refine g_iload C dX11_leastBar_80 rfl ?_
        refine g_bipush C dX11_leastBar_82 (by decide) ?_
        refine g_icmp_eq (b' := (-4)) (tgt := 110) C dX11_leastBar_84 (by decide) rfl (by decide) (fun c26 => ?_) (fun c26 => ?_)
        · have hf := if_t c26 hf
          refine g_iinc C dX11_leastBar_110 rfl (by decide) rfl ?_
          refine g_goto (tgt := 28) C dX11_leastBar_113 (by decide) ?_
          exact g_mask [true, true, true, true, true, false, false] (hc _ _ _ _ (Option.some.inj hf).symm)
        · have hf := if_f c26 hf
          refine g_iload_n (i := 3) C dX11_leastBar_87 rfl rfl ?_
          refine g_bipush C dX11_leastBar_88 (by decide) ?_
          refine g_icmp_eq (b' := (-4)) (tgt := 104) C dX11_leastBar_90 (by decide) rfl (by decide) (fun c27 => ?_) (fun c27 => ?_)
          · have hf := if_t c27 hf
            refine g_iload C dX11_leastBar_104 rfl ?_
            refine g_istore_n (i := 2) C dX11_leastBar_106 rfl (by decide) rfl ?_
            refine g_iload C dX11_leastBar_107 rfl ?_
            refine g_istore_n (i := 3) C dX11_leastBar_109 rfl (by decide) rfl ?_
            refine g_iinc C dX11_leastBar_110 rfl (by decide) rfl ?_
            refine g_goto (tgt := 28) C dX11_leastBar_113 (by decide) ?_
            exact g_mask [true, true, true, true, true, false, false] (hc _ _ _ _ (Option.some.inj hf).symm)
          · have hf := if_f c27 hf
            refine g_iload C dX11_leastBar_93 rfl ?_
            refine g_iload_n (i := 3) C dX11_leastBar_95 rfl rfl ?_
            refine g_icmp_lt (tgt := 104) C dX11_leastBar_96 (by decide) rfl rfl (fun c28 => ?_) (fun c28 => ?_)
            · have hf := if_t c28 hf
              refine g_iload C dX11_leastBar_104 rfl ?_
              refine g_istore_n (i := 2) C dX11_leastBar_106 rfl (by decide) rfl ?_
              refine g_iload C dX11_leastBar_107 rfl ?_
              refine g_istore_n (i := 3) C dX11_leastBar_109 rfl (by decide) rfl ?_
              refine g_iinc C dX11_leastBar_110 rfl (by decide) rfl ?_
              refine g_goto (tgt := 28) C dX11_leastBar_113 (by decide) ?_
              exact g_mask [true, true, true, true, true, false, false] (hc _ _ _ _ (Option.some.inj hf).symm)
            · have hf := if_f c28 hf
              refine g_iload C dX11_leastBar_99 rfl ?_
              refine g_if_eq (a' := 0) (tgt := 110) C dX11_leastBar_101 (by decide) (by decide) (fun c29 => ?_) (fun c29 => absurd c29 (by decide))
              refine g_iinc C dX11_leastBar_110 rfl (by decide) rfl ?_
              refine g_goto (tgt := 28) C dX11_leastBar_113 (by decide) ?_
              exact g_mask [true, true, true, true, true, false, false] (hc _ _ _ _ (Option.some.inj hf).symm)
      · have hf := if_f c25 hf
        refine g_iconst C dX11_leastBar_73 ?_
        refine g_goto (tgt := 78) C dX11_leastBar_74 (by decide) ?_
        refine g_istore C dX11_leastBar_78 (by decide) rfl ?_
        refine g_iload C dX11_leastBar_80 rfl ?_
        refine g_bipush C dX11_leastBar_82 (by decide) ?_
        refine g_icmp_eq (b' := (-4)) (tgt := 110) C dX11_leastBar_84 (by decide) rfl (by decide) (fun c30 => ?_) (fun c30 => ?_)
        · have hf := if_t c30 hf
          refine g_iinc C dX11_leastBar_110 rfl (by decide) rfl ?_
          refine g_goto (tgt := 28) C dX11_leastBar_113 (by decide) ?_
          exact g_mask [true, true, true, true, true, false, false] (hc _ _ _ _ (Option.some.inj hf).symm)
        · have hf := if_f c30 hf
          refine g_iload_n (i := 3) C dX11_leastBar_87 rfl rfl ?_
          refine g_bipush C dX11_leastBar_88 (by decide) ?_
          refine g_icmp_eq (b' := (-4)) (tgt := 104) C dX11_leastBar_90 (by decide) rfl (by decide) (fun c31 => ?_) (fun c31 => ?_)
          · have hf := if_t c31 hf
            refine g_iload C dX11_leastBar_104 rfl ?_
            refine g_istore_n (i := 2) C dX11_leastBar_106 rfl (by decide) rfl ?_
            refine g_iload C dX11_leastBar_107 rfl ?_
            refine g_istore_n (i := 3) C dX11_leastBar_109 rfl (by decide) rfl ?_
            refine g_iinc C dX11_leastBar_110 rfl (by decide) rfl ?_
            refine g_goto (tgt := 28) C dX11_leastBar_113 (by decide) ?_
            exact g_mask [true, true, true, true, true, false, false] (hc _ _ _ _ (Option.some.inj hf).symm)
          · have hf := if_f c31 hf
            refine g_iload C dX11_leastBar_93 rfl ?_
            refine g_iload_n (i := 3) C dX11_leastBar_95 rfl rfl ?_
            refine g_icmp_lt (tgt := 104) C dX11_leastBar_96 (by decide) rfl rfl (fun c32 => ?_) (fun c32 => ?_)
            · have hf := if_t c32 hf
              refine g_iload C dX11_leastBar_104 rfl ?_
              refine g_istore_n (i := 2) C dX11_leastBar_106 rfl (by decide) rfl ?_
              refine g_iload C dX11_leastBar_107 rfl ?_
              refine g_istore_n (i := 3) C dX11_leastBar_109 rfl (by decide) rfl ?_
              refine g_iinc C dX11_leastBar_110 rfl (by decide) rfl ?_
              refine g_goto (tgt := 28) C dX11_leastBar_113 (by decide) ?_
              exact g_mask [true, true, true, true, true, false, false] (hc _ _ _ _ (Option.some.inj hf).symm)
            · have hf := if_f c32 hf
              refine g_iload C dX11_leastBar_99 rfl ?_
              refine g_if_eq (a' := 1) (tgt := 110) C dX11_leastBar_101 (by decide) (by decide) (fun c33 => absurd c33 (by decide)) (fun c33 => ?_)
              refine g_iload C dX11_leastBar_104 rfl ?_
              refine g_istore_n (i := 2) C dX11_leastBar_106 rfl (by decide) rfl ?_
              refine g_iload C dX11_leastBar_107 rfl ?_
              refine g_istore_n (i := 3) C dX11_leastBar_109 rfl (by decide) rfl ?_
              refine g_iinc C dX11_leastBar_110 rfl (by decide) rfl ?_
              refine g_goto (tgt := 28) C dX11_leastBar_113 (by decide) ?_
              exact g_mask [true, true, true, true, true, false, false] (hc _ _ _ _ (Option.some.inj hf).symm)
set_option maxHeartbeats 4000000 in
set_option maxRecDepth 100000 in
theorem w_X11_leastBar_28 (C : Cx p s m args c cX11_leastBar 7 RX11 wsX11_leastBar D ca A) (hr : meth.sig.returnType = (some .int)) (hlk : meth.locks = false) {p1 : Int} {n : Nat} {x2 x3 x4 : Int} {σ : Mem} {b : (Int × Int × Mem)} (h : itr (fun z : Int × Int × Int × Mem => f_X11_leastBar_28 p1 z.1 z.2.1 z.2.2.1 z.2.2.2) n (x2, x3, x4, σ) = some b) (he : ∀ (y2 y3 : Int) (σ : Mem), b = (y2, y3, σ) → G p l e rm_X11_leastBar s m args below meth c 7 D ca ad A 0 0 (MQ below (Qi D ca ad A r0 σ0) args s 0 0 A) σ 116 [some (.ref (ad 0)), some (.int (iI p1)), some (.int (iI y2)), some (.int (iI y3)), none, none, none] []) : G p l e rm_X11_leastBar s m args below meth c 7 D ca ad A 0 0 (MQ below (Qi D ca ad A r0 σ0) args s 0 0 A) σ 28 [some (.ref (ad 0)), some (.int (iI p1)), some (.int (iI x2)), some (.int (iI x3)), some (.int (iI x4)), none, none] [] :=
  itr_rule (P := fun z : Int × Int × Int × Mem => G p l e rm_X11_leastBar s m args below meth c 7 D ca ad A 0 0 (MQ below (Qi D ca ad A r0 σ0) args s 0 0 A) z.2.2.2 28 [some (.ref (ad 0)), some (.int (iI p1)), some (.int (iI z.1)), some (.int (iI z.2.1)), some (.int (iI z.2.2.1)), none, none] []) (E := fun b => ∀ (y2 y3 : Int) (σ : Mem), b = (y2, y3, σ) → G p l e rm_X11_leastBar s m args below meth c 7 D ca ad A 0 0 (MQ below (Qi D ca ad A r0 σ0) args s 0 0 A) σ 116 [some (.ref (ad 0)), some (.int (iI p1)), some (.int (iI y2)), some (.int (iI y3)), none, none, none] []) (fun z o hb hc he => it_X11_leastBar_28 C hr hlk (fun _ _ _ _ e => hc _ e) (fun _ _ _ e => (he _ e) _ _ _ rfl) hb) n _ _ h he
set_option maxHeartbeats 4000000 in
set_option maxRecDepth 100000 in
theorem c_X11_leastBar {v1 : Int} {σ : Mem} (hf : f_X11_leastBar v1 σ = some (r0, σ0)) : CTi l D ca ad A yX11_leastBar wsX11_leastBar rm_X11_leastBar [.ref (ad 0), .int (iI v1)] σ r0 σ0 := by
  refine ct_i (cc := cX11_leastBar) (own := RX11) (maxL := 7) (ret := (some .int)) (lv0 := [some (.ref (ad 0)), some (.int (iI v1)), none, none, none, none, none]) (by decide) rfl rfl rfl (Nat.le_of_ble_eq_true rfl) ?_
  intro p e s m below meth c C hr hlk hnm
  unfold f_X11_leastBar at hf
  refine g_aload_n (i := 0) C dX11_leastBar_0 rfl rfl ?_
  refine gg_X11_hasMarket (i := 1) C hiX11_leastBar_X11 rfl dX11_leastBar_1 ?_
  refine g_if_ne (tgt := 10) C dX11_leastBar_4 (by decide) rfl (fun c1 => ?_) (fun c1 => ?_)
  · have hf := if_f c1 hf
    refine g_iload_n (i := 1) C dX11_leastBar_10 rfl rfl ?_
    obtain ⟨r3, σ2, h4, hf⟩ := ob_inv hf
    refine g_callSi C (c_X11_isBit  h4) (va_cwS 1 C.2.2.2.2.1 gX11_leastBar_X11_isBit rfl rfl rfl (by decide +kernel) ⟨Nat.le_of_ble_eq_true rfl, Nat.le_of_ble_eq_true rfl⟩) rfl rfl (Nat.le_of_ble_eq_true rfl) dX11_leastBar_11 ⟨Nat.zero_le _, Nat.zero_le _⟩ ?_
    refine g_if_ne (tgt := 19) C dX11_leastBar_14 (by decide) rfl (fun c5 => ?_) (fun c5 => ?_)
    · have hf := if_f c5 hf
      refine g_bipush C dX11_leastBar_19 (by decide) ?_
      refine g_istore_n (i := 2) C dX11_leastBar_21 rfl (by decide) rfl ?_
      refine g_bipush C dX11_leastBar_22 (by decide) ?_
      refine g_istore_n (i := 3) C dX11_leastBar_24 rfl (by decide) rfl ?_
      refine g_iconst C dX11_leastBar_25 ?_
      refine g_istore C dX11_leastBar_26 (by decide) rfl ?_
      obtain ⟨q34, hl35, hf⟩ := lb_inv hf
      refine g_mask [true, true, true, true, true, false, false] (w_X11_leastBar_28 C hr hlk hl35 ?_)
      · rintro y36 y37 σ38 rfl
        refine g_aload_n (i := 0) C dX11_leastBar_116 rfl rfl ?_
        refine gg_X11_scales (i := 3) C hiX11_leastBar_X11 rfl dX11_leastBar_117 ?_
        refine g_iconst C dX11_leastBar_120 ?_
        refine gp_X7_bars (i := 4) C hiX11_leastBar_X7 rfl dX11_leastBar_121 ?_
        refine g_iload_n (i := 1) C dX11_leastBar_124 rfl rfl ?_
        refine g_if_ne (tgt := 132) C dX11_leastBar_125 (by decide) rfl (fun c40 => ?_) (fun c40 => ?_)
        · have hf := if_f c40 hf
          refine g_iload_n (i := 3) C dX11_leastBar_132 rfl rfl ?_
          obtain ⟨e1, e2⟩ := some_inv hf
          exact g_iret C hr hlk e1 e2 dX11_leastBar_133
        · have hf := if_t c40 hf
          refine g_iload_n (i := 2) C dX11_leastBar_128 rfl rfl ?_
          refine g_goto (tgt := 133) C dX11_leastBar_129 (by decide) ?_
          obtain ⟨e1, e2⟩ := some_inv hf
          exact g_iret C hr hlk e1 e2 dX11_leastBar_133
    · have hf := if_t c5 hf
      refine g_iconst C dX11_leastBar_17 ?_
      obtain ⟨e1, e2⟩ := some_inv hf
      exact g_iret C hr hlk e1 e2 dX11_leastBar_18
  · have hf := if_t c1 hf
    refine g_bipush C dX11_leastBar_7 (by decide) ?_
    obtain ⟨e1, e2⟩ := some_inv hf
    exact g_iret C hr hlk e1 e2 dX11_leastBar_9
/-! X11_lineFault -/
abbrev rm_X11_lineFault : Room := { frames := 2, cells := 0, slots := 0, locals := 46 }
theorem hiX11_lineFault_X11 : ∀ w ∈ u_ws RX11 TX11 8, w ∈ wsX11_lineFault := fun _ h => (List.mem_cons_of_mem _ (List.mem_append_left _ (List.mem_append_left _ (List.mem_append_left _ (List.mem_append_right _ h)))))
set_option maxHeartbeats 4000000 in
set_option maxRecDepth 100000 in
theorem c_X11_lineFault {v1 : Int} {σ : Mem} (hf : f_X11_lineFault v1 σ = some (r0, σ0)) : CTi l D ca ad A yX11_lineFault wsX11_lineFault rm_X11_lineFault [.ref (ad 0), .int (iI v1)] σ r0 σ0 := by
  refine ct_i (cc := cX11_lineFault) (own := RX11) (maxL := 3) (ret := (some .int)) (lv0 := [some (.ref (ad 0)), some (.int (iI v1)), none]) (by decide) rfl rfl rfl (Nat.le_of_ble_eq_true rfl) ?_
  intro p e s m below meth c C hr hlk hnm
  unfold f_X11_lineFault at hf
  refine g_aload_n (i := 0) C dX11_lineFault_0 rfl rfl ?_
  refine gg_X11_hasMarket (i := 1) C hiX11_lineFault_X11 rfl dX11_lineFault_1 ?_
  refine g_if_ne (tgt := 10) C dX11_lineFault_4 (by decide) rfl (fun c1 => ?_) (fun c1 => ?_)
  · have hf := if_f c1 hf
    refine g_iload_n (i := 1) C dX11_lineFault_10 rfl rfl ?_
    obtain ⟨r3, σ2, h4, hf⟩ := ob_inv hf
    refine g_callSi C (c_X11_isShelf  h4) (va_cwS 1 C.2.2.2.2.1 gX11_lineFault_X11_isShelf rfl rfl rfl (by decide +kernel) ⟨Nat.le_of_ble_eq_true rfl, Nat.le_of_ble_eq_true rfl⟩) rfl rfl (Nat.le_of_ble_eq_true rfl) dX11_lineFault_11 ⟨Nat.zero_le _, Nat.zero_le _⟩ ?_
    refine g_if_ne (tgt := 19) C dX11_lineFault_14 (by decide) rfl (fun c5 => ?_) (fun c5 => ?_)
    · have hf := if_f c5 hf
      refine g_aload_n (i := 0) C dX11_lineFault_19 rfl rfl ?_
      refine gg_X11_shelves (i := 2) C hiX11_lineFault_X11 rfl dX11_lineFault_20 ?_
      refine g_iload_n (i := 1) C dX11_lineFault_23 rfl rfl ?_
      obtain ⟨hb6, hf⟩ := if_inv hf
      refine g_aaload C (Or.inl ⟨rfl, rfl, hb6⟩) dX11_lineFault_24 rfl ?_
      refine g_astore_n (i := 2) C dX11_lineFault_25 rfl (by decide) rfl ?_
      refine g_aload_n (i := 2) C dX11_lineFault_26 rfl rfl ?_
      obtain ⟨r8, σ7, h9, hf⟩ := ob_inv hf
      refine g_callVi C (c_X8_isBare (shf_of hb6) h9) (cwV 0 C.2.2.2.2.1 gX11_lineFault_X8_isBare rfl rfl rfl (by decide +kernel) ⟨Nat.le_of_ble_eq_true rfl, Nat.le_of_ble_eq_true rfl⟩) (ob_X8 (shf_of hb6)) rfl rfl rfl rfl (Nat.le_of_ble_eq_true rfl) dX11_lineFault_27 ⟨Nat.zero_le _, Nat.zero_le _⟩ ?_
      refine g_if_eq (tgt := 36) C dX11_lineFault_30 (by decide) rfl (fun c10 => ?_) (fun c10 => ?_)
      · have hf := if_t c10 hf
        refine g_aload_n (i := 2) C dX11_lineFault_36 rfl rfl ?_
        refine g_iconst C dX11_lineFault_37 ?_
        obtain ⟨r12, σ11, h13, hf⟩ := ob_inv hf
        refine g_callVi C (c_X8_holdsRowOf (shf_of hb6) h13) (cwV 1 C.2.2.2.2.1 gX11_lineFault_X8_holdsRowOf rfl rfl rfl (by decide +kernel) ⟨Nat.le_of_ble_eq_true rfl, Nat.le_of_ble_eq_true rfl⟩) (ob_X8 (shf_of hb6)) rfl rfl rfl rfl (Nat.le_of_ble_eq_true rfl) dX11_lineFault_38 ⟨Nat.zero_le _, Nat.zero_le _⟩ ?_
        refine g_if_ne (tgt := 47) C dX11_lineFault_41 (by decide) rfl (fun c14 => ?_) (fun c14 => ?_)
        · have hf := if_f c14 hf
          refine g_aload_n (i := 0) C dX11_lineFault_47 rfl rfl ?_
          refine gg_X11_line (i := 3) C hiX11_lineFault_X11 rfl dX11_lineFault_48 ?_
          refine g_aload_n (i := 2) C dX11_lineFault_51 rfl rfl ?_
          obtain ⟨r16, σ15, h17, hf⟩ := ob_inv hf
          refine g_callVi C (c_X3_readFrom (shf_of hb6) h17) (cwV 1 C.2.2.2.2.1 gX11_lineFault_X3_readFrom rfl rfl rfl (by decide +kernel) ⟨Nat.le_of_ble_eq_true rfl, Nat.le_of_ble_eq_true rfl⟩) ob_X3 rfl rfl rfl rfl (Nat.le_of_ble_eq_true rfl) dX11_lineFault_52 ⟨Nat.zero_le _, Nat.zero_le _⟩ ?_
          refine g_if_eq (tgt := 62) C dX11_lineFault_55 (by decide) rfl (fun c18 => ?_) (fun c18 => ?_)
          · have hf := if_t c18 hf
            refine g_bipush C dX11_lineFault_62 (by decide) ?_
            obtain ⟨e1, e2⟩ := some_inv hf
            exact g_iret C hr hlk e1 e2 dX11_lineFault_64
          · have hf := if_f c18 hf
            refine g_iconst C dX11_lineFault_58 ?_
            refine g_goto (tgt := 64) C dX11_lineFault_59 (by decide) ?_
            obtain ⟨e1, e2⟩ := some_inv hf
            exact g_iret C hr hlk e1 e2 dX11_lineFault_64
        · have hf := if_t c14 hf
          refine g_bipush C dX11_lineFault_44 (by decide) ?_
          obtain ⟨e1, e2⟩ := some_inv hf
          exact g_iret C hr hlk e1 e2 dX11_lineFault_46
      · have hf := if_f c10 hf
        refine g_bipush C dX11_lineFault_33 (by decide) ?_
        obtain ⟨e1, e2⟩ := some_inv hf
        exact g_iret C hr hlk e1 e2 dX11_lineFault_35
    · have hf := if_t c5 hf
      refine g_iconst C dX11_lineFault_17 ?_
      obtain ⟨e1, e2⟩ := some_inv hf
      exact g_iret C hr hlk e1 e2 dX11_lineFault_18
  · have hf := if_t c1 hf
    refine g_bipush C dX11_lineFault_7 (by decide) ?_
    obtain ⟨e1, e2⟩ := some_inv hf
    exact g_iret C hr hlk e1 e2 dX11_lineFault_9
/-! X11_makes -/
abbrev rm_X11_makes : Room := { frames := 3, cells := 0, slots := 0, locals := 68 }
theorem hiX11_makes_X11 : ∀ w ∈ u_ws RX11 TX11 8, w ∈ wsX11_makes := fun _ h => (List.mem_cons_of_mem _ (List.mem_append_left _ (List.mem_append_left _ (List.mem_append_left _ (List.mem_append_right _ h)))))
theorem hiX11_makes_X3 : ∀ w ∈ u_ws RX3 TX3 4, w ∈ wsX11_makes := fun _ h => (List.mem_cons_of_mem _ (List.mem_append_left _ (List.mem_append_left _ (List.mem_append_right _ h))))
set_option maxHeartbeats 4000000 in
set_option maxRecDepth 100000 in
theorem c_X11_makes {v1 v2 : Int} {σ : Mem} (hf : f_X11_makes v1 v2 σ = some (r0, σ0)) : CTi l D ca ad A yX11_makes wsX11_makes rm_X11_makes [.ref (ad 0), .int (iI v1), .int (iI v2)] σ r0 σ0 := by
  refine ct_i (cc := cX11_makes) (own := RX11) (maxL := 4) (ret := (some .int)) (lv0 := [some (.ref (ad 0)), some (.int (iI v1)), some (.int (iI v2)), none]) (by decide) rfl rfl rfl (Nat.le_of_ble_eq_true rfl) ?_
  intro p e s m below meth c C hr hlk hnm
  unfold f_X11_makes at hf
  refine g_aload_n (i := 0) C dX11_makes_0 rfl rfl ?_
  refine gg_X11_hasMarket (i := 1) C hiX11_makes_X11 rfl dX11_makes_1 ?_
  refine g_if_ne (tgt := 10) C dX11_makes_4 (by decide) rfl (fun c1 => ?_) (fun c1 => ?_)
  · have hf := if_f c1 hf
    refine g_aload_n (i := 0) C dX11_makes_10 rfl rfl ?_
    refine gg_X11_fair (i := 2) C hiX11_makes_X11 rfl dX11_makes_11 ?_
    refine g_iload_n (i := 2) C dX11_makes_14 rfl rfl ?_
    obtain ⟨r3, σ2, h4, hf⟩ := ob_inv hf
    refine g_callVi C (c_X4_hasSort (by decide) h4) (cwV 1 C.2.2.2.2.1 gX11_makes_X4_hasSort rfl rfl rfl (by decide +kernel) ⟨Nat.le_of_ble_eq_true rfl, Nat.le_of_ble_eq_true rfl⟩) (ob_X4 (by decide)) rfl rfl rfl rfl (Nat.le_of_ble_eq_true rfl) dX11_makes_15 ⟨Nat.zero_le _, Nat.zero_le _⟩ ?_
    refine g_if_ne (tgt := 23) C dX11_makes_18 (by decide) rfl (fun c5 => ?_) (fun c5 => ?_)
    · have hf := if_f c5 hf
      refine g_aload_n (i := 0) C dX11_makes_23 rfl rfl ?_
      refine g_iload_n (i := 1) C dX11_makes_24 rfl rfl ?_
      obtain ⟨r7, σ6, h8, hf⟩ := ob_inv hf
      refine g_callVi C (c_X11_lineFault  h8) (cwV 1 C.2.2.2.2.1 gX11_makes_X11_lineFault rfl rfl rfl (by decide +kernel) ⟨Nat.le_of_ble_eq_true rfl, Nat.le_of_ble_eq_true rfl⟩) ob_X11 rfl rfl rfl rfl (Nat.le_of_ble_eq_true rfl) dX11_makes_25 ⟨Nat.zero_le _, Nat.zero_le _⟩ ?_
      refine g_istore_n (i := 3) C dX11_makes_28 rfl (by decide) rfl ?_
      refine g_iload_n (i := 3) C dX11_makes_29 rfl rfl ?_
      refine g_if_eq (tgt := 37) C dX11_makes_30 (by decide) rfl (fun c9 => ?_) (fun c9 => ?_)
      · have hf := if_t c9 hf
        refine g_aload_n (i := 0) C dX11_makes_37 rfl rfl ?_
        refine gg_X11_line (i := 3) C hiX11_makes_X11 rfl dX11_makes_38 ?_
        refine gg_X3_place (i := 4) C hiX11_makes_X3 rfl dX11_makes_41 ?_
        refine g_iload_n (i := 2) C dX11_makes_44 rfl rfl ?_
        obtain ⟨hb10, hf⟩ := if_inv hf
        refine g_iaload (N := 4) C (by decide) dX11_makes_45 rfl hb10 ?_
        obtain ⟨e1, e2⟩ := some_inv hf
        exact g_iret C hr hlk e1 e2 dX11_makes_46
      · have hf := if_f c9 hf
        refine g_iload_n (i := 3) C dX11_makes_33 rfl rfl ?_
        refine g_goto (tgt := 46) C dX11_makes_34 (by decide) ?_
        obtain ⟨e1, e2⟩ := some_inv hf
        exact g_iret C hr hlk e1 e2 dX11_makes_46
    · have hf := if_t c5 hf
      refine g_iconst C dX11_makes_21 ?_
      obtain ⟨e1, e2⟩ := some_inv hf
      exact g_iret C hr hlk e1 e2 dX11_makes_22
  · have hf := if_t c1 hf
    refine g_bipush C dX11_makes_7 (by decide) ?_
    obtain ⟨e1, e2⟩ := some_inv hf
    exact g_iret C hr hlk e1 e2 dX11_makes_9
/-! X11_loses -/
abbrev rm_X11_loses : Room := { frames := 3, cells := 0, slots := 0, locals := 68 }
theorem hiX11_loses_X11 : ∀ w ∈ u_ws RX11 TX11 8, w ∈ wsX11_loses := fun _ h => (List.mem_cons_of_mem _ (List.mem_append_left _ (List.mem_append_left _ (List.mem_append_left _ (List.mem_append_right _ h)))))
set_option maxHeartbeats 4000000 in
set_option maxRecDepth 100000 in
theorem c_X11_loses {v1 : Int} {σ : Mem} (hf : f_X11_loses v1 σ = some (r0, σ0)) : CTi l D ca ad A yX11_loses wsX11_loses rm_X11_loses [.ref (ad 0), .int (iI v1)] σ r0 σ0 := by
  refine ct_i (cc := cX11_loses) (own := RX11) (maxL := 3) (ret := (some .int)) (lv0 := [some (.ref (ad 0)), some (.int (iI v1)), none]) (by decide) rfl rfl rfl (Nat.le_of_ble_eq_true rfl) ?_
  intro p e s m below meth c C hr hlk hnm
  unfold f_X11_loses at hf
  refine g_aload_n (i := 0) C dX11_loses_0 rfl rfl ?_
  refine g_iload_n (i := 1) C dX11_loses_1 rfl rfl ?_
  obtain ⟨r2, σ1, h3, hf⟩ := ob_inv hf
  refine g_callVi C (c_X11_lineFault  h3) (cwV 1 C.2.2.2.2.1 gX11_loses_X11_lineFault rfl rfl rfl (by decide +kernel) ⟨Nat.le_of_ble_eq_true rfl, Nat.le_of_ble_eq_true rfl⟩) ob_X11 rfl rfl rfl rfl (Nat.le_of_ble_eq_true rfl) dX11_loses_2 ⟨Nat.zero_le _, Nat.zero_le _⟩ ?_
  refine g_istore_n (i := 2) C dX11_loses_5 rfl (by decide) rfl ?_
  refine g_iload_n (i := 2) C dX11_loses_6 rfl rfl ?_
  refine g_if_eq (tgt := 14) C dX11_loses_7 (by decide) rfl (fun c4 => ?_) (fun c4 => ?_)
  · have hf := if_t c4 hf
    refine g_aload_n (i := 0) C dX11_loses_14 rfl rfl ?_
    refine gg_X11_line (i := 1) C hiX11_loses_X11 rfl dX11_loses_15 ?_
    obtain ⟨r6, σ5, h7, hf⟩ := ob_inv hf
    refine g_callVi C (c_X3_firstLoss  h7) (cwV 0 C.2.2.2.2.1 gX11_loses_X3_firstLoss rfl rfl rfl (by decide +kernel) ⟨Nat.le_of_ble_eq_true rfl, Nat.le_of_ble_eq_true rfl⟩) ob_X3 rfl rfl rfl rfl (Nat.le_of_ble_eq_true rfl) dX11_loses_18 ⟨Nat.zero_le _, Nat.zero_le _⟩ ?_
    obtain ⟨e1, e2⟩ := some_inv hf
    exact g_iret C hr hlk e1 e2 dX11_loses_21
  · have hf := if_f c4 hf
    refine g_iload_n (i := 2) C dX11_loses_10 rfl rfl ?_
    refine g_goto (tgt := 21) C dX11_loses_11 (by decide) ?_
    obtain ⟨e1, e2⟩ := some_inv hf
    exact g_iret C hr hlk e1 e2 dX11_loses_21
/-! X11_broken -/
abbrev rm_X11_broken : Room := { frames := 3, cells := 0, slots := 0, locals := 70 }
theorem hiX11_broken_X11 : ∀ w ∈ u_ws RX11 TX11 8, w ∈ wsX11_broken := fun _ h => (List.mem_cons_of_mem _ (List.mem_append_left _ (List.mem_append_left _ (List.mem_append_left _ (List.mem_append_right _ h)))))
set_option maxHeartbeats 4000000 in
set_option maxRecDepth 100000 in
theorem c_X11_broken {v1 : Int} {σ : Mem} (hf : f_X11_broken v1 σ = some (r0, σ0)) : CTi l D ca ad A yX11_broken wsX11_broken rm_X11_broken [.ref (ad 0), .int (iI v1)] σ r0 σ0 := by
  refine ct_i (cc := cX11_broken) (own := RX11) (maxL := 3) (ret := (some .int)) (lv0 := [some (.ref (ad 0)), some (.int (iI v1)), none]) (by decide) rfl rfl rfl (Nat.le_of_ble_eq_true rfl) ?_
  intro p e s m below meth c C hr hlk hnm
  unfold f_X11_broken at hf
  refine g_aload_n (i := 0) C dX11_broken_0 rfl rfl ?_
  refine g_iload_n (i := 1) C dX11_broken_1 rfl rfl ?_
  obtain ⟨r2, σ1, h3, hf⟩ := ob_inv hf
  refine g_callVi C (c_X11_lineFault  h3) (cwV 1 C.2.2.2.2.1 gX11_broken_X11_lineFault rfl rfl rfl (by decide +kernel) ⟨Nat.le_of_ble_eq_true rfl, Nat.le_of_ble_eq_true rfl⟩) ob_X11 rfl rfl rfl rfl (Nat.le_of_ble_eq_true rfl) dX11_broken_2 ⟨Nat.zero_le _, Nat.zero_le _⟩ ?_
  refine g_istore_n (i := 2) C dX11_broken_5 rfl (by decide) rfl ?_
  refine g_iload_n (i := 2) C dX11_broken_6 rfl rfl ?_
  refine g_if_eq (tgt := 14) C dX11_broken_7 (by decide) rfl (fun c4 => ?_) (fun c4 => ?_)
  · have hf := if_t c4 hf
    refine g_aload_n (i := 0) C dX11_broken_14 rfl rfl ?_
    refine gg_X11_line (i := 1) C hiX11_broken_X11 rfl dX11_broken_15 ?_
    obtain ⟨r6, σ5, h7, hf⟩ := ob_inv hf
    refine g_callVi C (c_X3_firstOffer  h7) (cwV 0 C.2.2.2.2.1 gX11_broken_X3_firstOffer rfl rfl rfl (by decide +kernel) ⟨Nat.le_of_ble_eq_true rfl, Nat.le_of_ble_eq_true rfl⟩) ob_X3 rfl rfl rfl rfl (Nat.le_of_ble_eq_true rfl) dX11_broken_18 ⟨Nat.zero_le _, Nat.zero_le _⟩ ?_
    obtain ⟨e1, e2⟩ := some_inv hf
    exact g_iret C hr hlk e1 e2 dX11_broken_21
  · have hf := if_f c4 hf
    refine g_iload_n (i := 2) C dX11_broken_10 rfl rfl ?_
    refine g_goto (tgt := 21) C dX11_broken_11 (by decide) ?_
    obtain ⟨e1, e2⟩ := some_inv hf
    exact g_iret C hr hlk e1 e2 dX11_broken_21
/-! X11_edge -/
abbrev rm_X11_edge : Room := { frames := 4, cells := 0, slots := 0, locals := 80 }
theorem hiX11_edge_X11 : ∀ w ∈ u_ws RX11 TX11 8, w ∈ wsX11_edge := fun _ h => (List.mem_cons_of_mem _ (List.mem_append_left _ (List.mem_append_left _ (List.mem_append_right _ h))))
theorem hiX11_edge_X4 : ∀ w ∈ u_ws RX4 TX4 9, w ∈ wsX11_edge := fun _ h => (List.mem_cons_of_mem _ (List.mem_append_left _ (List.mem_append_right _ h)))
set_option maxHeartbeats 4000000 in
set_option maxRecDepth 100000 in
theorem it_X11_edge_87 (C : Cx p s m args c cX11_edge 7 RX11 wsX11_edge D ca A) (hr : meth.sig.returnType = (some .int)) (hlk : meth.locks = false) {p2 p3 p4 : Int} {o : (Int × Int × Mem) ⊕ (Int × Mem)} (hc : ∀ (x5 x6 : Int) (σ : Mem), o = .inl (x5, x6, σ) → G p l e rm_X11_edge s m args below meth c 7 D ca ad A 0 0 (MQ below (Qi D ca ad A r0 σ0) args s 0 0 A) σ 87 [some (.ref (ad 0)), none, some (.int (iI p2)), some (.int (iI p3)), some (.int (iI p4)), some (.int (iI x5)), some (.int (iI x6))] []) (he : ∀ (y5 : Int) (σ : Mem), o = .inr (y5, σ) → G p l e rm_X11_edge s m args below meth c 7 D ca ad A 0 0 (MQ below (Qi D ca ad A r0 σ0) args s 0 0 A) σ 138 [some (.ref (ad 0)), none, some (.int (iI p2)), some (.int (iI p3)), some (.int (iI p4)), some (.int (iI y5)), none] []) {x5 x6 : Int} {σ : Mem} (hf : f_X11_edge_87 p2 p3 p4 x5 x6 σ = some o) : G p l e rm_X11_edge s m args below meth c 7 D ca ad A 0 0 (MQ below (Qi D ca ad A r0 σ0) args s 0 0 A) σ 87 [some (.ref (ad 0)), none, some (.int (iI p2)), some (.int (iI p3)), some (.int (iI p4)), some (.int (iI x5)), some (.int (iI x6))] [] := by
  unfold f_X11_edge_87 at hf
  refine g_iload C dX11_edge_87 rfl ?_
  refine g_sipush C dX11_edge_89 (by decide) ?_
  refine g_icmp_gt (b' := 999) (tgt := 138) C dX11_edge_92 (by decide) rfl (by decide) (fun c24 => ?_) (fun c24 => ?_)
  · have hf := if_t c24 hf
    exact g_mask [true, false, true, true, true, true, false] (he _ _ (Option.some.inj hf).symm)
  · have hf := if_f c24 hf
    refine g_iload C dX11_edge_95 rfl ?_
    refine g_bipush C dX11_edge_97 (by decide) ?_
    refine g_icmp_ne (b' := (-4)) (tgt := 138) C dX11_edge_99 (by decide) rfl (by decide) (fun c25 => ?_) (fun c25 => ?_)
    · have hf := if_f c25 hf
      exact g_mask [true, false, true, true, true, true, false] (he _ _ (Option.some.inj hf).symm)
    · have hf := if_t c25 hf
      refine g_aload_n (i := 0) C dX11_edge_102 rfl rfl ?_
      refine gg_X11_fair (i := 2) C hiX11_edge_X11 rfl dX11_edge_103 ?_
      refine gg_X4_cost (i := 4) (b := 16)  C (by decide) (by decide) hiX11_edge_X4 rfl dX11_edge_106 ?_
      refine g_iload_n (i := 2) C dX11_edge_109 rfl rfl ?_
      obtain ⟨hb26, hf⟩ := if_inv hf
      refine g_aaload C (Or.inr ⟨(by decide), rfl, hb26⟩) dX11_edge_110 rfl ?_
      refine g_iload_n (i := 3) C dX11_edge_111 rfl rfl ?_
      refine g_iload C dX11_edge_112 rfl ?_
      obtain ⟨hb27, hf⟩ := if_inv hf
      refine g_iastore (N := 4) C (kI_row (by decide) hb26) dX11_edge_114 rfl hb27 ?_
      refine g_aload_n (i := 0) C dX11_edge_115 rfl rfl ?_
      refine gg_X11_scales (i := 3) C hiX11_edge_X11 rfl dX11_edge_116 ?_
      refine g_iload_n (i := 3) C dX11_edge_119 rfl rfl ?_
      obtain ⟨r30, σ29, h31, hf⟩ := ob_inv hf
      refine g_callVi C (c_X7_firstLure  h31) (cwV 1 C.2.2.2.2.1 gX11_edge_X7_firstLure rfl rfl rfl (by decide +kernel) ⟨Nat.le_of_ble_eq_true rfl, Nat.le_of_ble_eq_true rfl⟩) ob_X7 rfl rfl rfl rfl (Nat.le_of_ble_eq_true rfl) dX11_edge_120 ⟨Nat.zero_le _, Nat.zero_le _⟩ ?_
      refine g_bipush C dX11_edge_123 (by decide) ?_
      refine g_icmp_ne (b' := (-4)) (tgt := 132) C dX11_edge_125 (by decide) rfl (by decide) (fun c32 => ?_) (fun c32 => ?_)
      · have hf := if_f c32 hf
        refine g_iinc C dX11_edge_132 rfl (by decide) rfl ?_
        refine g_goto (tgt := 87) C dX11_edge_135 (by decide) ?_
        exact g_mask [true, false, true, true, true, true, true] (hc _ _ _ (Option.some.inj hf).symm)
      · have hf := if_t c32 hf
        refine g_iload C dX11_edge_128 rfl ?_
        refine g_istore C dX11_edge_130 (by decide) rfl ?_
        refine g_iinc C dX11_edge_132 rfl (by decide) rfl ?_
        refine g_goto (tgt := 87) C dX11_edge_135 (by decide) ?_
        exact g_mask [true, false, true, true, true, true, true] (hc _ _ _ (Option.some.inj hf).symm)
set_option maxHeartbeats 4000000 in
set_option maxRecDepth 100000 in
theorem w_X11_edge_87 (C : Cx p s m args c cX11_edge 7 RX11 wsX11_edge D ca A) (hr : meth.sig.returnType = (some .int)) (hlk : meth.locks = false) {p2 p3 p4 : Int} {n : Nat} {x5 x6 : Int} {σ : Mem} {b : (Int × Mem)} (h : itr (fun z : Int × Int × Mem => f_X11_edge_87 p2 p3 p4 z.1 z.2.1 z.2.2) n (x5, x6, σ) = some b) (he : ∀ (y5 : Int) (σ : Mem), b = (y5, σ) → G p l e rm_X11_edge s m args below meth c 7 D ca ad A 0 0 (MQ below (Qi D ca ad A r0 σ0) args s 0 0 A) σ 138 [some (.ref (ad 0)), none, some (.int (iI p2)), some (.int (iI p3)), some (.int (iI p4)), some (.int (iI y5)), none] []) : G p l e rm_X11_edge s m args below meth c 7 D ca ad A 0 0 (MQ below (Qi D ca ad A r0 σ0) args s 0 0 A) σ 87 [some (.ref (ad 0)), none, some (.int (iI p2)), some (.int (iI p3)), some (.int (iI p4)), some (.int (iI x5)), some (.int (iI x6))] [] :=
  itr_rule (P := fun z : Int × Int × Mem => G p l e rm_X11_edge s m args below meth c 7 D ca ad A 0 0 (MQ below (Qi D ca ad A r0 σ0) args s 0 0 A) z.2.2 87 [some (.ref (ad 0)), none, some (.int (iI p2)), some (.int (iI p3)), some (.int (iI p4)), some (.int (iI z.1)), some (.int (iI z.2.1))] []) (E := fun b => ∀ (y5 : Int) (σ : Mem), b = (y5, σ) → G p l e rm_X11_edge s m args below meth c 7 D ca ad A 0 0 (MQ below (Qi D ca ad A r0 σ0) args s 0 0 A) σ 138 [some (.ref (ad 0)), none, some (.int (iI p2)), some (.int (iI p3)), some (.int (iI p4)), some (.int (iI y5)), none] []) (fun z o hb hc he => it_X11_edge_87 C hr hlk (fun _ _ _ e => hc _ e) (fun _ _ e => (he _ e) _ _ rfl) hb) n _ _ h he
set_option maxHeartbeats 4000000 in
set_option maxRecDepth 100000 in
theorem c_X11_edge {v1 v2 v3 : Int} {σ : Mem} (hf : f_X11_edge v1 v2 v3 σ = some (r0, σ0)) : CTi l D ca ad A yX11_edge wsX11_edge rm_X11_edge [.ref (ad 0), .int (iI v1), .int (iI v2), .int (iI v3)] σ r0 σ0 := by
  refine ct_i (cc := cX11_edge) (own := RX11) (maxL := 7) (ret := (some .int)) (lv0 := [some (.ref (ad 0)), some (.int (iI v1)), some (.int (iI v2)), some (.int (iI v3)), none, none, none]) (by decide) rfl rfl rfl (Nat.le_of_ble_eq_true rfl) ?_
  intro p e s m below meth c C hr hlk hnm
  unfold f_X11_edge at hf
  refine g_aload_n (i := 0) C dX11_edge_0 rfl rfl ?_
  refine gg_X11_hasMarket (i := 1) C hiX11_edge_X11 rfl dX11_edge_1 ?_
  refine g_if_ne (tgt := 10) C dX11_edge_4 (by decide) rfl (fun c1 => ?_) (fun c1 => ?_)
  · have hf := if_f c1 hf
    refine g_aload_n (i := 0) C dX11_edge_10 rfl rfl ?_
    refine gg_X11_fair (i := 2) C hiX11_edge_X11 rfl dX11_edge_11 ?_
    refine g_iload_n (i := 1) C dX11_edge_14 rfl rfl ?_
    obtain ⟨r3, σ2, h4, hf⟩ := ob_inv hf
    refine g_callVi C (c_X4_hasFit (by decide) h4) (cwV 1 C.2.2.2.2.1 gX11_edge_X4_hasFit rfl rfl rfl (by decide +kernel) ⟨Nat.le_of_ble_eq_true rfl, Nat.le_of_ble_eq_true rfl⟩) (ob_X4 (by decide)) rfl rfl rfl rfl (Nat.le_of_ble_eq_true rfl) dX11_edge_15 ⟨Nat.zero_le _, Nat.zero_le _⟩ ?_
    refine g_if_eq (tgt := 43) C dX11_edge_18 (by decide) rfl (fun c5 => ?_) (fun c5 => ?_)
    · have hf := if_t c5 hf
      refine g_iconst C dX11_edge_43 ?_
      obtain ⟨e1, e2⟩ := some_inv hf
      exact g_iret C hr hlk e1 e2 dX11_edge_44
    · have hf := if_f c5 hf
      refine g_aload_n (i := 0) C dX11_edge_21 rfl rfl ?_
      refine gg_X11_fair (i := 2) C hiX11_edge_X11 rfl dX11_edge_22 ?_
      refine g_iload_n (i := 2) C dX11_edge_25 rfl rfl ?_
      obtain ⟨r7, σ6, h8, hf⟩ := ob_inv hf
      refine g_callVi C (c_X4_hasMark (by decide) h8) (cwV 1 C.2.2.2.2.1 gX11_edge_X4_hasMark rfl rfl rfl (by decide +kernel) ⟨Nat.le_of_ble_eq_true rfl, Nat.le_of_ble_eq_true rfl⟩) (ob_X4 (by decide)) rfl rfl rfl rfl (Nat.le_of_ble_eq_true rfl) dX11_edge_26 ⟨Nat.zero_le _, Nat.zero_le _⟩ ?_
      refine g_if_eq (tgt := 43) C dX11_edge_29 (by decide) rfl (fun c9 => ?_) (fun c9 => ?_)
      · have hf := if_t c9 hf
        refine g_iconst C dX11_edge_43 ?_
        obtain ⟨e1, e2⟩ := some_inv hf
        exact g_iret C hr hlk e1 e2 dX11_edge_44
      · have hf := if_f c9 hf
        refine g_aload_n (i := 0) C dX11_edge_32 rfl rfl ?_
        refine gg_X11_fair (i := 2) C hiX11_edge_X11 rfl dX11_edge_33 ?_
        refine g_iload_n (i := 3) C dX11_edge_36 rfl rfl ?_
        obtain ⟨r11, σ10, h12, hf⟩ := ob_inv hf
        refine g_callVi C (c_X4_hasSort (by decide) h12) (cwV 1 C.2.2.2.2.1 gX11_edge_X4_hasSort rfl rfl rfl (by decide +kernel) ⟨Nat.le_of_ble_eq_true rfl, Nat.le_of_ble_eq_true rfl⟩) (ob_X4 (by decide)) rfl rfl rfl rfl (Nat.le_of_ble_eq_true rfl) dX11_edge_37 ⟨Nat.zero_le _, Nat.zero_le _⟩ ?_
        refine g_if_ne (tgt := 45) C dX11_edge_40 (by decide) rfl (fun c13 => ?_) (fun c13 => ?_)
        · have hf := if_f c13 hf
          refine g_aload_n (i := 0) C dX11_edge_45 rfl rfl ?_
          refine gg_X11_scales (i := 3) C hiX11_edge_X11 rfl dX11_edge_46 ?_
          refine g_iload_n (i := 1) C dX11_edge_49 rfl rfl ?_
          obtain ⟨r15, σ14, h16, hf⟩ := ob_inv hf
          refine g_callVv C (c_X7_weigh  h16) (cwV 1 C.2.2.2.2.1 gX11_edge_X7_weigh rfl rfl rfl (by decide +kernel) ⟨Nat.le_of_ble_eq_true rfl, Nat.le_of_ble_eq_true rfl⟩) ob_X7 rfl rfl rfl rfl (Nat.le_of_ble_eq_true rfl) dX11_edge_50 ⟨Nat.zero_le _, Nat.zero_le _⟩ ?_
          refine g_aload_n (i := 0) C dX11_edge_53 rfl rfl ?_
          refine gg_X11_scales (i := 3) C hiX11_edge_X11 rfl dX11_edge_54 ?_
          refine g_iload_n (i := 3) C dX11_edge_57 rfl rfl ?_
          obtain ⟨r18, σ17, h19, hf⟩ := ob_inv hf
          refine g_callVi C (c_X7_isContentBut  h19) (cwV 1 C.2.2.2.2.1 gX11_edge_X7_isContentBut rfl rfl rfl (by decide +kernel) ⟨Nat.le_of_ble_eq_true rfl, Nat.le_of_ble_eq_true rfl⟩) ob_X7 rfl rfl rfl rfl (Nat.le_of_ble_eq_true rfl) dX11_edge_58 ⟨Nat.zero_le _, Nat.zero_le _⟩ ?_
          refine g_if_ne (tgt := 67) C dX11_edge_61 (by decide) rfl (fun c20 => ?_) (fun c20 => ?_)
          · have hf := if_f c20 hf
            refine g_aload_n (i := 0) C dX11_edge_67 rfl rfl ?_
            refine gg_X11_fair (i := 2) C hiX11_edge_X11 rfl dX11_edge_68 ?_
            refine gg_X4_cost (i := 4) (b := 16)  C (by decide) (by decide) hiX11_edge_X4 rfl dX11_edge_71 ?_
            refine g_iload_n (i := 2) C dX11_edge_74 rfl rfl ?_
            obtain ⟨hb21, hf⟩ := if_inv hf
            refine g_aaload C (Or.inr ⟨(by decide), rfl, hb21⟩) dX11_edge_75 rfl ?_
            refine g_iload_n (i := 3) C dX11_edge_76 rfl rfl ?_
            obtain ⟨hb22, hf⟩ := if_inv hf
            refine g_iaload (N := 4) C (kI_row (by decide) hb21) dX11_edge_77 rfl hb22 ?_
            refine g_istore C dX11_edge_78 (by decide) rfl ?_
            refine g_bipush C dX11_edge_80 (by decide) ?_
            refine g_istore C dX11_edge_82 (by decide) rfl ?_
            refine g_iconst C dX11_edge_84 ?_
            refine g_istore C dX11_edge_85 (by decide) rfl ?_
            obtain ⟨q33, hl34, hf⟩ := lb_inv hf
            refine g_mask [true, false, true, true, true, true, true] (w_X11_edge_87 C hr hlk hl34 ?_)
            · rintro y35 σ36 rfl
              refine g_aload_n (i := 0) C dX11_edge_138 rfl rfl ?_
              refine gg_X11_fair (i := 2) C hiX11_edge_X11 rfl dX11_edge_139 ?_
              refine gg_X4_cost (i := 4) (b := 16)  C (by decide) (by decide) hiX11_edge_X4 rfl dX11_edge_142 ?_
              refine g_iload_n (i := 2) C dX11_edge_145 rfl rfl ?_
              obtain ⟨hb37, hf⟩ := if_inv hf
              refine g_aaload C (Or.inr ⟨(by decide), rfl, hb37⟩) dX11_edge_146 rfl ?_
              refine g_iload_n (i := 3) C dX11_edge_147 rfl rfl ?_
              refine g_iload C dX11_edge_148 rfl ?_
              obtain ⟨hb38, hf⟩ := if_inv hf
              refine g_iastore (N := 4) C (kI_row (by decide) hb37) dX11_edge_150 rfl hb38 ?_
              refine g_iload C dX11_edge_151 rfl ?_
              obtain ⟨e1, e2⟩ := some_inv hf
              exact g_iret C hr hlk e1 e2 dX11_edge_153
          · have hf := if_t c20 hf
            refine g_bipush C dX11_edge_64 (by decide) ?_
            obtain ⟨e1, e2⟩ := some_inv hf
            exact g_iret C hr hlk e1 e2 dX11_edge_66
        · have hf := if_t c13 hf
          refine g_iconst C dX11_edge_43 ?_
          obtain ⟨e1, e2⟩ := some_inv hf
          exact g_iret C hr hlk e1 e2 dX11_edge_44
  · have hf := if_t c1 hf
    refine g_bipush C dX11_edge_7 (by decide) ?_
    obtain ⟨e1, e2⟩ := some_inv hf
    exact g_iret C hr hlk e1 e2 dX11_edge_9
/-! X11_run -/
abbrev rm_X11_run : Room := { frames := 1, cells := 0, slots := 0, locals := 24 }
theorem hiX11_run_X11 : ∀ w ∈ u_ws RX11 TX11 8, w ∈ wsX11_run := fun _ h => (List.mem_cons_of_mem _ (List.mem_append_left _ (List.mem_append_left _ (List.mem_append_right _ h))))
theorem hiX11_run_X7 : ∀ w ∈ u_ws RX7 TX7 14, w ∈ wsX11_run := fun _ h => (List.mem_cons_of_mem _ (List.mem_append_left _ (List.mem_append_right _ h)))
set_option maxHeartbeats 4000000 in
set_option maxRecDepth 100000 in
theorem it_X11_run_62 (C : Cx p s m args c cX11_run 9 RX11 wsX11_run D ca A) (hr : meth.sig.returnType = (some .int)) (hlk : meth.locks = false) {p2 p4 : Int} {o : (Int × Int × Int × Mem) ⊕ (Int × Mem)} (hc : ∀ (x5 x6 x7 : Int) (σ : Mem), o = .inl (x5, x6, x7, σ) → G p l e rm_X11_run s m args below meth c 9 D ca ad A 0 0 (MQ below (Qi D ca ad A r0 σ0) args s 0 0 A) σ 62 [some (.ref (ad 0)), none, some (.int (iI p2)), none, some (.int (iI p4)), some (.int (iI x5)), some (.int (iI x6)), some (.int (iI x7)), none] []) (he : ∀ (y6 : Int) (σ : Mem), o = .inr (y6, σ) → G p l e rm_X11_run s m args below meth c 9 D ca ad A 0 0 (MQ below (Qi D ca ad A r0 σ0) args s 0 0 A) σ 123 [none, none, none, none, none, none, some (.int (iI y6)), none, none] []) {x5 x6 x7 : Int} {σ : Mem} (hf : f_X11_run_62 p2 p4 x5 x6 x7 σ = some o) : G p l e rm_X11_run s m args below meth c 9 D ca ad A 0 0 (MQ below (Qi D ca ad A r0 σ0) args s 0 0 A) σ 62 [some (.ref (ad 0)), none, some (.int (iI p2)), none, some (.int (iI p4)), some (.int (iI x5)), some (.int (iI x6)), some (.int (iI x7)), none] [] := by
  unfold f_X11_run_62 at hf
  refine g_iload C dX11_run_62 rfl ?_
  refine g_iload_n (i := 2) C dX11_run_64 rfl rfl ?_
  refine g_icmp_ge (tgt := 123) C dX11_run_65 (by decide) rfl rfl (fun c13 => ?_) (fun c13 => ?_)
  · have hf := if_t c13 hf
    exact g_mask [false, false, false, false, false, false, true, false, false] (he _ _ (Option.some.inj hf).symm)
  · have hf := if_f c13 hf
    refine g_iload C dX11_run_68 rfl ?_
    refine g_ldc (i := 4) (z := 1103515245) C dX11_run_70 rfl (by decide) ?_
    refine g_imul C dX11_run_72 ?_
    refine g_sipush C dX11_run_73 (by decide) ?_
    refine g_iadd C dX11_run_76 ?_
    refine g_istore C dX11_run_77 (by decide) rfl ?_
    refine g_iload C dX11_run_79 rfl ?_
    refine g_ldc (i := 5) (z := 2147483647) C dX11_run_81 rfl (by decide) ?_
    refine g_iand C dX11_run_83 ?_
    refine g_ldc (i := 6) (z := 65536) C dX11_run_84 rfl (by decide) ?_
    refine g_idiv (b' := 65536) C dX11_run_86 rfl (by decide) (by decide) ?_
    refine g_bipush C dX11_run_87 (by decide) ?_
    refine g_irem (b' := 100) C dX11_run_89 rfl (by decide) (by decide) ?_
    refine g_istore C dX11_run_90 (by decide) rfl ?_
    refine g_aload_n (i := 0) C dX11_run_92 rfl rfl ?_
    refine gg_X11_scales (i := 3) C hiX11_run_X11 rfl dX11_run_93 ?_
    refine gg_X7_place (i := 7) C hiX11_run_X7 rfl dX11_run_96 ?_
    refine g_aload_n (i := 0) C dX11_run_99 rfl rfl ?_
    refine gg_X11_fair (i := 2) C hiX11_run_X11 rfl dX11_run_100 ?_
    refine g_iload C dX11_run_103 rfl ?_
    obtain ⟨r17, σ16, h18, hf⟩ := ob_inv hf
    refine g_callVi C (c_X4_sortDrawn (by decide) h18) (cwV 1 C.2.2.2.2.1 gX11_run_X4_sortDrawn rfl rfl rfl (by decide +kernel) ⟨Nat.le_of_ble_eq_true rfl, Nat.le_of_ble_eq_true rfl⟩) (ob_X4 (by decide)) rfl rfl rfl rfl (Nat.le_of_ble_eq_true rfl) dX11_run_105 ⟨Nat.zero_le _, Nat.zero_le _⟩ ?_
    obtain ⟨hb19, hf⟩ := if_inv hf
    refine g_iaload (N := 4) C (by decide) dX11_run_108 rfl hb19 ?_
    refine g_iload C dX11_run_109 rfl ?_
    refine g_icmp_ne (tgt := 117) C dX11_run_111 (by decide) rfl rfl (fun c20 => ?_) (fun c20 => ?_)
    · have hf := if_f c20 hf
      refine g_iinc C dX11_run_117 rfl (by decide) rfl ?_
      refine g_goto (tgt := 62) C dX11_run_120 (by decide) ?_
      exact g_mask [true, false, true, false, true, true, true, true, false] (hc _ _ _ _ (Option.some.inj hf).symm)
    · have hf := if_t c20 hf
      refine g_iinc C dX11_run_114 rfl (by decide) rfl ?_
      refine g_iinc C dX11_run_117 rfl (by decide) rfl ?_
      refine g_goto (tgt := 62) C dX11_run_120 (by decide) ?_
      exact g_mask [true, false, true, false, true, true, true, true, false] (hc _ _ _ _ (Option.some.inj hf).symm)
set_option maxHeartbeats 4000000 in
set_option maxRecDepth 100000 in
theorem w_X11_run_62 (C : Cx p s m args c cX11_run 9 RX11 wsX11_run D ca A) (hr : meth.sig.returnType = (some .int)) (hlk : meth.locks = false) {p2 p4 : Int} {n : Nat} {x5 x6 x7 : Int} {σ : Mem} {b : (Int × Mem)} (h : itr (fun z : Int × Int × Int × Mem => f_X11_run_62 p2 p4 z.1 z.2.1 z.2.2.1 z.2.2.2) n (x5, x6, x7, σ) = some b) (he : ∀ (y6 : Int) (σ : Mem), b = (y6, σ) → G p l e rm_X11_run s m args below meth c 9 D ca ad A 0 0 (MQ below (Qi D ca ad A r0 σ0) args s 0 0 A) σ 123 [none, none, none, none, none, none, some (.int (iI y6)), none, none] []) : G p l e rm_X11_run s m args below meth c 9 D ca ad A 0 0 (MQ below (Qi D ca ad A r0 σ0) args s 0 0 A) σ 62 [some (.ref (ad 0)), none, some (.int (iI p2)), none, some (.int (iI p4)), some (.int (iI x5)), some (.int (iI x6)), some (.int (iI x7)), none] [] :=
  itr_rule (P := fun z : Int × Int × Int × Mem => G p l e rm_X11_run s m args below meth c 9 D ca ad A 0 0 (MQ below (Qi D ca ad A r0 σ0) args s 0 0 A) z.2.2.2 62 [some (.ref (ad 0)), none, some (.int (iI p2)), none, some (.int (iI p4)), some (.int (iI z.1)), some (.int (iI z.2.1)), some (.int (iI z.2.2.1)), none] []) (E := fun b => ∀ (y6 : Int) (σ : Mem), b = (y6, σ) → G p l e rm_X11_run s m args below meth c 9 D ca ad A 0 0 (MQ below (Qi D ca ad A r0 σ0) args s 0 0 A) σ 123 [none, none, none, none, none, none, some (.int (iI y6)), none, none] []) (fun z o hb hc he => it_X11_run_62 C hr hlk (fun _ _ _ _ e => hc _ e) (fun _ _ e => (he _ e) _ _ rfl) hb) n _ _ h he
set_option maxHeartbeats 4000000 in
set_option maxRecDepth 100000 in
theorem c_X11_run {v1 v2 v3 v4 : Int} {σ : Mem} (hf : f_X11_run v1 v2 v3 v4 σ = some (r0, σ0)) : CTi l D ca ad A yX11_run wsX11_run rm_X11_run [.ref (ad 0), .int (iI v1), .int (iI v2), .int (iI v3), .int (iI v4)] σ r0 σ0 := by
  refine ct_i (cc := cX11_run) (own := RX11) (maxL := 9) (ret := (some .int)) (lv0 := [some (.ref (ad 0)), some (.int (iI v1)), some (.int (iI v2)), some (.int (iI v3)), some (.int (iI v4)), none, none, none, none]) (by decide) rfl rfl rfl (Nat.le_of_ble_eq_true rfl) ?_
  intro p e s m below meth c C hr hlk hnm
  unfold f_X11_run at hf
  refine g_aload_n (i := 0) C dX11_run_0 rfl rfl ?_
  refine gg_X11_hasMarket (i := 1) C hiX11_run_X11 rfl dX11_run_1 ?_
  refine g_if_ne (tgt := 10) C dX11_run_4 (by decide) rfl (fun c1 => ?_) (fun c1 => ?_)
  · have hf := if_f c1 hf
    refine g_aload_n (i := 0) C dX11_run_10 rfl rfl ?_
    refine gg_X11_fair (i := 2) C hiX11_run_X11 rfl dX11_run_11 ?_
    refine g_iload_n (i := 1) C dX11_run_14 rfl rfl ?_
    obtain ⟨r3, σ2, h4, hf⟩ := ob_inv hf
    refine g_callVi C (c_X4_hasFit (by decide) h4) (cwV 1 C.2.2.2.2.1 gX11_run_X4_hasFit rfl rfl rfl (by decide +kernel) ⟨Nat.le_of_ble_eq_true rfl, Nat.le_of_ble_eq_true rfl⟩) (ob_X4 (by decide)) rfl rfl rfl rfl (Nat.le_of_ble_eq_true rfl) dX11_run_15 ⟨Nat.zero_le _, Nat.zero_le _⟩ ?_
    refine g_if_eq (tgt := 43) C dX11_run_18 (by decide) rfl (fun c5 => ?_) (fun c5 => ?_)
    · have hf := if_t c5 hf
      refine g_iconst C dX11_run_43 ?_
      obtain ⟨e1, e2⟩ := some_inv hf
      exact g_iret C hr hlk e1 e2 dX11_run_44
    · have hf := if_f c5 hf
      refine g_iload_n (i := 2) C dX11_run_21 rfl rfl ?_
      refine g_iconst C dX11_run_22 ?_
      refine g_icmp_lt (b' := 1) (tgt := 43) C dX11_run_23 (by decide) rfl (by decide) (fun c6 => ?_) (fun c6 => ?_)
      · have hf := if_t c6 hf
        refine g_iconst C dX11_run_43 ?_
        obtain ⟨e1, e2⟩ := some_inv hf
        exact g_iret C hr hlk e1 e2 dX11_run_44
      · have hf := if_f c6 hf
        refine g_iload_n (i := 2) C dX11_run_26 rfl rfl ?_
        refine g_bipush C dX11_run_27 (by decide) ?_
        refine g_icmp_gt (b' := 99) (tgt := 43) C dX11_run_29 (by decide) rfl (by decide) (fun c7 => ?_) (fun c7 => ?_)
        · have hf := if_t c7 hf
          refine g_iconst C dX11_run_43 ?_
          obtain ⟨e1, e2⟩ := some_inv hf
          exact g_iret C hr hlk e1 e2 dX11_run_44
        · have hf := if_f c7 hf
          refine g_iload C dX11_run_32 rfl ?_
          refine g_if_lt (tgt := 43) C dX11_run_34 (by decide) rfl (fun c8 => ?_) (fun c8 => ?_)
          · have hf := if_t c8 hf
            refine g_iconst C dX11_run_43 ?_
            obtain ⟨e1, e2⟩ := some_inv hf
            exact g_iret C hr hlk e1 e2 dX11_run_44
          · have hf := if_f c8 hf
            refine g_iload C dX11_run_37 rfl ?_
            refine g_iconst C dX11_run_39 ?_
            refine g_icmp_le (b' := 4) (tgt := 45) C dX11_run_40 (by decide) rfl (by decide) (fun c9 => ?_) (fun c9 => ?_)
            · have hf := if_t c9 hf
              refine g_aload_n (i := 0) C dX11_run_45 rfl rfl ?_
              refine gg_X11_scales (i := 3) C hiX11_run_X11 rfl dX11_run_46 ?_
              refine g_iload_n (i := 1) C dX11_run_49 rfl rfl ?_
              obtain ⟨r11, σ10, h12, hf⟩ := ob_inv hf
              refine g_callVv C (c_X7_lay  h12) (cwV 1 C.2.2.2.2.1 gX11_run_X7_lay rfl rfl rfl (by decide +kernel) ⟨Nat.le_of_ble_eq_true rfl, Nat.le_of_ble_eq_true rfl⟩) ob_X7 rfl rfl rfl rfl (Nat.le_of_ble_eq_true rfl) dX11_run_50 ⟨Nat.zero_le _, Nat.zero_le _⟩ ?_
              refine g_iload_n (i := 3) C dX11_run_53 rfl rfl ?_
              refine g_istore C dX11_run_54 (by decide) rfl ?_
              refine g_iconst C dX11_run_56 ?_
              refine g_istore C dX11_run_57 (by decide) rfl ?_
              refine g_iconst C dX11_run_59 ?_
              refine g_istore C dX11_run_60 (by decide) rfl ?_
              obtain ⟨q21, hl22, hf⟩ := lb_inv hf
              refine g_mask [true, false, true, false, true, true, true, true, false] (w_X11_run_62 C hr hlk hl22 ?_)
              · rintro y23 σ24 rfl
                refine g_iload C dX11_run_123 rfl ?_
                obtain ⟨e1, e2⟩ := some_inv hf
                exact g_iret C hr hlk e1 e2 dX11_run_125
            · have hf := if_f c9 hf
              refine g_iconst C dX11_run_43 ?_
              obtain ⟨e1, e2⟩ := some_inv hf
              exact g_iret C hr hlk e1 e2 dX11_run_44
  · have hf := if_t c1 hf
    refine g_bipush C dX11_run_7 (by decide) ?_
    obtain ⟨e1, e2⟩ := some_inv hf
    exact g_iret C hr hlk e1 e2 dX11_run_9
/-! X11_rate -/
abbrev rm_X11_rate : Room := { frames := 0, cells := 0, slots := 0, locals := 0 }
theorem hiX11_rate_X11 : ∀ w ∈ u_ws RX11 TX11 8, w ∈ wsX11_rate := fun _ h => (List.mem_cons_of_mem _ (List.mem_append_left _ (List.mem_append_right _ h)))
theorem hiX11_rate_X4 : ∀ w ∈ u_ws RX4 TX4 9, w ∈ wsX11_rate := fun _ h => (List.mem_cons_of_mem _ (List.mem_append_right _ h))
set_option maxHeartbeats 4000000 in
set_option maxRecDepth 100000 in
theorem c_X11_rate {v1 : Int} {σ : Mem} (hf : f_X11_rate v1 σ = some (r0, σ0)) : CTi l D ca ad A yX11_rate wsX11_rate rm_X11_rate [.ref (ad 0), .int (iI v1)] σ r0 σ0 := by
  refine ct_i (cc := cX11_rate) (own := RX11) (maxL := 3) (ret := (some .int)) (lv0 := [some (.ref (ad 0)), some (.int (iI v1)), none]) (by decide) rfl rfl rfl (Nat.le_of_ble_eq_true rfl) ?_
  intro p e s m below meth c C hr hlk hnm
  unfold f_X11_rate at hf
  refine g_aload_n (i := 0) C dX11_rate_0 rfl rfl ?_
  refine gg_X11_hasMarket (i := 1) C hiX11_rate_X11 rfl dX11_rate_1 ?_
  refine g_if_ne (tgt := 10) C dX11_rate_4 (by decide) rfl (fun c1 => ?_) (fun c1 => ?_)
  · have hf := if_f c1 hf
    refine g_iload_n (i := 1) C dX11_rate_10 rfl rfl ?_
    refine g_if_lt (tgt := 20) C dX11_rate_11 (by decide) rfl (fun c2 => ?_) (fun c2 => ?_)
    · have hf := if_t c2 hf
      refine g_iconst C dX11_rate_20 ?_
      obtain ⟨e1, e2⟩ := some_inv hf
      exact g_iret C hr hlk e1 e2 dX11_rate_21
    · have hf := if_f c2 hf
      refine g_iload_n (i := 1) C dX11_rate_14 rfl rfl ?_
      refine g_bipush C dX11_rate_15 (by decide) ?_
      refine g_icmp_le (b' := 100) (tgt := 22) C dX11_rate_17 (by decide) rfl (by decide) (fun c3 => ?_) (fun c3 => ?_)
      · have hf := if_t c3 hf
        refine g_aload_n (i := 0) C dX11_rate_22 rfl rfl ?_
        refine gg_X11_fair (i := 2) C hiX11_rate_X11 rfl dX11_rate_23 ?_
        refine gg_X4_rate (i := 3) C (by decide) hiX11_rate_X4 rfl dX11_rate_26 ?_
        refine g_istore_n (i := 2) C dX11_rate_29 rfl (by decide) rfl ?_
        refine g_aload_n (i := 0) C dX11_rate_30 rfl rfl ?_
        refine gg_X11_fair (i := 2) C hiX11_rate_X11 rfl dX11_rate_31 ?_
        refine g_iload_n (i := 1) C dX11_rate_34 rfl rfl ?_
        refine gp_X4_rate (i := 3) C (by decide) hiX11_rate_X4 rfl dX11_rate_35 ?_
        refine g_iload_n (i := 2) C dX11_rate_38 rfl rfl ?_
        obtain ⟨e1, e2⟩ := some_inv hf
        exact g_iret C hr hlk e1 e2 dX11_rate_39
      · have hf := if_f c3 hf
        refine g_iconst C dX11_rate_20 ?_
        obtain ⟨e1, e2⟩ := some_inv hf
        exact g_iret C hr hlk e1 e2 dX11_rate_21
  · have hf := if_t c1 hf
    refine g_bipush C dX11_rate_7 (by decide) ?_
    obtain ⟨e1, e2⟩ := some_inv hf
    exact g_iret C hr hlk e1 e2 dX11_rate_9
/-! X11_isSpan -/
abbrev rm_X11_isSpan : Room := { frames := 0, cells := 0, slots := 0, locals := 0 }
set_option maxHeartbeats 4000000 in
set_option maxRecDepth 100000 in
theorem c_X11_isSpan {v0 : Int} {σ : Mem} (hf : f_X11_isSpan v0 σ = some (r0, σ0)) : CTi l D ca ad A yX11_isSpan wsX11_isSpan rm_X11_isSpan [.int (iI v0)] σ r0 σ0 := by
  refine ct_i (cc := cX11_isSpan) (own := RX11) (maxL := 1) (ret := (some .boolean)) (lv0 := [some (.int (iI v0))]) (by decide) rfl rfl rfl (Nat.le_of_ble_eq_true rfl) ?_
  intro p e s m below meth c C hr hlk hnm
  unfold f_X11_isSpan at hf
  refine g_iload_n (i := 0) C dX11_isSpan_0 rfl rfl ?_
  refine g_iconst C dX11_isSpan_1 ?_
  refine g_icmp_lt (b' := 1) (tgt := 15) C dX11_isSpan_2 (by decide) rfl (by decide) (fun c1 => ?_) (fun c1 => ?_)
  · have hf := if_t c1 hf
    refine g_iconst C dX11_isSpan_15 ?_
    obtain ⟨e1, e2⟩ := some_inv hf
    exact g_zret C hr hlk (by decide) e1 e2 dX11_isSpan_16
  · have hf := if_f c1 hf
    refine g_iload_n (i := 0) C dX11_isSpan_5 rfl rfl ?_
    refine g_bipush C dX11_isSpan_6 (by decide) ?_
    refine g_icmp_gt (b' := 12) (tgt := 15) C dX11_isSpan_8 (by decide) rfl (by decide) (fun c2 => ?_) (fun c2 => ?_)
    · have hf := if_t c2 hf
      refine g_iconst C dX11_isSpan_15 ?_
      obtain ⟨e1, e2⟩ := some_inv hf
      exact g_zret C hr hlk (by decide) e1 e2 dX11_isSpan_16
    · have hf := if_f c2 hf
      refine g_iconst C dX11_isSpan_11 ?_
      refine g_goto (tgt := 16) C dX11_isSpan_12 (by decide) ?_
      obtain ⟨e1, e2⟩ := some_inv hf
      exact g_zret C hr hlk (by decide) e1 e2 dX11_isSpan_16
/-! X11_years -/
abbrev rm_X11_years : Room := { frames := 4, cells := 0, slots := 0, locals := 80 }
theorem hiX11_years_X11 : ∀ w ∈ u_ws RX11 TX11 8, w ∈ wsX11_years := fun _ h => (List.mem_cons_of_mem _ (List.mem_append_left _ (List.mem_append_left _ (List.mem_append_right _ h))))
set_option maxHeartbeats 4000000 in
set_option maxRecDepth 100000 in
theorem c_X11_years {v1 v2 v3 v4 : Int} {σ : Mem} (hf : f_X11_years v1 v2 v3 v4 σ = some (r0, σ0)) : CTl l D ca ad A yX11_years wsX11_years rm_X11_years [.ref (ad 0), .int (iI v1), .int (iI v2), .int (iI v3), .int (iI v4)] σ r0 σ0 := by
  refine ct_l (cc := cX11_years) (own := RX11) (maxL := 7) (ret := (some .long)) (lv0 := [some (.ref (ad 0)), some (.int (iI v1)), some (.int (iI v2)), some (.int (iI v3)), some (.int (iI v4)), none, none]) (by decide) rfl rfl rfl (Nat.le_of_ble_eq_true rfl) ?_
  intro p e s m below meth c C hr hlk hnm
  unfold f_X11_years at hf
  refine g_aload_n (i := 0) C dX11_years_0 rfl rfl ?_
  refine gg_X11_hasMarket (i := 1) C hiX11_years_X11 rfl dX11_years_1 ?_
  refine g_if_eq (tgt := 44) C dX11_years_4 (by decide) rfl (fun c1 => ?_) (fun c1 => ?_)
  · have hf := if_t c1 hf
    refine g_ldc2 (i := 3) (z := -4611686018427387904) C dX11_years_44 rfl (by decide) ?_
    obtain ⟨e1, e2⟩ := some_inv hf
    exact g_lret C hr hlk e1 e2 dX11_years_47
  · have hf := if_f c1 hf
    refine g_aload_n (i := 0) C dX11_years_7 rfl rfl ?_
    refine gg_X11_fair (i := 2) C hiX11_years_X11 rfl dX11_years_8 ?_
    refine g_iload_n (i := 1) C dX11_years_11 rfl rfl ?_
    obtain ⟨r3, σ2, h4, hf⟩ := ob_inv hf
    refine g_callVi C (c_X4_hasFit (by decide) h4) (cwV 1 C.2.2.2.2.1 gX11_years_X4_hasFit rfl rfl rfl (by decide +kernel) ⟨Nat.le_of_ble_eq_true rfl, Nat.le_of_ble_eq_true rfl⟩) (ob_X4 (by decide)) rfl rfl rfl rfl (Nat.le_of_ble_eq_true rfl) dX11_years_12 ⟨Nat.zero_le _, Nat.zero_le _⟩ ?_
    refine g_if_eq (tgt := 44) C dX11_years_15 (by decide) rfl (fun c5 => ?_) (fun c5 => ?_)
    · have hf := if_t c5 hf
      refine g_ldc2 (i := 3) (z := -4611686018427387904) C dX11_years_44 rfl (by decide) ?_
      obtain ⟨e1, e2⟩ := some_inv hf
      exact g_lret C hr hlk e1 e2 dX11_years_47
    · have hf := if_f c5 hf
      refine g_aload_n (i := 0) C dX11_years_18 rfl rfl ?_
      refine gg_X11_fair (i := 2) C hiX11_years_X11 rfl dX11_years_19 ?_
      refine g_iload_n (i := 2) C dX11_years_22 rfl rfl ?_
      obtain ⟨r7, σ6, h8, hf⟩ := ob_inv hf
      refine g_callVi C (c_X4_hasSort (by decide) h8) (cwV 1 C.2.2.2.2.1 gX11_years_X4_hasSort rfl rfl rfl (by decide +kernel) ⟨Nat.le_of_ble_eq_true rfl, Nat.le_of_ble_eq_true rfl⟩) (ob_X4 (by decide)) rfl rfl rfl rfl (Nat.le_of_ble_eq_true rfl) dX11_years_23 ⟨Nat.zero_le _, Nat.zero_le _⟩ ?_
      refine g_if_eq (tgt := 44) C dX11_years_26 (by decide) rfl (fun c9 => ?_) (fun c9 => ?_)
      · have hf := if_t c9 hf
        refine g_ldc2 (i := 3) (z := -4611686018427387904) C dX11_years_44 rfl (by decide) ?_
        obtain ⟨e1, e2⟩ := some_inv hf
        exact g_lret C hr hlk e1 e2 dX11_years_47
      · have hf := if_f c9 hf
        refine g_iload_n (i := 3) C dX11_years_29 rfl rfl ?_
        obtain ⟨r11, σ10, h12, hf⟩ := ob_inv hf
        refine g_callSi C (c_X11_isSpan  h12) (va_cwS 1 C.2.2.2.2.1 gX11_years_X11_isSpan rfl rfl rfl (by decide +kernel) ⟨Nat.le_of_ble_eq_true rfl, Nat.le_of_ble_eq_true rfl⟩) rfl rfl (Nat.le_of_ble_eq_true rfl) dX11_years_30 ⟨Nat.zero_le _, Nat.zero_le _⟩ ?_
        refine g_if_eq (tgt := 44) C dX11_years_33 (by decide) rfl (fun c13 => ?_) (fun c13 => ?_)
        · have hf := if_t c13 hf
          refine g_ldc2 (i := 3) (z := -4611686018427387904) C dX11_years_44 rfl (by decide) ?_
          obtain ⟨e1, e2⟩ := some_inv hf
          exact g_lret C hr hlk e1 e2 dX11_years_47
        · have hf := if_f c13 hf
          refine g_iload C dX11_years_36 rfl ?_
          obtain ⟨r15, σ14, h16, hf⟩ := ob_inv hf
          refine g_callSi C (c_X11_isBit  h16) (va_cwS 1 C.2.2.2.2.1 gX11_years_X11_isBit rfl rfl rfl (by decide +kernel) ⟨Nat.le_of_ble_eq_true rfl, Nat.le_of_ble_eq_true rfl⟩) rfl rfl (Nat.le_of_ble_eq_true rfl) dX11_years_38 ⟨Nat.zero_le _, Nat.zero_le _⟩ ?_
          refine g_if_ne (tgt := 48) C dX11_years_41 (by decide) rfl (fun c17 => ?_) (fun c17 => ?_)
          · have hf := if_f c17 hf
            refine g_aload_n (i := 0) C dX11_years_48 rfl rfl ?_
            refine gg_X11_scales (i := 4) C hiX11_years_X11 rfl dX11_years_49 ?_
            refine g_iload_n (i := 1) C dX11_years_52 rfl rfl ?_
            obtain ⟨r19, σ18, h20, hf⟩ := ob_inv hf
            refine g_callVv C (c_X7_weigh  h20) (cwV 1 C.2.2.2.2.1 gX11_years_X7_weigh rfl rfl rfl (by decide +kernel) ⟨Nat.le_of_ble_eq_true rfl, Nat.le_of_ble_eq_true rfl⟩) ob_X7 rfl rfl rfl rfl (Nat.le_of_ble_eq_true rfl) dX11_years_53 ⟨Nat.zero_le _, Nat.zero_le _⟩ ?_
            refine g_aload_n (i := 0) C dX11_years_56 rfl rfl ?_
            refine gg_X11_scales (i := 4) C hiX11_years_X11 rfl dX11_years_57 ?_
            refine g_iload_n (i := 3) C dX11_years_60 rfl rfl ?_
            obtain ⟨r22, σ21, h23, hf⟩ := ob_inv hf
            refine g_callVv C (c_X7_lookOver  h23) (cwV 1 C.2.2.2.2.1 gX11_years_X7_lookOver rfl rfl rfl (by decide +kernel) ⟨Nat.le_of_ble_eq_true rfl, Nat.le_of_ble_eq_true rfl⟩) ob_X7 rfl rfl rfl rfl (Nat.le_of_ble_eq_true rfl) dX11_years_61 ⟨Nat.zero_le _, Nat.zero_le _⟩ ?_
            refine g_aload_n (i := 0) C dX11_years_64 rfl rfl ?_
            refine gg_X11_scales (i := 4) C hiX11_years_X11 rfl dX11_years_65 ?_
            refine g_iload_n (i := 2) C dX11_years_68 rfl rfl ?_
            obtain ⟨r25, σ24, h26, hf⟩ := ob_inv hf
            refine g_callVl C (c_X7_ownTop  h26) (cwV 1 C.2.2.2.2.1 gX11_years_X7_ownTop rfl rfl rfl (by decide +kernel) ⟨Nat.le_of_ble_eq_true rfl, Nat.le_of_ble_eq_true rfl⟩) ob_X7 rfl rfl rfl rfl (Nat.le_of_ble_eq_true rfl) dX11_years_69 ⟨Nat.zero_le _, Nat.zero_le _⟩ ?_
            refine g_aload_n (i := 0) C dX11_years_72 rfl rfl ?_
            refine gg_X11_scales (i := 4) C hiX11_years_X11 rfl dX11_years_73 ?_
            refine g_iload_n (i := 2) C dX11_years_76 rfl rfl ?_
            obtain ⟨r28, σ27, h29, hf⟩ := ob_inv hf
            refine g_callVl C (c_X7_ownUnder  h29) (cwV 1 C.2.2.2.2.1 gX11_years_X7_ownUnder rfl rfl rfl (by decide +kernel) ⟨Nat.le_of_ble_eq_true rfl, Nat.le_of_ble_eq_true rfl⟩) ob_X7 rfl rfl rfl rfl (Nat.le_of_ble_eq_true rfl) dX11_years_77 ⟨Nat.zero_le _, Nat.zero_le _⟩ ?_
            refine g_iload C dX11_years_80 rfl ?_
            obtain ⟨r31, σ30, h32, hf⟩ := ob_inv hf
            refine g_callSl C (c_X11_inLeastTerms  h32) (va_cwS 3 C.2.2.2.2.1 gX11_years_X11_inLeastTerms rfl rfl rfl (by decide +kernel) ⟨Nat.le_of_ble_eq_true rfl, Nat.le_of_ble_eq_true rfl⟩) rfl rfl (Nat.le_of_ble_eq_true rfl) dX11_years_82 ⟨Nat.zero_le _, Nat.zero_le _⟩ ?_
            refine g_lstore C dX11_years_85 (by decide) rfl ?_
            refine g_aload_n (i := 0) C dX11_years_87 rfl rfl ?_
            refine gg_X11_scales (i := 4) C hiX11_years_X11 rfl dX11_years_88 ?_
            obtain ⟨r34, σ33, h35, hf⟩ := ob_inv hf
            refine g_callVv C (c_X7_lookAtOnce  h35) (cwV 0 C.2.2.2.2.1 gX11_years_X7_lookAtOnce rfl rfl rfl (by decide +kernel) ⟨Nat.le_of_ble_eq_true rfl, Nat.le_of_ble_eq_true rfl⟩) ob_X7 rfl rfl rfl rfl (Nat.le_of_ble_eq_true rfl) dX11_years_91 ⟨Nat.zero_le _, Nat.zero_le _⟩ ?_
            refine g_lload C dX11_years_94 rfl ?_
            obtain ⟨e1, e2⟩ := some_inv hf
            exact g_lret C hr hlk e1 e2 dX11_years_96
          · have hf := if_t c17 hf
            refine g_ldc2 (i := 3) (z := -4611686018427387904) C dX11_years_44 rfl (by decide) ?_
            obtain ⟨e1, e2⟩ := some_inv hf
            exact g_lret C hr hlk e1 e2 dX11_years_47
/-! X11_ratherOver -/
abbrev rm_X11_ratherOver : Room := { frames := 4, cells := 0, slots := 0, locals := 80 }
theorem hiX11_ratherOver_X11 : ∀ w ∈ u_ws RX11 TX11 8, w ∈ wsX11_ratherOver := fun _ h => (List.mem_cons_of_mem _ (List.mem_append_left _ (List.mem_append_left _ (List.mem_append_right _ h))))
set_option maxHeartbeats 4000000 in
set_option maxRecDepth 100000 in
theorem c_X11_ratherOver {v1 v2 : Int} {σ : Mem} (hf : f_X11_ratherOver v1 v2 σ = some (r0, σ0)) : CTi l D ca ad A yX11_ratherOver wsX11_ratherOver rm_X11_ratherOver [.ref (ad 0), .int (iI v1), .int (iI v2)] σ r0 σ0 := by
  refine ct_i (cc := cX11_ratherOver) (own := RX11) (maxL := 5) (ret := (some .int)) (lv0 := [some (.ref (ad 0)), some (.int (iI v1)), some (.int (iI v2)), none, none]) (by decide) rfl rfl rfl (Nat.le_of_ble_eq_true rfl) ?_
  intro p e s m below meth c C hr hlk hnm
  unfold f_X11_ratherOver at hf
  refine g_aload_n (i := 0) C dX11_ratherOver_0 rfl rfl ?_
  refine g_iload_n (i := 1) C dX11_ratherOver_1 rfl rfl ?_
  obtain ⟨r2, σ1, h3, hf⟩ := ob_inv hf
  refine g_callVi C (c_X11_fitFault  h3) (cwV 1 C.2.2.2.2.1 gX11_ratherOver_X11_fitFault rfl rfl rfl (by decide +kernel) ⟨Nat.le_of_ble_eq_true rfl, Nat.le_of_ble_eq_true rfl⟩) ob_X11 rfl rfl rfl rfl (Nat.le_of_ble_eq_true rfl) dX11_ratherOver_2 ⟨Nat.zero_le _, Nat.zero_le _⟩ ?_
  refine g_istore_n (i := 3) C dX11_ratherOver_5 rfl (by decide) rfl ?_
  refine g_iload_n (i := 3) C dX11_ratherOver_6 rfl rfl ?_
  refine g_if_eq (tgt := 12) C dX11_ratherOver_7 (by decide) rfl (fun c4 => ?_) (fun c4 => ?_)
  · have hf := if_t c4 hf
    refine g_iload_n (i := 2) C dX11_ratherOver_12 rfl rfl ?_
    obtain ⟨r6, σ5, h7, hf⟩ := ob_inv hf
    refine g_callSi C (c_X11_isSpan  h7) (va_cwS 1 C.2.2.2.2.1 gX11_ratherOver_X11_isSpan rfl rfl rfl (by decide +kernel) ⟨Nat.le_of_ble_eq_true rfl, Nat.le_of_ble_eq_true rfl⟩) rfl rfl (Nat.le_of_ble_eq_true rfl) dX11_ratherOver_13 ⟨Nat.zero_le _, Nat.zero_le _⟩ ?_
    refine g_if_ne (tgt := 21) C dX11_ratherOver_16 (by decide) rfl (fun c8 => ?_) (fun c8 => ?_)
    · have hf := if_f c8 hf
      refine g_aload_n (i := 0) C dX11_ratherOver_21 rfl rfl ?_
      refine gg_X11_scales (i := 1) C hiX11_ratherOver_X11 rfl dX11_ratherOver_22 ?_
      refine g_iload_n (i := 1) C dX11_ratherOver_25 rfl rfl ?_
      obtain ⟨r10, σ9, h11, hf⟩ := ob_inv hf
      refine g_callVv C (c_X7_weigh  h11) (cwV 1 C.2.2.2.2.1 gX11_ratherOver_X7_weigh rfl rfl rfl (by decide +kernel) ⟨Nat.le_of_ble_eq_true rfl, Nat.le_of_ble_eq_true rfl⟩) ob_X7 rfl rfl rfl rfl (Nat.le_of_ble_eq_true rfl) dX11_ratherOver_26 ⟨Nat.zero_le _, Nat.zero_le _⟩ ?_
      refine g_aload_n (i := 0) C dX11_ratherOver_29 rfl rfl ?_
      refine gg_X11_scales (i := 1) C hiX11_ratherOver_X11 rfl dX11_ratherOver_30 ?_
      refine g_iload_n (i := 2) C dX11_ratherOver_33 rfl rfl ?_
      obtain ⟨r13, σ12, h14, hf⟩ := ob_inv hf
      refine g_callVv C (c_X7_lookOver  h14) (cwV 1 C.2.2.2.2.1 gX11_ratherOver_X7_lookOver rfl rfl rfl (by decide +kernel) ⟨Nat.le_of_ble_eq_true rfl, Nat.le_of_ble_eq_true rfl⟩) ob_X7 rfl rfl rfl rfl (Nat.le_of_ble_eq_true rfl) dX11_ratherOver_34 ⟨Nat.zero_le _, Nat.zero_le _⟩ ?_
      refine g_aload_n (i := 0) C dX11_ratherOver_37 rfl rfl ?_
      refine gg_X11_scales (i := 1) C hiX11_ratherOver_X11 rfl dX11_ratherOver_38 ?_
      obtain ⟨r16, σ15, h17, hf⟩ := ob_inv hf
      refine g_callVi C (c_X7_firstRather  h17) (cwV 0 C.2.2.2.2.1 gX11_ratherOver_X7_firstRather rfl rfl rfl (by decide +kernel) ⟨Nat.le_of_ble_eq_true rfl, Nat.le_of_ble_eq_true rfl⟩) ob_X7 rfl rfl rfl rfl (Nat.le_of_ble_eq_true rfl) dX11_ratherOver_41 ⟨Nat.zero_le _, Nat.zero_le _⟩ ?_
      refine g_istore C dX11_ratherOver_44 (by decide) rfl ?_
      refine g_aload_n (i := 0) C dX11_ratherOver_46 rfl rfl ?_
      refine gg_X11_scales (i := 1) C hiX11_ratherOver_X11 rfl dX11_ratherOver_47 ?_
      obtain ⟨r19, σ18, h20, hf⟩ := ob_inv hf
      refine g_callVv C (c_X7_lookAtOnce  h20) (cwV 0 C.2.2.2.2.1 gX11_ratherOver_X7_lookAtOnce rfl rfl rfl (by decide +kernel) ⟨Nat.le_of_ble_eq_true rfl, Nat.le_of_ble_eq_true rfl⟩) ob_X7 rfl rfl rfl rfl (Nat.le_of_ble_eq_true rfl) dX11_ratherOver_50 ⟨Nat.zero_le _, Nat.zero_le _⟩ ?_
      refine g_iload C dX11_ratherOver_53 rfl ?_
      obtain ⟨e1, e2⟩ := some_inv hf
      exact g_iret C hr hlk e1 e2 dX11_ratherOver_55
    · have hf := if_t c8 hf
      refine g_iconst C dX11_ratherOver_19 ?_
      obtain ⟨e1, e2⟩ := some_inv hf
      exact g_iret C hr hlk e1 e2 dX11_ratherOver_20
  · have hf := if_f c4 hf
    refine g_iload_n (i := 3) C dX11_ratherOver_10 rfl rfl ?_
    obtain ⟨e1, e2⟩ := some_inv hf
    exact g_iret C hr hlk e1 e2 dX11_ratherOver_11
/-! X11_bestTax -/
abbrev rm_X11_bestTax : Room := { frames := 6, cells := 0, slots := 0, locals := 142 }
theorem hiX11_bestTax_X11 : ∀ w ∈ u_ws RX11 TX11 8, w ∈ wsX11_bestTax := fun _ h => (List.mem_cons_of_mem _ (List.mem_append_left _ (List.mem_append_left _ (List.mem_append_right _ h))))
theorem hiX11_bestTax_X7 : ∀ w ∈ u_ws RX7 TX7 14, w ∈ wsX11_bestTax := fun _ h => (List.mem_cons_of_mem _ (List.mem_append_left _ (List.mem_append_right _ h)))
set_option maxHeartbeats 4000000 in
set_option maxRecDepth 100000 in
theorem it_X11_bestTax_48 (C : Cx p s m args c cX11_bestTax 7 RX11 wsX11_bestTax D ca A) (hr : meth.sig.returnType = (some .int)) (hlk : meth.locks = false) {p2 : Int} {o : (Int × Int × Int × Mem) ⊕ (Int × Int × Mem)} (hc : ∀ (x3 x4 x5 : Int) (σ : Mem), o = .inl (x3, x4, x5, σ) → G p l e rm_X11_bestTax s m args below meth c 7 D ca ad A 0 0 (MQ below (Qi D ca ad A r0 σ0) args s 0 0 A) σ 48 [some (.ref (ad 0)), none, some (.int (iI p2)), some (.int (iI x3)), some (.int (iI x4)), some (.int (iI x5)), none] []) (he : ∀ (y3 y4 : Int) (σ : Mem), o = .inr (y3, y4, σ) → G p l e rm_X11_bestTax s m args below meth c 7 D ca ad A 0 0 (MQ below (Qi D ca ad A r0 σ0) args s 0 0 A) σ 104 [some (.ref (ad 0)), none, some (.int (iI p2)), some (.int (iI y3)), some (.int (iI y4)), none, none] []) {x3 x4 x5 : Int} {σ : Mem} (hf : f_X11_bestTax_48 p2 x3 x4 x5 σ = some o) : G p l e rm_X11_bestTax s m args below meth c 7 D ca ad A 0 0 (MQ below (Qi D ca ad A r0 σ0) args s 0 0 A) σ 48 [some (.ref (ad 0)), none, some (.int (iI p2)), some (.int (iI x3)), some (.int (iI x4)), some (.int (iI x5)), none] [] := by
  unfold f_X11_bestTax_48 at hf
  refine g_iload C dX11_bestTax_48 rfl ?_
  refine g_bipush C dX11_bestTax_50 (by decide) ?_
  refine g_icmp_gt (b' := 90) (tgt := 104) C dX11_bestTax_52 (by decide) rfl (by decide) (fun c11 => ?_) (fun c11 => ?_)
  · have hf := if_t c11 hf
    exact g_mask [true, false, true, true, true, false, false] (he _ _ _ (Option.some.inj hf).symm)
  · have hf := if_f c11 hf
    refine g_aload_n (i := 0) C dX11_bestTax_55 rfl rfl ?_
    refine gg_X11_scales (i := 3) C hiX11_bestTax_X11 rfl dX11_bestTax_56 ?_
    refine g_iload C dX11_bestTax_59 rfl ?_
    refine gp_X7_tax (i := 5) C hiX11_bestTax_X7 rfl dX11_bestTax_61 ?_
    refine g_aload_n (i := 0) C dX11_bestTax_64 rfl rfl ?_
    obtain ⟨r14, σ13, h15, hf⟩ := ob_inv hf
    refine g_callVi C (c_X11_leastWaste  h15) (cwV 0 C.2.2.2.2.1 gX11_bestTax_X11_leastWaste rfl rfl rfl (by decide +kernel) ⟨Nat.le_of_ble_eq_true rfl, Nat.le_of_ble_eq_true rfl⟩) ob_X11 rfl rfl rfl rfl (Nat.le_of_ble_eq_true rfl) dX11_bestTax_65 ⟨Nat.zero_le _, Nat.zero_le _⟩ ?_
    refine g_istore C dX11_bestTax_68 (by decide) rfl ?_
    refine g_iload C dX11_bestTax_70 rfl ?_
    refine g_bipush C dX11_bestTax_72 (by decide) ?_
    refine g_icmp_eq (b' := (-4)) (tgt := 98) C dX11_bestTax_74 (by decide) rfl (by decide) (fun c16 => ?_) (fun c16 => ?_)
    · have hf := if_t c16 hf
      refine g_iinc C dX11_bestTax_98 rfl (by decide) rfl ?_
      refine g_goto (tgt := 48) C dX11_bestTax_101 (by decide) ?_
      exact g_mask [true, false, true, true, true, true, false] (hc _ _ _ _ (Option.some.inj hf).symm)
    · have hf := if_f c16 hf
      refine g_iload C dX11_bestTax_77 rfl ?_
      refine g_bipush C dX11_bestTax_79 (by decide) ?_
      refine g_icmp_eq (b' := (-4)) (tgt := 91) C dX11_bestTax_81 (by decide) rfl (by decide) (fun c17 => ?_) (fun c17 => ?_)
      · have hf := if_t c17 hf
        refine g_iload C dX11_bestTax_91 rfl ?_
        refine g_istore_n (i := 3) C dX11_bestTax_93 rfl (by decide) rfl ?_
        refine g_iload C dX11_bestTax_94 rfl ?_
        refine g_istore C dX11_bestTax_96 (by decide) rfl ?_
        refine g_iinc C dX11_bestTax_98 rfl (by decide) rfl ?_
        refine g_goto (tgt := 48) C dX11_bestTax_101 (by decide) ?_
        exact g_mask [true, false, true, true, true, true, false] (hc _ _ _ _ (Option.some.inj hf).symm)
      · have hf := if_f c17 hf
        refine g_iload C dX11_bestTax_84 rfl ?_
        refine g_iload C dX11_bestTax_86 rfl ?_
        refine g_icmp_ge (tgt := 98) C dX11_bestTax_88 (by decide) rfl rfl (fun c18 => ?_) (fun c18 => ?_)
        · have hf := if_t c18 hf
          refine g_iinc C dX11_bestTax_98 rfl (by decide) rfl ?_
          refine g_goto (tgt := 48) C dX11_bestTax_101 (by decide) ?_
          exact g_mask [true, false, true, true, true, true, false] (hc _ _ _ _ (Option.some.inj hf).symm)
        · have hf := if_f c18 hf
          refine g_iload C dX11_bestTax_91 rfl ?_
          refine g_istore_n (i := 3) C dX11_bestTax_93 rfl (by decide) rfl ?_
          refine g_iload C dX11_bestTax_94 rfl ?_
          refine g_istore C dX11_bestTax_96 (by decide) rfl ?_
          refine g_iinc C dX11_bestTax_98 rfl (by decide) rfl ?_
          refine g_goto (tgt := 48) C dX11_bestTax_101 (by decide) ?_
          exact g_mask [true, false, true, true, true, true, false] (hc _ _ _ _ (Option.some.inj hf).symm)
set_option maxHeartbeats 4000000 in
set_option maxRecDepth 100000 in
theorem w_X11_bestTax_48 (C : Cx p s m args c cX11_bestTax 7 RX11 wsX11_bestTax D ca A) (hr : meth.sig.returnType = (some .int)) (hlk : meth.locks = false) {p2 : Int} {n : Nat} {x3 x4 x5 : Int} {σ : Mem} {b : (Int × Int × Mem)} (h : itr (fun z : Int × Int × Int × Mem => f_X11_bestTax_48 p2 z.1 z.2.1 z.2.2.1 z.2.2.2) n (x3, x4, x5, σ) = some b) (he : ∀ (y3 y4 : Int) (σ : Mem), b = (y3, y4, σ) → G p l e rm_X11_bestTax s m args below meth c 7 D ca ad A 0 0 (MQ below (Qi D ca ad A r0 σ0) args s 0 0 A) σ 104 [some (.ref (ad 0)), none, some (.int (iI p2)), some (.int (iI y3)), some (.int (iI y4)), none, none] []) : G p l e rm_X11_bestTax s m args below meth c 7 D ca ad A 0 0 (MQ below (Qi D ca ad A r0 σ0) args s 0 0 A) σ 48 [some (.ref (ad 0)), none, some (.int (iI p2)), some (.int (iI x3)), some (.int (iI x4)), some (.int (iI x5)), none] [] :=
  itr_rule (P := fun z : Int × Int × Int × Mem => G p l e rm_X11_bestTax s m args below meth c 7 D ca ad A 0 0 (MQ below (Qi D ca ad A r0 σ0) args s 0 0 A) z.2.2.2 48 [some (.ref (ad 0)), none, some (.int (iI p2)), some (.int (iI z.1)), some (.int (iI z.2.1)), some (.int (iI z.2.2.1)), none] []) (E := fun b => ∀ (y3 y4 : Int) (σ : Mem), b = (y3, y4, σ) → G p l e rm_X11_bestTax s m args below meth c 7 D ca ad A 0 0 (MQ below (Qi D ca ad A r0 σ0) args s 0 0 A) σ 104 [some (.ref (ad 0)), none, some (.int (iI p2)), some (.int (iI y3)), some (.int (iI y4)), none, none] []) (fun z o hb hc he => it_X11_bestTax_48 C hr hlk (fun _ _ _ _ e => hc _ e) (fun _ _ _ e => (he _ e) _ _ _ rfl) hb) n _ _ h he
set_option maxHeartbeats 4000000 in
set_option maxRecDepth 100000 in
theorem c_X11_bestTax {v1 v2 : Int} {σ : Mem} (hf : f_X11_bestTax v1 v2 σ = some (r0, σ0)) : CTi l D ca ad A yX11_bestTax wsX11_bestTax rm_X11_bestTax [.ref (ad 0), .int (iI v1), .int (iI v2)] σ r0 σ0 := by
  refine ct_i (cc := cX11_bestTax) (own := RX11) (maxL := 7) (ret := (some .int)) (lv0 := [some (.ref (ad 0)), some (.int (iI v1)), some (.int (iI v2)), none, none, none, none]) (by decide) rfl rfl rfl (Nat.le_of_ble_eq_true rfl) ?_
  intro p e s m below meth c C hr hlk hnm
  unfold f_X11_bestTax at hf
  refine g_aload_n (i := 0) C dX11_bestTax_0 rfl rfl ?_
  refine gg_X11_hasMarket (i := 1) C hiX11_bestTax_X11 rfl dX11_bestTax_1 ?_
  refine g_if_ne (tgt := 10) C dX11_bestTax_4 (by decide) rfl (fun c1 => ?_) (fun c1 => ?_)
  · have hf := if_f c1 hf
    refine g_aload_n (i := 0) C dX11_bestTax_10 rfl rfl ?_
    refine gg_X11_fair (i := 2) C hiX11_bestTax_X11 rfl dX11_bestTax_11 ?_
    refine g_iload_n (i := 1) C dX11_bestTax_14 rfl rfl ?_
    obtain ⟨r3, σ2, h4, hf⟩ := ob_inv hf
    refine g_callVi C (c_X4_hasMark (by decide) h4) (cwV 1 C.2.2.2.2.1 gX11_bestTax_X4_hasMark rfl rfl rfl (by decide +kernel) ⟨Nat.le_of_ble_eq_true rfl, Nat.le_of_ble_eq_true rfl⟩) (ob_X4 (by decide)) rfl rfl rfl rfl (Nat.le_of_ble_eq_true rfl) dX11_bestTax_15 ⟨Nat.zero_le _, Nat.zero_le _⟩ ?_
    refine g_if_eq (tgt := 28) C dX11_bestTax_18 (by decide) rfl (fun c5 => ?_) (fun c5 => ?_)
    · have hf := if_t c5 hf
      refine g_iconst C dX11_bestTax_28 ?_
      obtain ⟨e1, e2⟩ := some_inv hf
      exact g_iret C hr hlk e1 e2 dX11_bestTax_29
    · have hf := if_f c5 hf
      refine g_iload_n (i := 2) C dX11_bestTax_21 rfl rfl ?_
      obtain ⟨r7, σ6, h8, hf⟩ := ob_inv hf
      refine g_callSi C (c_X11_isBit  h8) (va_cwS 1 C.2.2.2.2.1 gX11_bestTax_X11_isBit rfl rfl rfl (by decide +kernel) ⟨Nat.le_of_ble_eq_true rfl, Nat.le_of_ble_eq_true rfl⟩) rfl rfl (Nat.le_of_ble_eq_true rfl) dX11_bestTax_22 ⟨Nat.zero_le _, Nat.zero_le _⟩ ?_
      refine g_if_ne (tgt := 30) C dX11_bestTax_25 (by decide) rfl (fun c9 => ?_) (fun c9 => ?_)
      · have hf := if_f c9 hf
        refine g_bipush C dX11_bestTax_30 (by decide) ?_
        refine g_istore_n (i := 3) C dX11_bestTax_32 rfl (by decide) rfl ?_
        refine g_bipush C dX11_bestTax_33 (by decide) ?_
        refine g_istore C dX11_bestTax_35 (by decide) rfl ?_
        refine g_aload_n (i := 0) C dX11_bestTax_37 rfl rfl ?_
        refine gg_X11_scales (i := 3) C hiX11_bestTax_X11 rfl dX11_bestTax_38 ?_
        refine g_iload_n (i := 1) C dX11_bestTax_41 rfl rfl ?_
        refine gp_X7_taxed (i := 4) C hiX11_bestTax_X7 rfl dX11_bestTax_42 ?_
        refine g_iconst C dX11_bestTax_45 ?_
        refine g_istore C dX11_bestTax_46 (by decide) rfl ?_
        obtain ⟨q19, hl20, hf⟩ := lb_inv hf
        refine g_mask [true, false, true, true, true, true, false] (w_X11_bestTax_48 C hr hlk hl20 ?_)
        · rintro y21 y22 σ23 rfl
          refine g_aload_n (i := 0) C dX11_bestTax_104 rfl rfl ?_
          refine gg_X11_scales (i := 3) C hiX11_bestTax_X11 rfl dX11_bestTax_105 ?_
          refine g_iconst C dX11_bestTax_108 ?_
          refine gp_X7_tax (i := 5) C hiX11_bestTax_X7 rfl dX11_bestTax_109 ?_
          refine g_iload_n (i := 2) C dX11_bestTax_112 rfl rfl ?_
          refine g_if_ne (tgt := 120) C dX11_bestTax_113 (by decide) rfl (fun c25 => ?_) (fun c25 => ?_)
          · have hf := if_f c25 hf
            refine g_iload C dX11_bestTax_120 rfl ?_
            obtain ⟨e1, e2⟩ := some_inv hf
            exact g_iret C hr hlk e1 e2 dX11_bestTax_122
          · have hf := if_t c25 hf
            refine g_iload_n (i := 3) C dX11_bestTax_116 rfl rfl ?_
            refine g_goto (tgt := 122) C dX11_bestTax_117 (by decide) ?_
            obtain ⟨e1, e2⟩ := some_inv hf
            exact g_iret C hr hlk e1 e2 dX11_bestTax_122
      · have hf := if_t c9 hf
        refine g_iconst C dX11_bestTax_28 ?_
        obtain ⟨e1, e2⟩ := some_inv hf
        exact g_iret C hr hlk e1 e2 dX11_bestTax_29
  · have hf := if_t c1 hf
    refine g_bipush C dX11_bestTax_7 (by decide) ?_
    obtain ⟨e1, e2⟩ := some_inv hf
    exact g_iret C hr hlk e1 e2 dX11_bestTax_9
/-! X11_moved -/
abbrev rm_X11_moved : Room := { frames := 5, cells := 0, slots := 0, locals := 118 }
theorem hiX11_moved_X11 : ∀ w ∈ u_ws RX11 TX11 8, w ∈ wsX11_moved := fun _ h => (List.mem_cons_of_mem _ (List.mem_append_left _ (List.mem_append_left _ (List.mem_append_right _ h))))
theorem hiX11_moved_X4 : ∀ w ∈ u_ws RX4 TX4 9, w ∈ wsX11_moved := fun _ h => (List.mem_cons_of_mem _ (List.mem_append_left _ (List.mem_append_right _ h)))
set_option maxHeartbeats 4000000 in
set_option maxRecDepth 100000 in
theorem it_X11_moved_77 (C : Cx p s m args c cX11_moved 8 RX11 wsX11_moved D ca A) (hr : meth.sig.returnType = (some .int)) (hlk : meth.locks = false) {p1 p2 p3 p4 p5 : Int} {o : (Int × Int × Mem) ⊕ (Int × Int × Mem)} (hc : ∀ (x6 x7 : Int) (σ : Mem), o = .inl (x6, x7, σ) → G p l e rm_X11_moved s m args below meth c 8 D ca ad A 0 0 (MQ below (Qi D ca ad A r0 σ0) args s 0 0 A) σ 77 [some (.ref (ad 0)), some (.int (iI p1)), some (.int (iI p2)), some (.int (iI p3)), some (.int (iI p4)), some (.int (iI p5)), some (.int (iI x6)), some (.int (iI x7))] []) (he : ∀ (y6 y7 : Int) (σ : Mem), o = .inr (y6, y7, σ) → G p l e rm_X11_moved s m args below meth c 8 D ca ad A 0 0 (MQ below (Qi D ca ad A r0 σ0) args s 0 0 A) σ 121 [some (.ref (ad 0)), none, some (.int (iI p2)), some (.int (iI p3)), none, none, some (.int (iI y6)), some (.int (iI y7))] []) {x6 x7 : Int} {σ : Mem} (hf : f_X11_moved_77 p1 p2 p3 p4 p5 x6 x7 σ = some o) : G p l e rm_X11_moved s m args below meth c 8 D ca ad A 0 0 (MQ below (Qi D ca ad A r0 σ0) args s 0 0 A) σ 77 [some (.ref (ad 0)), some (.int (iI p1)), some (.int (iI p2)), some (.int (iI p3)), some (.int (iI p4)), some (.int (iI p5)), some (.int (iI x6)), some (.int (iI x7))] [] := by
  unfold f_X11_moved_77 at hf
  refine g_iload C dX11_moved_77 rfl ?_
  refine g_iload C dX11_moved_79 rfl ?_
  refine g_icmp_ge (tgt := 121) C dX11_moved_81 (by decide) rfl rfl (fun c20 => ?_) (fun c20 => ?_)
  · have hf := if_t c20 hf
    exact g_mask [true, false, true, true, false, false, true, true] (he _ _ _ (Option.some.inj hf).symm)
  · have hf := if_f c20 hf
    refine g_iload C dX11_moved_84 rfl ?_
    refine g_bipush C dX11_moved_86 (by decide) ?_
    refine g_icmp_ne (b' := (-4)) (tgt := 121) C dX11_moved_88 (by decide) rfl (by decide) (fun c21 => ?_) (fun c21 => ?_)
    · have hf := if_f c21 hf
      exact g_mask [true, false, true, true, false, false, true, true] (he _ _ _ (Option.some.inj hf).symm)
    · have hf := if_t c21 hf
      refine g_iinc C dX11_moved_91 rfl (by decide) rfl ?_
      refine g_aload_n (i := 0) C dX11_moved_94 rfl rfl ?_
      refine gg_X11_fair (i := 2) C hiX11_moved_X11 rfl dX11_moved_95 ?_
      refine g_iload_n (i := 2) C dX11_moved_98 rfl rfl ?_
      refine g_iload_n (i := 3) C dX11_moved_99 rfl rfl ?_
      refine g_iconst C dX11_moved_100 ?_
      obtain ⟨r23, σ22, h24, hf⟩ := ob_inv hf
      refine g_callVv C (c_X4_moveChance (by decide) h24) (cwV 3 C.2.2.2.2.1 gX11_moved_X4_moveChance rfl rfl rfl (by decide +kernel) ⟨Nat.le_of_ble_eq_true rfl, Nat.le_of_ble_eq_true rfl⟩) (ob_X4 (by decide)) rfl rfl rfl rfl (Nat.le_of_ble_eq_true rfl) dX11_moved_101 ⟨Nat.zero_le _, Nat.zero_le _⟩ ?_
      refine g_aload_n (i := 0) C dX11_moved_104 rfl rfl ?_
      refine g_iload_n (i := 1) C dX11_moved_105 rfl rfl ?_
      obtain ⟨r26, σ25, h27, hf⟩ := ob_inv hf
      refine g_callVi C (c_X11_isSureFit  h27) (cwV 1 C.2.2.2.2.1 gX11_moved_X11_isSureFit rfl rfl rfl (by decide +kernel) ⟨Nat.le_of_ble_eq_true rfl, Nat.le_of_ble_eq_true rfl⟩) ob_X11 rfl rfl rfl rfl (Nat.le_of_ble_eq_true rfl) dX11_moved_106 ⟨Nat.zero_le _, Nat.zero_le _⟩ ?_
      refine g_iload C dX11_moved_109 rfl ?_
      refine g_icmp_eq (tgt := 77) C dX11_moved_111 (by decide) rfl rfl (fun c28 => ?_) (fun c28 => ?_)
      · have hf := if_t c28 hf
        exact g_mask [true, true, true, true, true, true, true, true] (hc _ _ _ (Option.some.inj hf).symm)
      · have hf := if_f c28 hf
        refine g_iload C dX11_moved_114 rfl ?_
        refine g_istore C dX11_moved_116 (by decide) rfl ?_
        refine g_goto (tgt := 77) C dX11_moved_118 (by decide) ?_
        exact g_mask [true, true, true, true, true, true, true, true] (hc _ _ _ (Option.some.inj hf).symm)
set_option maxHeartbeats 4000000 in
set_option maxRecDepth 100000 in
theorem w_X11_moved_77 (C : Cx p s m args c cX11_moved 8 RX11 wsX11_moved D ca A) (hr : meth.sig.returnType = (some .int)) (hlk : meth.locks = false) {p1 p2 p3 p4 p5 : Int} {n : Nat} {x6 x7 : Int} {σ : Mem} {b : (Int × Int × Mem)} (h : itr (fun z : Int × Int × Mem => f_X11_moved_77 p1 p2 p3 p4 p5 z.1 z.2.1 z.2.2) n (x6, x7, σ) = some b) (he : ∀ (y6 y7 : Int) (σ : Mem), b = (y6, y7, σ) → G p l e rm_X11_moved s m args below meth c 8 D ca ad A 0 0 (MQ below (Qi D ca ad A r0 σ0) args s 0 0 A) σ 121 [some (.ref (ad 0)), none, some (.int (iI p2)), some (.int (iI p3)), none, none, some (.int (iI y6)), some (.int (iI y7))] []) : G p l e rm_X11_moved s m args below meth c 8 D ca ad A 0 0 (MQ below (Qi D ca ad A r0 σ0) args s 0 0 A) σ 77 [some (.ref (ad 0)), some (.int (iI p1)), some (.int (iI p2)), some (.int (iI p3)), some (.int (iI p4)), some (.int (iI p5)), some (.int (iI x6)), some (.int (iI x7))] [] :=
  itr_rule (P := fun z : Int × Int × Mem => G p l e rm_X11_moved s m args below meth c 8 D ca ad A 0 0 (MQ below (Qi D ca ad A r0 σ0) args s 0 0 A) z.2.2 77 [some (.ref (ad 0)), some (.int (iI p1)), some (.int (iI p2)), some (.int (iI p3)), some (.int (iI p4)), some (.int (iI p5)), some (.int (iI z.1)), some (.int (iI z.2.1))] []) (E := fun b => ∀ (y6 y7 : Int) (σ : Mem), b = (y6, y7, σ) → G p l e rm_X11_moved s m args below meth c 8 D ca ad A 0 0 (MQ below (Qi D ca ad A r0 σ0) args s 0 0 A) σ 121 [some (.ref (ad 0)), none, some (.int (iI p2)), some (.int (iI p3)), none, none, some (.int (iI y6)), some (.int (iI y7))] []) (fun z o hb hc he => it_X11_moved_77 C hr hlk (fun _ _ _ e => hc _ e) (fun _ _ _ e => (he _ e) _ _ _ rfl) hb) n _ _ h he
set_option maxHeartbeats 4000000 in
set_option maxRecDepth 100000 in
theorem c_X11_moved {v1 v2 v3 : Int} {σ : Mem} (hf : f_X11_moved v1 v2 v3 σ = some (r0, σ0)) : CTi l D ca ad A yX11_moved wsX11_moved rm_X11_moved [.ref (ad 0), .int (iI v1), .int (iI v2), .int (iI v3)] σ r0 σ0 := by
  refine ct_i (cc := cX11_moved) (own := RX11) (maxL := 8) (ret := (some .int)) (lv0 := [some (.ref (ad 0)), some (.int (iI v1)), some (.int (iI v2)), some (.int (iI v3)), none, none, none, none]) (by decide) rfl rfl rfl (Nat.le_of_ble_eq_true rfl) ?_
  intro p e s m below meth c C hr hlk hnm
  unfold f_X11_moved at hf
  refine g_aload_n (i := 0) C dX11_moved_0 rfl rfl ?_
  refine gg_X11_hasMarket (i := 1) C hiX11_moved_X11 rfl dX11_moved_1 ?_
  refine g_if_ne (tgt := 10) C dX11_moved_4 (by decide) rfl (fun c1 => ?_) (fun c1 => ?_)
  · have hf := if_f c1 hf
    refine g_aload_n (i := 0) C dX11_moved_10 rfl rfl ?_
    refine gg_X11_fair (i := 2) C hiX11_moved_X11 rfl dX11_moved_11 ?_
    refine g_iload_n (i := 1) C dX11_moved_14 rfl rfl ?_
    obtain ⟨r3, σ2, h4, hf⟩ := ob_inv hf
    refine g_callVi C (c_X4_hasFit (by decide) h4) (cwV 1 C.2.2.2.2.1 gX11_moved_X4_hasFit rfl rfl rfl (by decide +kernel) ⟨Nat.le_of_ble_eq_true rfl, Nat.le_of_ble_eq_true rfl⟩) (ob_X4 (by decide)) rfl rfl rfl rfl (Nat.le_of_ble_eq_true rfl) dX11_moved_15 ⟨Nat.zero_le _, Nat.zero_le _⟩ ?_
    refine g_if_eq (tgt := 48) C dX11_moved_18 (by decide) rfl (fun c5 => ?_) (fun c5 => ?_)
    · have hf := if_t c5 hf
      refine g_iconst C dX11_moved_48 ?_
      obtain ⟨e1, e2⟩ := some_inv hf
      exact g_iret C hr hlk e1 e2 dX11_moved_49
    · have hf := if_f c5 hf
      refine g_aload_n (i := 0) C dX11_moved_21 rfl rfl ?_
      refine gg_X11_fair (i := 2) C hiX11_moved_X11 rfl dX11_moved_22 ?_
      refine g_iload_n (i := 2) C dX11_moved_25 rfl rfl ?_
      obtain ⟨r7, σ6, h8, hf⟩ := ob_inv hf
      refine g_callVi C (c_X4_hasSort (by decide) h8) (cwV 1 C.2.2.2.2.1 gX11_moved_X4_hasSort rfl rfl rfl (by decide +kernel) ⟨Nat.le_of_ble_eq_true rfl, Nat.le_of_ble_eq_true rfl⟩) (ob_X4 (by decide)) rfl rfl rfl rfl (Nat.le_of_ble_eq_true rfl) dX11_moved_26 ⟨Nat.zero_le _, Nat.zero_le _⟩ ?_
      refine g_if_eq (tgt := 48) C dX11_moved_29 (by decide) rfl (fun c9 => ?_) (fun c9 => ?_)
      · have hf := if_t c9 hf
        refine g_iconst C dX11_moved_48 ?_
        obtain ⟨e1, e2⟩ := some_inv hf
        exact g_iret C hr hlk e1 e2 dX11_moved_49
      · have hf := if_f c9 hf
        refine g_aload_n (i := 0) C dX11_moved_32 rfl rfl ?_
        refine gg_X11_fair (i := 2) C hiX11_moved_X11 rfl dX11_moved_33 ?_
        refine g_iload_n (i := 3) C dX11_moved_36 rfl rfl ?_
        obtain ⟨r11, σ10, h12, hf⟩ := ob_inv hf
        refine g_callVi C (c_X4_hasSort (by decide) h12) (cwV 1 C.2.2.2.2.1 gX11_moved_X4_hasSort rfl rfl rfl (by decide +kernel) ⟨Nat.le_of_ble_eq_true rfl, Nat.le_of_ble_eq_true rfl⟩) (ob_X4 (by decide)) rfl rfl rfl rfl (Nat.le_of_ble_eq_true rfl) dX11_moved_37 ⟨Nat.zero_le _, Nat.zero_le _⟩ ?_
        refine g_if_eq (tgt := 48) C dX11_moved_40 (by decide) rfl (fun c13 => ?_) (fun c13 => ?_)
        · have hf := if_t c13 hf
          refine g_iconst C dX11_moved_48 ?_
          obtain ⟨e1, e2⟩ := some_inv hf
          exact g_iret C hr hlk e1 e2 dX11_moved_49
        · have hf := if_f c13 hf
          refine g_iload_n (i := 2) C dX11_moved_43 rfl rfl ?_
          refine g_iload_n (i := 3) C dX11_moved_44 rfl rfl ?_
          refine g_icmp_ne (tgt := 50) C dX11_moved_45 (by decide) rfl rfl (fun c14 => ?_) (fun c14 => ?_)
          · have hf := if_f c14 hf
            refine g_aload_n (i := 0) C dX11_moved_50 rfl rfl ?_
            refine g_iload_n (i := 1) C dX11_moved_51 rfl rfl ?_
            obtain ⟨r16, σ15, h17, hf⟩ := ob_inv hf
            refine g_callVi C (c_X11_isSureFit  h17) (cwV 1 C.2.2.2.2.1 gX11_moved_X11_isSureFit rfl rfl rfl (by decide +kernel) ⟨Nat.le_of_ble_eq_true rfl, Nat.le_of_ble_eq_true rfl⟩) ob_X11 rfl rfl rfl rfl (Nat.le_of_ble_eq_true rfl) dX11_moved_52 ⟨Nat.zero_le _, Nat.zero_le _⟩ ?_
            refine g_istore C dX11_moved_55 (by decide) rfl ?_
            refine g_aload_n (i := 0) C dX11_moved_57 rfl rfl ?_
            refine gg_X11_fair (i := 2) C hiX11_moved_X11 rfl dX11_moved_58 ?_
            refine gg_X4_chance (i := 3) (b := 11)  C (by decide) (by decide) hiX11_moved_X4 rfl dX11_moved_61 ?_
            refine g_iload_n (i := 2) C dX11_moved_64 rfl rfl ?_
            obtain ⟨hb18, hf⟩ := if_inv hf
            refine g_iaload (N := 4) C (by decide) dX11_moved_65 rfl hb18 ?_
            refine g_iconst C dX11_moved_66 ?_
            refine g_isub C dX11_moved_67 ?_
            refine g_istore C dX11_moved_68 (by decide) rfl ?_
            refine g_iconst C dX11_moved_70 ?_
            refine g_istore C dX11_moved_71 (by decide) rfl ?_
            refine g_bipush C dX11_moved_73 (by decide) ?_
            refine g_istore C dX11_moved_75 (by decide) rfl ?_
            obtain ⟨q29, hl30, hf⟩ := lb_inv hf
            refine g_mask [true, true, true, true, true, true, true, true] (w_X11_moved_77 C hr hlk hl30 ?_)
            · rintro y31 y32 σ33 rfl
              refine g_aload_n (i := 0) C dX11_moved_121 rfl rfl ?_
              refine gg_X11_fair (i := 2) C hiX11_moved_X11 rfl dX11_moved_122 ?_
              refine g_iload_n (i := 3) C dX11_moved_125 rfl rfl ?_
              refine g_iload_n (i := 2) C dX11_moved_126 rfl rfl ?_
              refine g_iload C dX11_moved_127 rfl ?_
              obtain ⟨r35, σ34, h36, hf⟩ := ob_inv hf
              refine g_callVv C (c_X4_moveChance (by decide) h36) (cwV 3 C.2.2.2.2.1 gX11_moved_X4_moveChance rfl rfl rfl (by decide +kernel) ⟨Nat.le_of_ble_eq_true rfl, Nat.le_of_ble_eq_true rfl⟩) (ob_X4 (by decide)) rfl rfl rfl rfl (Nat.le_of_ble_eq_true rfl) dX11_moved_129 ⟨Nat.zero_le _, Nat.zero_le _⟩ ?_
              refine g_iload C dX11_moved_132 rfl ?_
              obtain ⟨e1, e2⟩ := some_inv hf
              exact g_iret C hr hlk e1 e2 dX11_moved_134
          · have hf := if_t c14 hf
            refine g_iconst C dX11_moved_48 ?_
            obtain ⟨e1, e2⟩ := some_inv hf
            exact g_iret C hr hlk e1 e2 dX11_moved_49
  · have hf := if_t c1 hf
    refine g_bipush C dX11_moved_7 (by decide) ?_
    obtain ⟨e1, e2⟩ := some_inv hf
    exact g_iret C hr hlk e1 e2 dX11_moved_9
/-! X11_losers -/
abbrev rm_X11_losers : Room := { frames := 4, cells := 0, slots := 0, locals := 80 }
theorem hiX11_losers_X11 : ∀ w ∈ u_ws RX11 TX11 8, w ∈ wsX11_losers := fun _ h => (List.mem_cons_of_mem _ (List.mem_append_left _ (List.mem_append_left _ (List.mem_append_right _ h))))
theorem hiX11_losers_X4 : ∀ w ∈ u_ws RX4 TX4 9, w ∈ wsX11_losers := fun _ h => (List.mem_cons_of_mem _ (List.mem_append_left _ (List.mem_append_right _ h)))
set_option maxHeartbeats 4000000 in
set_option maxRecDepth 100000 in
theorem it_X11_losers_35 (C : Cx p s m args c cX11_losers 6 RX11 wsX11_losers D ca A) (hr : meth.sig.returnType = (some .int)) (hlk : meth.locks = false) {p2 : Int} {o : (Int × Int × Mem) ⊕ (Int × Mem)} (hc : ∀ (x4 x5 : Int) (σ : Mem), o = .inl (x4, x5, σ) → G p l e rm_X11_losers s m args below meth c 6 D ca ad A 0 0 (MQ below (Qi D ca ad A r0 σ0) args s 0 0 A) σ 35 [some (.ref (ad 0)), none, some (.int (iI p2)), none, some (.int (iI x4)), some (.int (iI x5))] []) (he : ∀ (y4 : Int) (σ : Mem), o = .inr (y4, σ) → G p l e rm_X11_losers s m args below meth c 6 D ca ad A 0 0 (MQ below (Qi D ca ad A r0 σ0) args s 0 0 A) σ 77 [none, none, none, none, some (.int (iI y4)), none] []) {x4 x5 : Int} {σ : Mem} (hf : f_X11_losers_35 p2 x4 x5 σ = some o) : G p l e rm_X11_losers s m args below meth c 6 D ca ad A 0 0 (MQ below (Qi D ca ad A r0 σ0) args s 0 0 A) σ 35 [some (.ref (ad 0)), none, some (.int (iI p2)), none, some (.int (iI x4)), some (.int (iI x5))] [] := by
  unfold f_X11_losers_35 at hf
  refine g_iload C dX11_losers_35 rfl ?_
  refine g_aload_n (i := 0) C dX11_losers_37 rfl rfl ?_
  refine gg_X11_fair (i := 2) C hiX11_losers_X11 rfl dX11_losers_38 ?_
  refine gg_X4_sorts (i := 3) C (by decide) hiX11_losers_X4 rfl dX11_losers_41 ?_
  refine g_icmp_ge (tgt := 77) C dX11_losers_44 (by decide) rfl rfl (fun c12 => ?_) (fun c12 => ?_)
  · have hf := if_t c12 hf
    exact g_mask [false, false, false, false, true, false] (he _ _ (Option.some.inj hf).symm)
  · have hf := if_f c12 hf
    refine g_aload_n (i := 0) C dX11_losers_47 rfl rfl ?_
    refine gg_X11_scales (i := 1) C hiX11_losers_X11 rfl dX11_losers_48 ?_
    refine g_iload C dX11_losers_51 rfl ?_
    refine g_iload_n (i := 2) C dX11_losers_53 rfl rfl ?_
    obtain ⟨r14, σ13, h15, hf⟩ := ob_inv hf
    refine g_callVl C (c_X7_gainTop  h15) (cwV 2 C.2.2.2.2.1 gX11_losers_X7_gainTop rfl rfl rfl (by decide +kernel) ⟨Nat.le_of_ble_eq_true rfl, Nat.le_of_ble_eq_true rfl⟩) ob_X7 rfl rfl rfl rfl (Nat.le_of_ble_eq_true rfl) dX11_losers_54 ⟨Nat.zero_le _, Nat.zero_le _⟩ ?_
    refine g_lconst (z := 0) C dX11_losers_57 (by decide) ?_
    refine g_lcmp_ge (b' := 0) (tgt := 71) C dX11_losers_58 dX11_losers_59 (by decide) rfl (by decide) (fun c16 => ?_) (fun c16 => ?_)
    · have hf := if_t c16 hf
      refine g_iinc C dX11_losers_71 rfl (by decide) rfl ?_
      refine g_goto (tgt := 35) C dX11_losers_74 (by decide) ?_
      exact g_mask [true, false, true, false, true, true] (hc _ _ _ (Option.some.inj hf).symm)
    · have hf := if_f c16 hf
      refine g_iload C dX11_losers_62 rfl ?_
      refine g_iconst C dX11_losers_64 ?_
      refine g_iload C dX11_losers_65 rfl ?_
      refine g_ishl C dX11_losers_67 ?_
      refine g_ior C dX11_losers_68 ?_
      refine g_istore C dX11_losers_69 (by decide) rfl ?_
      refine g_iinc C dX11_losers_71 rfl (by decide) rfl ?_
      refine g_goto (tgt := 35) C dX11_losers_74 (by decide) ?_
      exact g_mask [true, false, true, false, true, true] (hc _ _ _ (Option.some.inj hf).symm)
set_option maxHeartbeats 4000000 in
set_option maxRecDepth 100000 in
theorem w_X11_losers_35 (C : Cx p s m args c cX11_losers 6 RX11 wsX11_losers D ca A) (hr : meth.sig.returnType = (some .int)) (hlk : meth.locks = false) {p2 : Int} {n : Nat} {x4 x5 : Int} {σ : Mem} {b : (Int × Mem)} (h : itr (fun z : Int × Int × Mem => f_X11_losers_35 p2 z.1 z.2.1 z.2.2) n (x4, x5, σ) = some b) (he : ∀ (y4 : Int) (σ : Mem), b = (y4, σ) → G p l e rm_X11_losers s m args below meth c 6 D ca ad A 0 0 (MQ below (Qi D ca ad A r0 σ0) args s 0 0 A) σ 77 [none, none, none, none, some (.int (iI y4)), none] []) : G p l e rm_X11_losers s m args below meth c 6 D ca ad A 0 0 (MQ below (Qi D ca ad A r0 σ0) args s 0 0 A) σ 35 [some (.ref (ad 0)), none, some (.int (iI p2)), none, some (.int (iI x4)), some (.int (iI x5))] [] :=
  itr_rule (P := fun z : Int × Int × Mem => G p l e rm_X11_losers s m args below meth c 6 D ca ad A 0 0 (MQ below (Qi D ca ad A r0 σ0) args s 0 0 A) z.2.2 35 [some (.ref (ad 0)), none, some (.int (iI p2)), none, some (.int (iI z.1)), some (.int (iI z.2.1))] []) (E := fun b => ∀ (y4 : Int) (σ : Mem), b = (y4, σ) → G p l e rm_X11_losers s m args below meth c 6 D ca ad A 0 0 (MQ below (Qi D ca ad A r0 σ0) args s 0 0 A) σ 77 [none, none, none, none, some (.int (iI y4)), none] []) (fun z o hb hc he => it_X11_losers_35 C hr hlk (fun _ _ _ e => hc _ e) (fun _ _ e => (he _ e) _ _ rfl) hb) n _ _ h he
set_option maxHeartbeats 4000000 in
set_option maxRecDepth 100000 in
theorem c_X11_losers {v1 v2 : Int} {σ : Mem} (hf : f_X11_losers v1 v2 σ = some (r0, σ0)) : CTi l D ca ad A yX11_losers wsX11_losers rm_X11_losers [.ref (ad 0), .int (iI v1), .int (iI v2)] σ r0 σ0 := by
  refine ct_i (cc := cX11_losers) (own := RX11) (maxL := 6) (ret := (some .int)) (lv0 := [some (.ref (ad 0)), some (.int (iI v1)), some (.int (iI v2)), none, none, none]) (by decide) rfl rfl rfl (Nat.le_of_ble_eq_true rfl) ?_
  intro p e s m below meth c C hr hlk hnm
  unfold f_X11_losers at hf
  refine g_aload_n (i := 0) C dX11_losers_0 rfl rfl ?_
  refine g_iload_n (i := 1) C dX11_losers_1 rfl rfl ?_
  obtain ⟨r2, σ1, h3, hf⟩ := ob_inv hf
  refine g_callVi C (c_X11_fitFault  h3) (cwV 1 C.2.2.2.2.1 gX11_losers_X11_fitFault rfl rfl rfl (by decide +kernel) ⟨Nat.le_of_ble_eq_true rfl, Nat.le_of_ble_eq_true rfl⟩) ob_X11 rfl rfl rfl rfl (Nat.le_of_ble_eq_true rfl) dX11_losers_2 ⟨Nat.zero_le _, Nat.zero_le _⟩ ?_
  refine g_istore_n (i := 3) C dX11_losers_5 rfl (by decide) rfl ?_
  refine g_iload_n (i := 3) C dX11_losers_6 rfl rfl ?_
  refine g_if_eq (tgt := 12) C dX11_losers_7 (by decide) rfl (fun c4 => ?_) (fun c4 => ?_)
  · have hf := if_t c4 hf
    refine g_iload_n (i := 2) C dX11_losers_12 rfl rfl ?_
    obtain ⟨r6, σ5, h7, hf⟩ := ob_inv hf
    refine g_callSi C (c_X11_isBit  h7) (va_cwS 1 C.2.2.2.2.1 gX11_losers_X11_isBit rfl rfl rfl (by decide +kernel) ⟨Nat.le_of_ble_eq_true rfl, Nat.le_of_ble_eq_true rfl⟩) rfl rfl (Nat.le_of_ble_eq_true rfl) dX11_losers_13 ⟨Nat.zero_le _, Nat.zero_le _⟩ ?_
    refine g_if_ne (tgt := 21) C dX11_losers_16 (by decide) rfl (fun c8 => ?_) (fun c8 => ?_)
    · have hf := if_f c8 hf
      refine g_aload_n (i := 0) C dX11_losers_21 rfl rfl ?_
      refine gg_X11_scales (i := 1) C hiX11_losers_X11 rfl dX11_losers_22 ?_
      refine g_iload_n (i := 1) C dX11_losers_25 rfl rfl ?_
      obtain ⟨r10, σ9, h11, hf⟩ := ob_inv hf
      refine g_callVv C (c_X7_weigh  h11) (cwV 1 C.2.2.2.2.1 gX11_losers_X7_weigh rfl rfl rfl (by decide +kernel) ⟨Nat.le_of_ble_eq_true rfl, Nat.le_of_ble_eq_true rfl⟩) ob_X7 rfl rfl rfl rfl (Nat.le_of_ble_eq_true rfl) dX11_losers_26 ⟨Nat.zero_le _, Nat.zero_le _⟩ ?_
      refine g_iconst C dX11_losers_29 ?_
      refine g_istore C dX11_losers_30 (by decide) rfl ?_
      refine g_iconst C dX11_losers_32 ?_
      refine g_istore C dX11_losers_33 (by decide) rfl ?_
      obtain ⟨q18, hl19, hf⟩ := lb_inv hf
      refine g_mask [true, false, true, false, true, true] (w_X11_losers_35 C hr hlk hl19 ?_)
      · rintro y20 σ21 rfl
        refine g_iload C dX11_losers_77 rfl ?_
        obtain ⟨e1, e2⟩ := some_inv hf
        exact g_iret C hr hlk e1 e2 dX11_losers_79
    · have hf := if_t c8 hf
      refine g_iconst C dX11_losers_19 ?_
      obtain ⟨e1, e2⟩ := some_inv hf
      exact g_iret C hr hlk e1 e2 dX11_losers_20
  · have hf := if_f c4 hf
    refine g_iload_n (i := 3) C dX11_losers_10 rfl rfl ?_
    obtain ⟨e1, e2⟩ := some_inv hf
    exact g_iret C hr hlk e1 e2 dX11_losers_11
/-! X11_standing -/
abbrev rm_X11_standing : Room := { frames := 3, cells := 0, slots := 0, locals := 72 }
theorem hiX11_standing_X11 : ∀ w ∈ u_ws RX11 TX11 8, w ∈ wsX11_standing := fun _ h => (List.mem_cons_of_mem _ (List.mem_append_left _ (List.mem_append_left _ (List.mem_append_right _ h))))
set_option maxHeartbeats 4000000 in
set_option maxRecDepth 100000 in
theorem it_X11_standing_22 (C : Cx p s m args c cX11_standing 4 RX11 wsX11_standing D ca A) (hr : meth.sig.returnType = (some .int)) (hlk : meth.locks = false) {p1 : Int} {o : (Int × Int × Mem) ⊕ (Int × Mem)} (hc : ∀ (x2 x3 : Int) (σ : Mem), o = .inl (x2, x3, σ) → G p l e rm_X11_standing s m args below meth c 4 D ca ad A 0 0 (MQ below (Qi D ca ad A r0 σ0) args s 0 0 A) σ 22 [some (.ref (ad 0)), some (.int (iI p1)), some (.int (iI x2)), some (.int (iI x3))] []) (he : ∀ (y2 : Int) (σ : Mem), o = .inr (y2, σ) → G p l e rm_X11_standing s m args below meth c 4 D ca ad A 0 0 (MQ below (Qi D ca ad A r0 σ0) args s 0 0 A) σ 62 [none, none, some (.int (iI y2)), none] []) {x2 x3 : Int} {σ : Mem} (hf : f_X11_standing_22 p1 x2 x3 σ = some o) : G p l e rm_X11_standing s m args below meth c 4 D ca ad A 0 0 (MQ below (Qi D ca ad A r0 σ0) args s 0 0 A) σ 22 [some (.ref (ad 0)), some (.int (iI p1)), some (.int (iI x2)), some (.int (iI x3))] [] := by
  unfold f_X11_standing_22 at hf
  refine g_iload_n (i := 3) C dX11_standing_22 rfl rfl ?_
  refine g_iload_n (i := 1) C dX11_standing_23 rfl rfl ?_
  refine g_icmp_ge (tgt := 62) C dX11_standing_24 (by decide) rfl rfl (fun c5 => ?_) (fun c5 => ?_)
  · have hf := if_t c5 hf
    exact g_mask [false, false, true, false] (he _ _ (Option.some.inj hf).symm)
  · have hf := if_f c5 hf
    refine g_aload_n (i := 0) C dX11_standing_27 rfl rfl ?_
    refine gg_X11_fair (i := 2) C hiX11_standing_X11 rfl dX11_standing_28 ?_
    refine g_iload_n (i := 3) C dX11_standing_31 rfl rfl ?_
    obtain ⟨r7, σ6, h8, hf⟩ := ob_inv hf
    refine g_callVi C (c_X4_hasFit (by decide) h8) (cwV 1 C.2.2.2.2.1 gX11_standing_X4_hasFit rfl rfl rfl (by decide +kernel) ⟨Nat.le_of_ble_eq_true rfl, Nat.le_of_ble_eq_true rfl⟩) (ob_X4 (by decide)) rfl rfl rfl rfl (Nat.le_of_ble_eq_true rfl) dX11_standing_32 ⟨Nat.zero_le _, Nat.zero_le _⟩ ?_
    refine g_if_eq (tgt := 56) C dX11_standing_35 (by decide) rfl (fun c9 => ?_) (fun c9 => ?_)
    · have hf := if_t c9 hf
      refine g_iinc C dX11_standing_56 rfl (by decide) rfl ?_
      refine g_goto (tgt := 22) C dX11_standing_59 (by decide) ?_
      exact g_mask [true, true, true, true] (hc _ _ _ (Option.some.inj hf).symm)
    · have hf := if_f c9 hf
      refine g_aload_n (i := 0) C dX11_standing_38 rfl rfl ?_
      refine gg_X11_scales (i := 3) C hiX11_standing_X11 rfl dX11_standing_39 ?_
      refine g_iload_n (i := 3) C dX11_standing_42 rfl rfl ?_
      obtain ⟨r11, σ10, h12, hf⟩ := ob_inv hf
      refine g_callVv C (c_X7_lay  h12) (cwV 1 C.2.2.2.2.1 gX11_standing_X7_lay rfl rfl rfl (by decide +kernel) ⟨Nat.le_of_ble_eq_true rfl, Nat.le_of_ble_eq_true rfl⟩) ob_X7 rfl rfl rfl rfl (Nat.le_of_ble_eq_true rfl) dX11_standing_43 ⟨Nat.zero_le _, Nat.zero_le _⟩ ?_
      refine g_iload_n (i := 2) C dX11_standing_46 rfl rfl ?_
      refine g_aload_n (i := 0) C dX11_standing_47 rfl rfl ?_
      refine gg_X11_scales (i := 3) C hiX11_standing_X11 rfl dX11_standing_48 ?_
      obtain ⟨r14, σ13, h15, hf⟩ := ob_inv hf
      refine g_callVi C (c_X7_waysByLots  h15) (cwV 0 C.2.2.2.2.1 gX11_standing_X7_waysByLots rfl rfl rfl (by decide +kernel) ⟨Nat.le_of_ble_eq_true rfl, Nat.le_of_ble_eq_true rfl⟩) ob_X7 rfl rfl rfl rfl (Nat.le_of_ble_eq_true rfl) dX11_standing_51 ⟨Nat.zero_le _, Nat.zero_le _⟩ ?_
      refine g_iadd C dX11_standing_54 ?_
      refine g_istore_n (i := 2) C dX11_standing_55 rfl (by decide) rfl ?_
      refine g_iinc C dX11_standing_56 rfl (by decide) rfl ?_
      refine g_goto (tgt := 22) C dX11_standing_59 (by decide) ?_
      exact g_mask [true, true, true, true] (hc _ _ _ (Option.some.inj hf).symm)
set_option maxHeartbeats 4000000 in
set_option maxRecDepth 100000 in
theorem w_X11_standing_22 (C : Cx p s m args c cX11_standing 4 RX11 wsX11_standing D ca A) (hr : meth.sig.returnType = (some .int)) (hlk : meth.locks = false) {p1 : Int} {n : Nat} {x2 x3 : Int} {σ : Mem} {b : (Int × Mem)} (h : itr (fun z : Int × Int × Mem => f_X11_standing_22 p1 z.1 z.2.1 z.2.2) n (x2, x3, σ) = some b) (he : ∀ (y2 : Int) (σ : Mem), b = (y2, σ) → G p l e rm_X11_standing s m args below meth c 4 D ca ad A 0 0 (MQ below (Qi D ca ad A r0 σ0) args s 0 0 A) σ 62 [none, none, some (.int (iI y2)), none] []) : G p l e rm_X11_standing s m args below meth c 4 D ca ad A 0 0 (MQ below (Qi D ca ad A r0 σ0) args s 0 0 A) σ 22 [some (.ref (ad 0)), some (.int (iI p1)), some (.int (iI x2)), some (.int (iI x3))] [] :=
  itr_rule (P := fun z : Int × Int × Mem => G p l e rm_X11_standing s m args below meth c 4 D ca ad A 0 0 (MQ below (Qi D ca ad A r0 σ0) args s 0 0 A) z.2.2 22 [some (.ref (ad 0)), some (.int (iI p1)), some (.int (iI z.1)), some (.int (iI z.2.1))] []) (E := fun b => ∀ (y2 : Int) (σ : Mem), b = (y2, σ) → G p l e rm_X11_standing s m args below meth c 4 D ca ad A 0 0 (MQ below (Qi D ca ad A r0 σ0) args s 0 0 A) σ 62 [none, none, some (.int (iI y2)), none] []) (fun z o hb hc he => it_X11_standing_22 C hr hlk (fun _ _ _ e => hc _ e) (fun _ _ e => (he _ e) _ _ rfl) hb) n _ _ h he
set_option maxHeartbeats 4000000 in
set_option maxRecDepth 100000 in
theorem c_X11_standing {σ : Mem} (hf : f_X11_standing  σ = some (r0, σ0)) : CTi l D ca ad A yX11_standing wsX11_standing rm_X11_standing [.ref (ad 0)] σ r0 σ0 := by
  refine ct_i (cc := cX11_standing) (own := RX11) (maxL := 4) (ret := (some .int)) (lv0 := [some (.ref (ad 0)), none, none, none]) (by decide) rfl rfl rfl (Nat.le_of_ble_eq_true rfl) ?_
  intro p e s m below meth c C hr hlk hnm
  unfold f_X11_standing at hf
  refine g_aload_n (i := 0) C dX11_standing_0 rfl rfl ?_
  refine gg_X11_hasMarket (i := 1) C hiX11_standing_X11 rfl dX11_standing_1 ?_
  refine g_if_ne (tgt := 10) C dX11_standing_4 (by decide) rfl (fun c1 => ?_) (fun c1 => ?_)
  · have hf := if_f c1 hf
    refine g_aload_n (i := 0) C dX11_standing_10 rfl rfl ?_
    refine gg_X11_fair (i := 2) C hiX11_standing_X11 rfl dX11_standing_11 ?_
    obtain ⟨r3, σ2, h4, hf⟩ := ob_inv hf
    refine g_callVi C (c_X4_fitNumbers (by decide) h4) (cwV 0 C.2.2.2.2.1 gX11_standing_X4_fitNumbers rfl rfl rfl (by decide +kernel) ⟨Nat.le_of_ble_eq_true rfl, Nat.le_of_ble_eq_true rfl⟩) (ob_X4 (by decide)) rfl rfl rfl rfl (Nat.le_of_ble_eq_true rfl) dX11_standing_14 ⟨Nat.zero_le _, Nat.zero_le _⟩ ?_
    refine g_istore_n (i := 1) C dX11_standing_17 rfl (by decide) rfl ?_
    refine g_iconst C dX11_standing_18 ?_
    refine g_istore_n (i := 2) C dX11_standing_19 rfl (by decide) rfl ?_
    refine g_iconst C dX11_standing_20 ?_
    refine g_istore_n (i := 3) C dX11_standing_21 rfl (by decide) rfl ?_
    obtain ⟨q16, hl17, hf⟩ := lb_inv hf
    refine g_mask [true, true, true, true] (w_X11_standing_22 C hr hlk hl17 ?_)
    · rintro y18 σ19 rfl
      refine g_iload_n (i := 2) C dX11_standing_62 rfl rfl ?_
      obtain ⟨e1, e2⟩ := some_inv hf
      exact g_iret C hr hlk e1 e2 dX11_standing_63
  · have hf := if_t c1 hf
    refine g_bipush C dX11_standing_7 (by decide) ?_
    obtain ⟨e1, e2⟩ := some_inv hf
    exact g_iret C hr hlk e1 e2 dX11_standing_9
/-! X11_image -/
abbrev rm_X11_image : Room := { frames := 2, cells := 0, slots := 0, locals := 40 }
theorem hiX11_image_X11 : ∀ w ∈ u_ws RX11 TX11 8, w ∈ wsX11_image := fun _ h => (List.mem_cons_of_mem _ (List.mem_append_left _ (List.mem_append_right _ h)))
theorem hiX11_image_X4 : ∀ w ∈ u_ws RX4 TX4 9, w ∈ wsX11_image := fun _ h => (List.mem_cons_of_mem _ (List.mem_append_right _ h))
set_option maxHeartbeats 4000000 in
set_option maxRecDepth 100000 in
theorem c_X11_image {σ : Mem} (hf : f_X11_image  σ = some (r0, σ0)) : CTi l D ca ad A yX11_image wsX11_image rm_X11_image [.ref (ad 0)] σ r0 σ0 := by
  refine ct_i (cc := cX11_image) (own := RX11) (maxL := 1) (ret := (some .int)) (lv0 := [some (.ref (ad 0))]) (by decide) rfl rfl rfl (Nat.le_of_ble_eq_true rfl) ?_
  intro p e s m below meth c C hr hlk hnm
  unfold f_X11_image at hf
  refine g_aload_n (i := 0) C dX11_image_0 rfl rfl ?_
  refine gg_X11_hasMarket (i := 1) C hiX11_image_X11 rfl dX11_image_1 ?_
  refine g_if_ne (tgt := 10) C dX11_image_4 (by decide) rfl (fun c1 => ?_) (fun c1 => ?_)
  · have hf := if_f c1 hf
    refine g_aload_n (i := 0) C dX11_image_10 rfl rfl ?_
    refine gg_X11_kept (i := 2) C hiX11_image_X11 rfl dX11_image_11 ?_
    refine g_aload_n (i := 0) C dX11_image_14 rfl rfl ?_
    refine gg_X11_fair (i := 3) C hiX11_image_X11 rfl dX11_image_15 ?_
    obtain ⟨r3, σ2, h4, hf⟩ := ob_inv hf
    refine g_callVv C (c_X4_takeFrom (by decide) (by decide) h4) (cwV 1 C.2.2.2.2.1 gX11_image_X4_takeFrom rfl rfl rfl (by decide +kernel) ⟨Nat.le_of_ble_eq_true rfl, Nat.le_of_ble_eq_true rfl⟩) (ob_X4 (by decide)) rfl rfl rfl rfl (Nat.le_of_ble_eq_true rfl) dX11_image_18 ⟨Nat.zero_le _, Nat.zero_le _⟩ ?_
    refine g_aload_n (i := 0) C dX11_image_21 rfl rfl ?_
    refine g_iconst C dX11_image_22 ?_
    refine gp_X11_hasImage (i := 4) C (by decide) hiX11_image_X11 rfl dX11_image_23 ?_
    refine g_aload_n (i := 0) C dX11_image_26 rfl rfl ?_
    refine gg_X11_kept (i := 2) C hiX11_image_X11 rfl dX11_image_27 ?_
    refine gg_X4_sorts (i := 5) C (by decide) hiX11_image_X4 rfl dX11_image_30 ?_
    obtain ⟨e1, e2⟩ := some_inv hf
    exact g_iret C hr hlk e1 e2 dX11_image_33
  · have hf := if_t c1 hf
    refine g_bipush C dX11_image_7 (by decide) ?_
    obtain ⟨e1, e2⟩ := some_inv hf
    exact g_iret C hr hlk e1 e2 dX11_image_9
/-! X11_restore -/
abbrev rm_X11_restore : Room := { frames := 2, cells := 0, slots := 0, locals := 40 }
theorem hiX11_restore_X11 : ∀ w ∈ u_ws RX11 TX11 8, w ∈ wsX11_restore := fun _ h => (List.mem_cons_of_mem _ (List.mem_append_left _ (List.mem_append_right _ h)))
theorem hiX11_restore_X4 : ∀ w ∈ u_ws RX4 TX4 9, w ∈ wsX11_restore := fun _ h => (List.mem_cons_of_mem _ (List.mem_append_right _ h))
set_option maxHeartbeats 4000000 in
set_option maxRecDepth 100000 in
theorem c_X11_restore {σ : Mem} (hf : f_X11_restore  σ = some (r0, σ0)) : CTi l D ca ad A yX11_restore wsX11_restore rm_X11_restore [.ref (ad 0)] σ r0 σ0 := by
  refine ct_i (cc := cX11_restore) (own := RX11) (maxL := 1) (ret := (some .int)) (lv0 := [some (.ref (ad 0))]) (by decide) rfl rfl rfl (Nat.le_of_ble_eq_true rfl) ?_
  intro p e s m below meth c C hr hlk hnm
  unfold f_X11_restore at hf
  refine g_aload_n (i := 0) C dX11_restore_0 rfl rfl ?_
  refine gg_X11_hasImage (i := 1) C hiX11_restore_X11 rfl dX11_restore_1 ?_
  refine g_if_ne (tgt := 10) C dX11_restore_4 (by decide) rfl (fun c1 => ?_) (fun c1 => ?_)
  · have hf := if_f c1 hf
    refine g_aload_n (i := 0) C dX11_restore_10 rfl rfl ?_
    refine gg_X11_fair (i := 2) C hiX11_restore_X11 rfl dX11_restore_11 ?_
    refine g_aload_n (i := 0) C dX11_restore_14 rfl rfl ?_
    refine gg_X11_kept (i := 3) C hiX11_restore_X11 rfl dX11_restore_15 ?_
    obtain ⟨r3, σ2, h4, hf⟩ := ob_inv hf
    refine g_callVv C (c_X4_takeFrom (by decide) (by decide) h4) (cwV 1 C.2.2.2.2.1 gX11_restore_X4_takeFrom rfl rfl rfl (by decide +kernel) ⟨Nat.le_of_ble_eq_true rfl, Nat.le_of_ble_eq_true rfl⟩) (ob_X4 (by decide)) rfl rfl rfl rfl (Nat.le_of_ble_eq_true rfl) dX11_restore_18 ⟨Nat.zero_le _, Nat.zero_le _⟩ ?_
    refine g_aload_n (i := 0) C dX11_restore_21 rfl rfl ?_
    refine gg_X11_fair (i := 2) C hiX11_restore_X11 rfl dX11_restore_22 ?_
    refine gg_X4_sorts (i := 4) C (by decide) hiX11_restore_X4 rfl dX11_restore_25 ?_
    obtain ⟨e1, e2⟩ := some_inv hf
    exact g_iret C hr hlk e1 e2 dX11_restore_28
  · have hf := if_t c1 hf
    refine g_bipush C dX11_restore_7 (by decide) ?_
    obtain ⟨e1, e2⟩ := some_inv hf
    exact g_iret C hr hlk e1 e2 dX11_restore_9
/-! X11_count -/
abbrev rm_X11_count : Room := { frames := 1, cells := 0, slots := 0, locals := 23 }
theorem hiX11_count_X11 : ∀ w ∈ u_ws RX11 TX11 8, w ∈ wsX11_count := fun _ h => (List.mem_cons_of_mem _ (List.mem_append_left _ (List.mem_append_right _ h)))
theorem hiX11_count_X4 : ∀ w ∈ u_ws RX4 TX4 9, w ∈ wsX11_count := fun _ h => (List.mem_cons_of_mem _ (List.mem_append_right _ h))
set_option maxHeartbeats 4000000 in
set_option maxRecDepth 100000 in
theorem c_X11_count {v1 : Int} {σ : Mem} (hf : f_X11_count v1 σ = some (r0, σ0)) : CTi l D ca ad A yX11_count wsX11_count rm_X11_count [.ref (ad 0), .int (iI v1)] σ r0 σ0 := by
  refine ct_i (cc := cX11_count) (own := RX11) (maxL := 2) (ret := (some .int)) (lv0 := [some (.ref (ad 0)), some (.int (iI v1))]) (by decide) rfl rfl rfl (Nat.le_of_ble_eq_true rfl) ?_
  intro p e s m below meth c C hr hlk hnm
  unfold f_X11_count at hf
  refine g_iload_n (i := 1) C dX11_count_0 rfl rfl ?_
  rcases if_or hf with ⟨k1, hf⟩ | ⟨k1, hf⟩
  · refine g_tsIn (j := 0) (tgt := 36) C dX11_count_1 k1 (by decide) (by decide) rfl (by decide) ?_
    refine g_aload_n (i := 0) C dX11_count_36 rfl rfl ?_
    refine gg_X11_fair (i := 1) C hiX11_count_X11 rfl dX11_count_37 ?_
    refine gg_X4_sorts (i := 2) C (by decide) hiX11_count_X4 rfl dX11_count_40 ?_
    obtain ⟨e1, e2⟩ := some_inv hf
    exact g_iret C hr hlk e1 e2 dX11_count_43
  · rcases if_or hf with ⟨k2, hf⟩ | ⟨k2, hf⟩
    · refine g_tsIn (j := 1) (tgt := 44) C dX11_count_1 k2 (by decide) (by decide) rfl (by decide) ?_
      refine g_aload_n (i := 0) C dX11_count_44 rfl rfl ?_
      refine gg_X11_fair (i := 1) C hiX11_count_X11 rfl dX11_count_45 ?_
      refine gg_X4_marks (i := 3) C (by decide) hiX11_count_X4 rfl dX11_count_48 ?_
      obtain ⟨e1, e2⟩ := some_inv hf
      exact g_iret C hr hlk e1 e2 dX11_count_51
    · rcases if_or hf with ⟨k3, hf⟩ | ⟨k3, hf⟩
      · refine g_tsIn (j := 2) (tgt := 52) C dX11_count_1 k3 (by decide) (by decide) rfl (by decide) ?_
        refine g_aload_n (i := 0) C dX11_count_52 rfl rfl ?_
        refine gg_X11_fair (i := 1) C hiX11_count_X11 rfl dX11_count_53 ?_
        obtain ⟨r5, σ4, h6, hf⟩ := ob_inv hf
        refine g_callVi C (c_X4_toldThoughts (by decide) h6) (cwV 0 C.2.2.2.2.1 gX11_count_X4_toldThoughts rfl rfl rfl (by decide +kernel) ⟨Nat.le_of_ble_eq_true rfl, Nat.le_of_ble_eq_true rfl⟩) (ob_X4 (by decide)) rfl rfl rfl rfl (Nat.le_of_ble_eq_true rfl) dX11_count_56 ⟨Nat.zero_le _, Nat.zero_le _⟩ ?_
        obtain ⟨e1, e2⟩ := some_inv hf
        exact g_iret C hr hlk e1 e2 dX11_count_59
      · rcases if_or hf with ⟨k7, hf⟩ | ⟨k7, hf⟩
        · refine g_tsIn (j := 3) (tgt := 60) C dX11_count_1 k7 (by decide) (by decide) rfl (by decide) ?_
          refine g_aload_n (i := 0) C dX11_count_60 rfl rfl ?_
          refine gg_X11_fair (i := 1) C hiX11_count_X11 rfl dX11_count_61 ?_
          obtain ⟨r9, σ8, h10, hf⟩ := ob_inv hf
          refine g_callVi C (c_X4_allWorth (by decide) h10) (cwV 0 C.2.2.2.2.1 gX11_count_X4_allWorth rfl rfl rfl (by decide +kernel) ⟨Nat.le_of_ble_eq_true rfl, Nat.le_of_ble_eq_true rfl⟩) (ob_X4 (by decide)) rfl rfl rfl rfl (Nat.le_of_ble_eq_true rfl) dX11_count_64 ⟨Nat.zero_le _, Nat.zero_le _⟩ ?_
          obtain ⟨e1, e2⟩ := some_inv hf
          exact g_iret C hr hlk e1 e2 dX11_count_67
        · rcases if_or hf with ⟨k11, hf⟩ | ⟨k11, hf⟩
          · refine g_tsIn (j := 4) (tgt := 68) C dX11_count_1 k11 (by decide) (by decide) rfl (by decide) ?_
            refine g_aload_n (i := 0) C dX11_count_68 rfl rfl ?_
            refine gg_X11_fair (i := 1) C hiX11_count_X11 rfl dX11_count_69 ?_
            obtain ⟨r13, σ12, h14, hf⟩ := ob_inv hf
            refine g_callVi C (c_X4_allCosts (by decide) h14) (cwV 0 C.2.2.2.2.1 gX11_count_X4_allCosts rfl rfl rfl (by decide +kernel) ⟨Nat.le_of_ble_eq_true rfl, Nat.le_of_ble_eq_true rfl⟩) (ob_X4 (by decide)) rfl rfl rfl rfl (Nat.le_of_ble_eq_true rfl) dX11_count_72 ⟨Nat.zero_le _, Nat.zero_le _⟩ ?_
            obtain ⟨e1, e2⟩ := some_inv hf
            exact g_iret C hr hlk e1 e2 dX11_count_75
          · refine g_tsOut (tgt := 76) C dX11_count_1 (by omega) (by decide) ?_
            refine g_iconst C dX11_count_76 ?_
            obtain ⟨e1, e2⟩ := some_inv hf
            exact g_iret C hr hlk e1 e2 dX11_count_77
/-! X11_row -/
abbrev rm_X11_row : Room := { frames := 2, cells := 0, slots := 0, locals := 45 }
theorem hiX11_row_X11 : ∀ w ∈ u_ws RX11 TX11 8, w ∈ wsX11_row := fun _ h => (List.mem_cons_of_mem _ (List.mem_append_left _ (List.mem_append_right _ h)))
set_option maxHeartbeats 4000000 in
set_option maxRecDepth 100000 in
theorem c_X11_row {v1 v2 v3 : Int} {σ : Mem} (hf : f_X11_row v1 v2 v3 σ = some (r0, σ0)) : CTi l D ca ad A yX11_row wsX11_row rm_X11_row [.ref (ad 0), .int (iI v1), .int (iI v2), .int (iI v3)] σ r0 σ0 := by
  refine ct_i (cc := cX11_row) (own := RX11) (maxL := 4) (ret := (some .int)) (lv0 := [some (.ref (ad 0)), some (.int (iI v1)), some (.int (iI v2)), some (.int (iI v3))]) (by decide) rfl rfl rfl (Nat.le_of_ble_eq_true rfl) ?_
  intro p e s m below meth c C hr hlk hnm
  unfold f_X11_row at hf
  refine g_iload_n (i := 1) C dX11_row_0 rfl rfl ?_
  obtain ⟨r2, σ1, h3, hf⟩ := ob_inv hf
  refine g_callSi C (c_X11_isShelf  h3) (va_cwS 1 C.2.2.2.2.1 gX11_row_X11_isShelf rfl rfl rfl (by decide +kernel) ⟨Nat.le_of_ble_eq_true rfl, Nat.le_of_ble_eq_true rfl⟩) rfl rfl (Nat.le_of_ble_eq_true rfl) dX11_row_1 ⟨Nat.zero_le _, Nat.zero_le _⟩ ?_
  refine g_if_eq (tgt := 22) C dX11_row_4 (by decide) rfl (fun c4 => ?_) (fun c4 => ?_)
  · have hf := if_t c4 hf
    refine g_iconst C dX11_row_22 ?_
    obtain ⟨e1, e2⟩ := some_inv hf
    exact g_iret C hr hlk e1 e2 dX11_row_23
  · have hf := if_f c4 hf
    refine g_iload_n (i := 2) C dX11_row_7 rfl rfl ?_
    refine g_if_lt (tgt := 22) C dX11_row_8 (by decide) rfl (fun c5 => ?_) (fun c5 => ?_)
    · have hf := if_t c5 hf
      refine g_iconst C dX11_row_22 ?_
      obtain ⟨e1, e2⟩ := some_inv hf
      exact g_iret C hr hlk e1 e2 dX11_row_23
    · have hf := if_f c5 hf
      refine g_iload_n (i := 2) C dX11_row_11 rfl rfl ?_
      refine g_iconst C dX11_row_12 ?_
      refine g_icmp_gt (b' := 2) (tgt := 22) C dX11_row_13 (by decide) rfl (by decide) (fun c6 => ?_) (fun c6 => ?_)
      · have hf := if_t c6 hf
        refine g_iconst C dX11_row_22 ?_
        obtain ⟨e1, e2⟩ := some_inv hf
        exact g_iret C hr hlk e1 e2 dX11_row_23
      · have hf := if_f c6 hf
        refine g_iload_n (i := 3) C dX11_row_16 rfl rfl ?_
        refine g_bipush C dX11_row_17 (by decide) ?_
        refine g_icmp_le (b' := 120) (tgt := 24) C dX11_row_19 (by decide) rfl (by decide) (fun c7 => ?_) (fun c7 => ?_)
        · have hf := if_t c7 hf
          refine g_iload_n (i := 3) C dX11_row_24 rfl rfl ?_
          refine g_if_ge (tgt := 31) C dX11_row_25 (by decide) rfl (fun c8 => ?_) (fun c8 => ?_)
          · have hf := if_t c8 hf
            refine g_aload_n (i := 0) C dX11_row_31 rfl rfl ?_
            refine gg_X11_shelves (i := 1) C hiX11_row_X11 rfl dX11_row_32 ?_
            refine g_iload_n (i := 1) C dX11_row_35 rfl rfl ?_
            obtain ⟨hb9, hf⟩ := if_inv hf
            refine g_aaload C (Or.inl ⟨rfl, rfl, hb9⟩) dX11_row_36 rfl ?_
            refine g_iload_n (i := 2) C dX11_row_37 rfl rfl ?_
            refine g_iload_n (i := 3) C dX11_row_38 rfl rfl ?_
            obtain ⟨r11, σ10, h12, hf⟩ := ob_inv hf
            refine g_callVv C (c_X8_holdRow (shf_of hb9) h12) (cwV 2 C.2.2.2.2.1 gX11_row_X8_holdRow rfl rfl rfl (by decide +kernel) ⟨Nat.le_of_ble_eq_true rfl, Nat.le_of_ble_eq_true rfl⟩) (ob_X8 (shf_of hb9)) rfl rfl rfl rfl (Nat.le_of_ble_eq_true rfl) dX11_row_39 ⟨Nat.zero_le _, Nat.zero_le _⟩ ?_
            refine g_iconst C dX11_row_42 ?_
            obtain ⟨e1, e2⟩ := some_inv hf
            exact g_iret C hr hlk e1 e2 dX11_row_43
          · have hf := if_f c8 hf
            refine g_bipush C dX11_row_28 (by decide) ?_
            obtain ⟨e1, e2⟩ := some_inv hf
            exact g_iret C hr hlk e1 e2 dX11_row_30
        · have hf := if_f c7 hf
          refine g_iconst C dX11_row_22 ?_
          obtain ⟨e1, e2⟩ := some_inv hf
          exact g_iret C hr hlk e1 e2 dX11_row_23
/-! X11_put -/
abbrev rm_X11_put : Room := { frames := 1, cells := 0, slots := 0, locals := 22 }
theorem hiX11_put_X11 : ∀ w ∈ u_ws RX11 TX11 8, w ∈ wsX11_put := fun _ h => (List.mem_cons_of_mem _ (List.mem_append_left _ (List.mem_append_right _ h)))
set_option maxHeartbeats 4000000 in
set_option maxRecDepth 100000 in
theorem c_X11_put {v1 v2 v3 : Int} {σ : Mem} (hf : f_X11_put v1 v2 v3 σ = some (r0, σ0)) : CTi l D ca ad A yX11_put wsX11_put rm_X11_put [.ref (ad 0), .int (iI v1), .int (iI v2), .int (iI v3)] σ r0 σ0 := by
  refine ct_i (cc := cX11_put) (own := RX11) (maxL := 5) (ret := (some .int)) (lv0 := [some (.ref (ad 0)), some (.int (iI v1)), some (.int (iI v2)), some (.int (iI v3)), none]) (by decide) rfl rfl rfl (Nat.le_of_ble_eq_true rfl) ?_
  intro p e s m below meth c C hr hlk hnm
  unfold f_X11_put at hf
  refine g_iload_n (i := 1) C dX11_put_0 rfl rfl ?_
  obtain ⟨r2, σ1, h3, hf⟩ := ob_inv hf
  refine g_callSi C (c_X11_isShelf  h3) (va_cwS 1 C.2.2.2.2.1 gX11_put_X11_isShelf rfl rfl rfl (by decide +kernel) ⟨Nat.le_of_ble_eq_true rfl, Nat.le_of_ble_eq_true rfl⟩) rfl rfl (Nat.le_of_ble_eq_true rfl) dX11_put_1 ⟨Nat.zero_le _, Nat.zero_le _⟩ ?_
  refine g_if_ne (tgt := 9) C dX11_put_4 (by decide) rfl (fun c4 => ?_) (fun c4 => ?_)
  · have hf := if_f c4 hf
    refine g_aload_n (i := 0) C dX11_put_9 rfl rfl ?_
    refine gg_X11_shelves (i := 1) C hiX11_put_X11 rfl dX11_put_10 ?_
    refine g_iload_n (i := 1) C dX11_put_13 rfl rfl ?_
    obtain ⟨hb5, hf⟩ := if_inv hf
    refine g_aaload C (Or.inl ⟨rfl, rfl, hb5⟩) dX11_put_14 rfl ?_
    refine g_astore C dX11_put_15 (by decide) rfl ?_
    refine g_aload C dX11_put_17 rfl ?_
    obtain ⟨r7, σ6, h8, hf⟩ := ob_inv hf
    refine g_callVi C (c_X8_isBare (shf_of hb5) h8) (cwV 0 C.2.2.2.2.1 gX11_put_X8_isBare rfl rfl rfl (by decide +kernel) ⟨Nat.le_of_ble_eq_true rfl, Nat.le_of_ble_eq_true rfl⟩) (ob_X8 (shf_of hb5)) rfl rfl rfl rfl (Nat.le_of_ble_eq_true rfl) dX11_put_19 ⟨Nat.zero_le _, Nat.zero_le _⟩ ?_
    refine g_if_eq (tgt := 28) C dX11_put_22 (by decide) rfl (fun c9 => ?_) (fun c9 => ?_)
    · have hf := if_t c9 hf
      refine g_aload C dX11_put_28 rfl ?_
      obtain ⟨r11, σ10, h12, hf⟩ := ob_inv hf
      refine g_callVi C (c_X8_holdsRow (shf_of hb5) h12) (cwV 0 C.2.2.2.2.1 gX11_put_X8_holdsRow rfl rfl rfl (by decide +kernel) ⟨Nat.le_of_ble_eq_true rfl, Nat.le_of_ble_eq_true rfl⟩) (ob_X8 (shf_of hb5)) rfl rfl rfl rfl (Nat.le_of_ble_eq_true rfl) dX11_put_30 ⟨Nat.zero_le _, Nat.zero_le _⟩ ?_
      refine g_if_ne (tgt := 39) C dX11_put_33 (by decide) rfl (fun c13 => ?_) (fun c13 => ?_)
      · have hf := if_f c13 hf
        refine g_aload C dX11_put_39 rfl ?_
        refine g_iload_n (i := 2) C dX11_put_41 rfl rfl ?_
        refine g_iconst C dX11_put_42 ?_
        obtain ⟨r15, σ14, h16, hf⟩ := ob_inv hf
        refine g_callVi C (c_X8_hasPlaces (shf_of hb5) h16) (cwV 2 C.2.2.2.2.1 gX11_put_X8_hasPlaces rfl rfl rfl (by decide +kernel) ⟨Nat.le_of_ble_eq_true rfl, Nat.le_of_ble_eq_true rfl⟩) (ob_X8 (shf_of hb5)) rfl rfl rfl rfl (Nat.le_of_ble_eq_true rfl) dX11_put_43 ⟨Nat.zero_le _, Nat.zero_le _⟩ ?_
        refine g_if_ne (tgt := 52) C dX11_put_46 (by decide) rfl (fun c17 => ?_) (fun c17 => ?_)
        · have hf := if_f c17 hf
          refine g_aload C dX11_put_52 rfl ?_
          refine g_iload_n (i := 2) C dX11_put_54 rfl rfl ?_
          refine g_iload_n (i := 3) C dX11_put_55 rfl rfl ?_
          obtain ⟨r19, σ18, h20, hf⟩ := ob_inv hf
          refine g_callVv C (c_X8_setValue (shf_of hb5) h20) (cwV 2 C.2.2.2.2.1 gX11_put_X8_setValue rfl rfl rfl (by decide +kernel) ⟨Nat.le_of_ble_eq_true rfl, Nat.le_of_ble_eq_true rfl⟩) (ob_X8 (shf_of hb5)) rfl rfl rfl rfl (Nat.le_of_ble_eq_true rfl) dX11_put_56 ⟨Nat.zero_le _, Nat.zero_le _⟩ ?_
          refine g_iconst C dX11_put_59 ?_
          obtain ⟨e1, e2⟩ := some_inv hf
          exact g_iret C hr hlk e1 e2 dX11_put_60
        · have hf := if_t c17 hf
          refine g_bipush C dX11_put_49 (by decide) ?_
          obtain ⟨e1, e2⟩ := some_inv hf
          exact g_iret C hr hlk e1 e2 dX11_put_51
      · have hf := if_t c13 hf
        refine g_bipush C dX11_put_36 (by decide) ?_
        obtain ⟨e1, e2⟩ := some_inv hf
        exact g_iret C hr hlk e1 e2 dX11_put_38
    · have hf := if_f c9 hf
      refine g_bipush C dX11_put_25 (by decide) ?_
      obtain ⟨e1, e2⟩ := some_inv hf
      exact g_iret C hr hlk e1 e2 dX11_put_27
  · have hf := if_t c4 hf
    refine g_iconst C dX11_put_7 ?_
    obtain ⟨e1, e2⟩ := some_inv hf
    exact g_iret C hr hlk e1 e2 dX11_put_8
/-! X11_copy -/
abbrev rm_X11_copy : Room := { frames := 2, cells := 0, slots := 0, locals := 41 }
theorem hiX11_copy_X11 : ∀ w ∈ u_ws RX11 TX11 8, w ∈ wsX11_copy := fun _ h => (List.mem_cons_of_mem _ (List.mem_append_left _ (List.mem_append_right _ h)))
theorem hiX11_copy_X8 : ∀ w ∈ u_ws RX8 TX8 4, w ∈ wsX11_copy := fun _ h => (List.mem_cons_of_mem _ (List.mem_append_right _ h))
set_option maxHeartbeats 4000000 in
set_option maxRecDepth 100000 in
theorem c_X11_copy {v1 v2 v3 v4 v5 : Int} {σ : Mem} (hf : f_X11_copy v1 v2 v3 v4 v5 σ = some (r0, σ0)) : CTi l D ca ad A yX11_copy wsX11_copy rm_X11_copy [.ref (ad 0), .int (iI v1), .int (iI v2), .int (iI v3), .int (iI v4), .int (iI v5)] σ r0 σ0 := by
  refine ct_i (cc := cX11_copy) (own := RX11) (maxL := 8) (ret := (some .int)) (lv0 := [some (.ref (ad 0)), some (.int (iI v1)), some (.int (iI v2)), some (.int (iI v3)), some (.int (iI v4)), some (.int (iI v5)), none, none]) (by decide) rfl rfl rfl (Nat.le_of_ble_eq_true rfl) ?_
  intro p e s m below meth c C hr hlk hnm
  unfold f_X11_copy at hf
  refine g_iload_n (i := 1) C dX11_copy_0 rfl rfl ?_
  obtain ⟨r2, σ1, h3, hf⟩ := ob_inv hf
  refine g_callSi C (c_X11_isShelf  h3) (va_cwS 1 C.2.2.2.2.1 gX11_copy_X11_isShelf rfl rfl rfl (by decide +kernel) ⟨Nat.le_of_ble_eq_true rfl, Nat.le_of_ble_eq_true rfl⟩) rfl rfl (Nat.le_of_ble_eq_true rfl) dX11_copy_1 ⟨Nat.zero_le _, Nat.zero_le _⟩ ?_
  refine g_if_eq (tgt := 14) C dX11_copy_4 (by decide) rfl (fun c4 => ?_) (fun c4 => ?_)
  · have hf := if_t c4 hf
    refine g_iconst C dX11_copy_14 ?_
    obtain ⟨e1, e2⟩ := some_inv hf
    exact g_iret C hr hlk e1 e2 dX11_copy_15
  · have hf := if_f c4 hf
    refine g_iload_n (i := 3) C dX11_copy_7 rfl rfl ?_
    obtain ⟨r6, σ5, h7, hf⟩ := ob_inv hf
    refine g_callSi C (c_X11_isShelf  h7) (va_cwS 1 C.2.2.2.2.1 gX11_copy_X11_isShelf rfl rfl rfl (by decide +kernel) ⟨Nat.le_of_ble_eq_true rfl, Nat.le_of_ble_eq_true rfl⟩) rfl rfl (Nat.le_of_ble_eq_true rfl) dX11_copy_8 ⟨Nat.zero_le _, Nat.zero_le _⟩ ?_
    refine g_if_ne (tgt := 16) C dX11_copy_11 (by decide) rfl (fun c8 => ?_) (fun c8 => ?_)
    · have hf := if_f c8 hf
      refine g_aload_n (i := 0) C dX11_copy_16 rfl rfl ?_
      refine gg_X11_shelves (i := 1) C hiX11_copy_X11 rfl dX11_copy_17 ?_
      refine g_iload_n (i := 1) C dX11_copy_20 rfl rfl ?_
      obtain ⟨hb9, hf⟩ := if_inv hf
      refine g_aaload C (Or.inl ⟨rfl, rfl, hb9⟩) dX11_copy_21 rfl ?_
      refine g_astore C dX11_copy_22 (by decide) rfl ?_
      refine g_aload_n (i := 0) C dX11_copy_24 rfl rfl ?_
      refine gg_X11_shelves (i := 1) C hiX11_copy_X11 rfl dX11_copy_25 ?_
      refine g_iload_n (i := 3) C dX11_copy_28 rfl rfl ?_
      obtain ⟨hb10, hf⟩ := if_inv hf
      refine g_aaload C (Or.inl ⟨rfl, rfl, hb10⟩) dX11_copy_29 rfl ?_
      refine g_astore C dX11_copy_30 (by decide) rfl ?_
      refine g_aload C dX11_copy_32 rfl ?_
      obtain ⟨r12, σ11, h13, hf⟩ := ob_inv hf
      refine g_callVi C (c_X8_isBare (shf_of hb9) h13) (cwV 0 C.2.2.2.2.1 gX11_copy_X8_isBare rfl rfl rfl (by decide +kernel) ⟨Nat.le_of_ble_eq_true rfl, Nat.le_of_ble_eq_true rfl⟩) (ob_X8 (shf_of hb9)) rfl rfl rfl rfl (Nat.le_of_ble_eq_true rfl) dX11_copy_34 ⟨Nat.zero_le _, Nat.zero_le _⟩ ?_
      refine g_if_ne (tgt := 48) C dX11_copy_37 (by decide) rfl (fun c14 => ?_) (fun c14 => ?_)
      · have hf := if_f c14 hf
        refine g_bipush C dX11_copy_48 (by decide) ?_
        obtain ⟨e1, e2⟩ := some_inv hf
        exact g_iret C hr hlk e1 e2 dX11_copy_50
      · have hf := if_t c14 hf
        refine g_aload C dX11_copy_40 rfl ?_
        obtain ⟨r16, σ15, h17, hf⟩ := ob_inv hf
        refine g_callVi C (c_X8_isBare (shf_of hb10) h17) (cwV 0 C.2.2.2.2.1 gX11_copy_X8_isBare rfl rfl rfl (by decide +kernel) ⟨Nat.le_of_ble_eq_true rfl, Nat.le_of_ble_eq_true rfl⟩) (ob_X8 (shf_of hb10)) rfl rfl rfl rfl (Nat.le_of_ble_eq_true rfl) dX11_copy_42 ⟨Nat.zero_le _, Nat.zero_le _⟩ ?_
        refine g_if_eq (tgt := 51) C dX11_copy_45 (by decide) rfl (fun c18 => ?_) (fun c18 => ?_)
        · have hf := if_t c18 hf
          refine g_aload C dX11_copy_51 rfl ?_
          obtain ⟨r20, σ19, h21, hf⟩ := ob_inv hf
          refine g_callVi C (c_X8_holdsRow (shf_of hb9) h21) (cwV 0 C.2.2.2.2.1 gX11_copy_X8_holdsRow rfl rfl rfl (by decide +kernel) ⟨Nat.le_of_ble_eq_true rfl, Nat.le_of_ble_eq_true rfl⟩) (ob_X8 (shf_of hb9)) rfl rfl rfl rfl (Nat.le_of_ble_eq_true rfl) dX11_copy_53 ⟨Nat.zero_le _, Nat.zero_le _⟩ ?_
          refine g_if_eq (tgt := 72) C dX11_copy_56 (by decide) rfl (fun c22 => ?_) (fun c22 => ?_)
          · have hf := if_t c22 hf
            refine g_bipush C dX11_copy_72 (by decide) ?_
            obtain ⟨e1, e2⟩ := some_inv hf
            exact g_iret C hr hlk e1 e2 dX11_copy_74
          · have hf := if_f c22 hf
            refine g_aload C dX11_copy_59 rfl ?_
            refine g_aload C dX11_copy_61 rfl ?_
            refine gg_X8_rowSort (i := 2) C (shf_of hb9) hiX11_copy_X8 rfl dX11_copy_63 ?_
            obtain ⟨r24, σ23, h25, hf⟩ := ob_inv hf
            refine g_callVi C (c_X8_holdsRowOf (shf_of hb10) h25) (cwV 1 C.2.2.2.2.1 gX11_copy_X8_holdsRowOf rfl rfl rfl (by decide +kernel) ⟨Nat.le_of_ble_eq_true rfl, Nat.le_of_ble_eq_true rfl⟩) (ob_X8 (shf_of hb10)) rfl rfl rfl rfl (Nat.le_of_ble_eq_true rfl) dX11_copy_66 ⟨Nat.zero_le _, Nat.zero_le _⟩ ?_
            refine g_if_ne (tgt := 75) C dX11_copy_69 (by decide) rfl (fun c26 => ?_) (fun c26 => ?_)
            · have hf := if_f c26 hf
              refine g_aload C dX11_copy_75 rfl ?_
              refine g_iload_n (i := 2) C dX11_copy_77 rfl rfl ?_
              refine g_iload C dX11_copy_78 rfl ?_
              obtain ⟨r28, σ27, h29, hf⟩ := ob_inv hf
              refine g_callVi C (c_X8_hasPlaces (shf_of hb9) h29) (cwV 2 C.2.2.2.2.1 gX11_copy_X8_hasPlaces rfl rfl rfl (by decide +kernel) ⟨Nat.le_of_ble_eq_true rfl, Nat.le_of_ble_eq_true rfl⟩) (ob_X8 (shf_of hb9)) rfl rfl rfl rfl (Nat.le_of_ble_eq_true rfl) dX11_copy_80 ⟨Nat.zero_le _, Nat.zero_le _⟩ ?_
              refine g_if_eq (tgt := 98) C dX11_copy_83 (by decide) rfl (fun c30 => ?_) (fun c30 => ?_)
              · have hf := if_t c30 hf
                refine g_bipush C dX11_copy_98 (by decide) ?_
                obtain ⟨e1, e2⟩ := some_inv hf
                exact g_iret C hr hlk e1 e2 dX11_copy_100
              · have hf := if_f c30 hf
                refine g_aload C dX11_copy_86 rfl ?_
                refine g_iload C dX11_copy_88 rfl ?_
                refine g_iload C dX11_copy_90 rfl ?_
                obtain ⟨r32, σ31, h33, hf⟩ := ob_inv hf
                refine g_callVi C (c_X8_hasPlaces (shf_of hb10) h33) (cwV 2 C.2.2.2.2.1 gX11_copy_X8_hasPlaces rfl rfl rfl (by decide +kernel) ⟨Nat.le_of_ble_eq_true rfl, Nat.le_of_ble_eq_true rfl⟩) (ob_X8 (shf_of hb10)) rfl rfl rfl rfl (Nat.le_of_ble_eq_true rfl) dX11_copy_92 ⟨Nat.zero_le _, Nat.zero_le _⟩ ?_
                refine g_if_ne (tgt := 101) C dX11_copy_95 (by decide) rfl (fun c34 => ?_) (fun c34 => ?_)
                · have hf := if_f c34 hf
                  refine g_aload C dX11_copy_101 rfl ?_
                  refine gg_X8_values (i := 3) C (shf_of hb9) rfl hiX11_copy_X8 rfl dX11_copy_103 ?_
                  refine g_iload_n (i := 2) C dX11_copy_106 rfl rfl ?_
                  refine g_aload C dX11_copy_107 rfl ?_
                  refine gg_X8_values (i := 3) C (shf_of hb10) rfl hiX11_copy_X8 rfl dX11_copy_109 ?_
                  refine g_iload C dX11_copy_112 rfl ?_
                  refine g_iload C dX11_copy_114 rfl ?_
                  obtain ⟨hb36, hf⟩ := if_inv hf
                  refine g_copyi (N := 120) (N2 := 120) (i1 := 4) (i2 := 5) (i3 := 6) (i4 := 7) C (sh_arr (shf_of hb9)) (sh_arr (shf_of hb10)) rfl rfl rfl hb36 rfl rfl rfl rfl (by decide) (Nat.le_of_ble_eq_true rfl) dX11_copy_116 ?_
                  refine g_iload C dX11_copy_119 rfl ?_
                  obtain ⟨e1, e2⟩ := some_inv hf
                  exact g_iret C hr hlk e1 e2 dX11_copy_121
                · have hf := if_t c34 hf
                  refine g_bipush C dX11_copy_98 (by decide) ?_
                  obtain ⟨e1, e2⟩ := some_inv hf
                  exact g_iret C hr hlk e1 e2 dX11_copy_100
            · have hf := if_t c26 hf
              refine g_bipush C dX11_copy_72 (by decide) ?_
              obtain ⟨e1, e2⟩ := some_inv hf
              exact g_iret C hr hlk e1 e2 dX11_copy_74
        · have hf := if_f c18 hf
          refine g_bipush C dX11_copy_48 (by decide) ?_
          obtain ⟨e1, e2⟩ := some_inv hf
          exact g_iret C hr hlk e1 e2 dX11_copy_50
    · have hf := if_t c8 hf
      refine g_iconst C dX11_copy_14 ?_
      obtain ⟨e1, e2⟩ := some_inv hf
      exact g_iret C hr hlk e1 e2 dX11_copy_15
/-! X11_heldFitFault -/
abbrev rm_X11_heldFitFault : Room := { frames := 1, cells := 0, slots := 0, locals := 20 }
theorem hiX11_heldFitFault_X11 : ∀ w ∈ u_ws RX11 TX11 8, w ∈ wsX11_heldFitFault := fun _ h => (List.mem_cons_of_mem _ (List.mem_append_left _ (List.mem_append_right _ h)))
theorem hiX11_heldFitFault_X8 : ∀ w ∈ u_ws RX8 TX8 4, w ∈ wsX11_heldFitFault := fun _ h => (List.mem_cons_of_mem _ (List.mem_append_right _ h))
set_option maxHeartbeats 4000000 in
set_option maxRecDepth 100000 in
theorem c_X11_heldFitFault {v1 : Int} {σ : Mem} (hf : f_X11_heldFitFault v1 σ = some (r0, σ0)) : CTi l D ca ad A yX11_heldFitFault wsX11_heldFitFault rm_X11_heldFitFault [.ref (ad 0), .int (iI v1)] σ r0 σ0 := by
  refine ct_i (cc := cX11_heldFitFault) (own := RX11) (maxL := 2) (ret := (some .int)) (lv0 := [some (.ref (ad 0)), some (.int (iI v1))]) (by decide) rfl rfl rfl (Nat.le_of_ble_eq_true rfl) ?_
  intro p e s m below meth c C hr hlk hnm
  unfold f_X11_heldFitFault at hf
  refine g_iload_n (i := 1) C dX11_heldFitFault_0 rfl rfl ?_
  obtain ⟨r2, σ1, h3, hf⟩ := ob_inv hf
  refine g_callSi C (c_X11_isShelf  h3) (va_cwS 1 C.2.2.2.2.1 gX11_heldFitFault_X11_isShelf rfl rfl rfl (by decide +kernel) ⟨Nat.le_of_ble_eq_true rfl, Nat.le_of_ble_eq_true rfl⟩) rfl rfl (Nat.le_of_ble_eq_true rfl) dX11_heldFitFault_1 ⟨Nat.zero_le _, Nat.zero_le _⟩ ?_
  refine g_if_ne (tgt := 9) C dX11_heldFitFault_4 (by decide) rfl (fun c4 => ?_) (fun c4 => ?_)
  · have hf := if_f c4 hf
    refine g_aload_n (i := 0) C dX11_heldFitFault_9 rfl rfl ?_
    refine gg_X11_shelves (i := 1) C hiX11_heldFitFault_X11 rfl dX11_heldFitFault_10 ?_
    refine g_iload_n (i := 1) C dX11_heldFitFault_13 rfl rfl ?_
    obtain ⟨hb5, hf⟩ := if_inv hf
    refine g_aaload C (Or.inl ⟨rfl, rfl, hb5⟩) dX11_heldFitFault_14 rfl ?_
    obtain ⟨r7, σ6, h8, hf⟩ := ob_inv hf
    refine g_callVi C (c_X8_isBare (shf_of hb5) h8) (cwV 0 C.2.2.2.2.1 gX11_heldFitFault_X8_isBare rfl rfl rfl (by decide +kernel) ⟨Nat.le_of_ble_eq_true rfl, Nat.le_of_ble_eq_true rfl⟩) (ob_X8 (shf_of hb5)) rfl rfl rfl rfl (Nat.le_of_ble_eq_true rfl) dX11_heldFitFault_15 ⟨Nat.zero_le _, Nat.zero_le _⟩ ?_
    refine g_if_eq (tgt := 24) C dX11_heldFitFault_18 (by decide) rfl (fun c9 => ?_) (fun c9 => ?_)
    · have hf := if_t c9 hf
      refine g_aload_n (i := 0) C dX11_heldFitFault_24 rfl rfl ?_
      refine gg_X11_shelves (i := 1) C hiX11_heldFitFault_X11 rfl dX11_heldFitFault_25 ?_
      refine g_iload_n (i := 1) C dX11_heldFitFault_28 rfl rfl ?_
      refine g_aaload C (Or.inl ⟨rfl, rfl, hb5⟩) dX11_heldFitFault_29 rfl ?_
      refine g_fit_nn (i := 2) (tgt := 41) C (shf_of hb5) hiX11_heldFitFault_X8 rfl dX11_heldFitFault_30 dX11_heldFitFault_33 (by decide) (fun hf_10 => ?_) (fun hf_10 => ?_)
      · have hf := if_f hf_10 hf
        refine g_iconst C dX11_heldFitFault_41 ?_
        obtain ⟨e1, e2⟩ := some_inv hf
        exact g_iret C hr hlk e1 e2 dX11_heldFitFault_42
      · have hf := if_t hf_10 hf
        refine g_bipush C dX11_heldFitFault_36 (by decide) ?_
        refine g_goto (tgt := 42) C dX11_heldFitFault_38 (by decide) ?_
        obtain ⟨e1, e2⟩ := some_inv hf
        exact g_iret C hr hlk e1 e2 dX11_heldFitFault_42
    · have hf := if_f c9 hf
      refine g_bipush C dX11_heldFitFault_21 (by decide) ?_
      obtain ⟨e1, e2⟩ := some_inv hf
      exact g_iret C hr hlk e1 e2 dX11_heldFitFault_23
  · have hf := if_t c4 hf
    refine g_iconst C dX11_heldFitFault_7 ?_
    obtain ⟨e1, e2⟩ := some_inv hf
    exact g_iret C hr hlk e1 e2 dX11_heldFitFault_8
end Wk
