/-! BY HAND 6: the constructor of a fit -/
section Gi
variable {p : Program} {l : Launch} {e : Env} {R : Room} {s : State} {m : MethodId} {args : Array Value} {below : List Frame} {meth : Method} {c : Code} {cells slots mc ms : Nat} {Q : State → Prop}
variable {cc : ByteArray} {own : String} {ws : List Cond} {nL : Nat} {D : va_G} {ca : Ca} {ad : Int → Nat} {A : Nat → Prop} {WR W0 W1 : Heap → Prop}
variable {pc i index : Nat} {lv : List (Option Value)} {st : List Value}
theorem gw_mono {WR' : Heap → Prop} (h : ∀ H, WR H → WR' H) (k : GW WR' p l e R s m args below meth c nL A cells slots Q pc lv st) : GW WR p l e R s m args below meth c nL A cells slots Q pc lv st := fun H locs ls hw hS hl => k H locs ls (h H hw) hS hl
/-- one object -/
def WO (D : va_G) (A : Nat → Prop) (ci q : Nat) (vs : List Value) (H : Heap) : Prop := va_P D vwCl [(q, .inr (ci, vs))] H ∧ va_D A [(q, .inr (ci, vs))]
abbrev ov (a b c d : Int) : List Value := [.int (iI a), .int (iI b), .int (iI c), .int (iI d)]
theorem gw_putF (C : Cx p s m args c cc nL RX2 ws D ca A) {q ci k : Nat} {K : String} {T : u_T} {vs : List Value} {z : Int} (hk : FK ci K T) (hu : UW K T ws) (hkk : k < 4) (hlen : vs.length = 4) (hi : ws[i]? = some (.fieldLink RX2 index "FurrowFair$Fit" (TX2 k).2.1 (TX2 k).2.2.1)) (hnm : meth.name = "<init>") (hfin : (TX2 k).2.2.2 = true ∧ (TX2 k).1 = RX2 ∧ parseFieldDescriptor (TX2 k).2.2.1 = some .int) (hd : decode cc pc = .ok (.putfield index, 3))
    (kk : GW (WO D A ci q (vs.set k (.int (iI z)))) p l e R s m args below meth c nL A cells slots Q (pc + 3) lv st) : GW (WO D A ci q vs) p l e R s m args below meth c nL A cells slots Q pc lv (.int (iI z) :: .ref q :: st) := by
  intro H locs ls hw hS hl
  have ek := hk.2 k hkk
  refine va_putF (T := T) (C := K) (N := 4) (ci := ci) (ref := "FurrowFair$Fit") (ty := .int) C.1 C.2.1 C.2.2.2.2.1 hu tyX2 (fun j hj => by rw [hk.2 j hj]; exact tyX2_ok j hj) (fun a ha b hb hab => by rw [hk.2 a ha, hk.2 b hb]; exact nmX2 a ha b hb hab) C.2.2.2.1 C.2.2.2.2.2.1 hw.1 hw.2 hS 0 rfl hk.1 k hkk (by rw [ek]; exact C.wd hi) (by rw [ek, hfin.2.1]; exact fun _ h9 => h9) (by rw [ek]; exact hfin.1) hnm (by rw [ek]; exact hfin.2.1) (by rw [ek]; exact hfin.2.2) rfl rfl (by rw [hlen]; exact hkk) hd (fun H1 locs1 hP1 hD1 hS1 => ?_)
  exact kk H1 locs1 ls ⟨hP1, hD1⟩ hS1 hl
abbrev rm_X2_init : Room := { frames := 1, cells := 0, slots := 0, locals := 20 }
theorem init_loop (C : Cx p s m args c cX2_init 8 RX2 wsX2_init D ca A) {q n : Nat} {fit : Int} (hf : 0 ≤ fit ∧ fit ≤ 2147483647) (hn : n ≤ 4) (kk : GW WR p l e R s m args below meth c 8 A cells slots Q 57 [some (.ref q), some (.int (iI fit)), some (.int (iI n)), none, some (.int (iI (ftM fit n))), some (.int (iI (ftA fit n))), none, none] []) : ∀ j k : Nat, k + j = n → GW WR p l e R s m args below meth c 8 A cells slots Q 15 [some (.ref q), some (.int (iI fit)), some (.int (iI n)), some (.int (iI (dv fit k))), some (.int (iI (ftM fit k))), some (.int (iI (ftA fit k))), some (.int (iI k)), none] []
  | j, k, hjk => by
    have a1 := dv_pos hf.1 k
    have a2 := dv_le hf.1 k
    have a3 := dg_in fit k
    refine gw_iload (i := 6) C dX2_init_15 rfl ?_
    refine gw_iload_n (i := 2) C dX2_init_17 rfl rfl ?_
    refine gw_icmp_ge (tgt := 57) (a' := k) (b' := n) C dX2_init_18 (by decide) (s32_of (by omega) (by omega)) (s32_of (by omega) (by omega)) (fun z => ?_) (fun z => ?_)
    · have e : k = n := by omega
      subst e
      exact gw_mask [true, true, true, false, true, true, false, false] kk
    · match j, hjk with
      | 0, hjk => exact absurd hjk (by omega)
      | j + 1, hjk =>
      refine gw_iload_n (i := 3) C dX2_init_21 rfl rfl ?_
      refine gw_iconst C dX2_init_22 ?_
      refine gw_irem (a' := dv fit k) (b' := 5) C dX2_init_23 (s32_of (by omega) (by omega)) (by decide) (by decide) ?_
      rw [tm5 a1, show dv fit k % 5 = dg fit k from rfl]
      refine gw_istore (i := 7) C dX2_init_24 (by decide) rfl ?_
      refine gw_iload_n (i := 3) C dX2_init_26 rfl rfl ?_
      refine gw_iconst C dX2_init_27 ?_
      refine gw_idiv (a' := dv fit k) (b' := 5) C dX2_init_28 (s32_of (by omega) (by omega)) (by decide) (by decide) ?_
      rw [td5 a1, show dv fit k / 5 = dv fit (k + 1) from rfl]
      refine gw_istore_n (i := 3) C dX2_init_29 rfl (by decide) rfl ?_
      refine gw_iload (i := 7) C dX2_init_30 rfl ?_
      refine gw_iconst C dX2_init_32 ?_
      have ih := init_loop C hf hn kk j (k + 1) (by omega)
      refine gw_icmp_ne (tgt := 42) (a' := dg fit k) (b' := 4) C dX2_init_33 (by decide) (s32_of (by omega) (by omega)) (by decide) (fun w => ?_) (fun w => ?_)
      · have eM : ftM fit (k + 1) = or32 (ftM fit k) (shl32 1 (dg fit k)) := if_neg w
        have eA : ftA fit (k + 1) = ftA fit k := by
          show ftA fit k + (if dg fit k = 4 then 1 else 0) = _
          rw [if_neg w, Int.add_zero]
        rw [eM, eA] at ih
        refine gw_iload (i := 4) C dX2_init_42 rfl ?_
        refine gw_iconst C dX2_init_44 ?_
        refine gw_iload (i := 7) C dX2_init_45 rfl ?_
        refine gw_ishl C dX2_init_47 ?_
        refine gw_ior C dX2_init_48 ?_
        refine gw_istore (i := 4) C dX2_init_49 (by decide) rfl ?_
        refine gw_iinc (i := 6) C dX2_init_51 rfl (by decide) rfl ?_
        refine gw_goto (tgt := 15) C dX2_init_54 (by decide) ?_
        exact gw_mask [true, true, true, true, true, true, true, false] ih
      · have eM : ftM fit (k + 1) = ftM fit k := if_pos w
        have eA : ftA fit (k + 1) = ftA fit k + 1 := by
          show ftA fit k + (if dg fit k = 4 then 1 else 0) = _
          rw [if_pos w]
        rw [eM, eA] at ih
        refine gw_iinc (i := 5) C dX2_init_36 rfl (by decide) rfl ?_
        refine gw_goto (tgt := 51) C dX2_init_39 (by decide) ?_
        refine gw_iinc (i := 6) C dX2_init_51 rfl (by decide) rfl ?_
        refine gw_goto (tgt := 15) C dX2_init_54 (by decide) ?_
        exact gw_mask [true, true, true, true, true, true, true, false] ih
theorem cg_X2_init {K : String} {T : u_T} {ci q n : Nat} {fit : Int} (hk : FK ci K T) (hu : UW K T wsX2_init) (hf : 0 ≤ fit ∧ fit ≤ 2147483647) (hn : n ≤ 4) : CGv l D ca A yX2_init wsX2_init rm_X2_init [.ref q, .int (iI fit), .int (iI n)] (WO D A ci q (ov 0 0 0 0)) (WO D A ci q (ov fit (jbc (ftM fit n)) (ftA fit n) n)) 0 0 := by
  refine cg_any (cc := cX2_init) (own := RX2) (maxL := 8) (ret := none) (lv0 := [some (.ref q), some (.int (iI fit)), some (.int (iI n)), none, none, none, none, none]) (by decide) rfl rfl rfl (Nat.le_of_ble_eq_true rfl) ?_
  intro p e s m below meth c C hr hlk hnm
  refine gw_mono (fun H h => h.1) ?_
  refine gw_aload_n (i := 0) C dX2_init_0 rfl rfl ?_
  intro H locs ls hw hS hl
  refine W.objInit C.1 C.2.1 C.2.2.2.1 (C.wd (i := 1) rfl) (C.wd (i := 2) rfl) (C.wd (i := 3) rfl) rfl (by rw [C.2.2.1]; exact hl.1) rfl dX2_init_1 (Nat.le_of_ble_eq_true rfl) (Nat.le_of_ble_eq_true rfl) ?_
  refine W.eq (g2 := F0 m 4 ls []) rfl ?_
  refine (?_ : GW (WO D A ci q (ov 0 0 0 0)) p l e rm_X2_init s m [Value.ref q, .int (iI fit), .int (iI n)].toArray below meth c 8 A 0 0 _ 4 [some (.ref q), some (.int (iI fit)), some (.int (iI n)), none, none, none, none, none] []) H locs ls hw hS hl
  refine gw_iload_n (i := 1) C dX2_init_4 rfl rfl ?_
  refine gw_istore_n (i := 3) C dX2_init_5 rfl (by decide) rfl ?_
  refine gw_iconst C dX2_init_6 ?_
  refine gw_istore (i := 4) C dX2_init_7 (by decide) rfl ?_
  refine gw_iconst C dX2_init_9 ?_
  refine gw_istore (i := 5) C dX2_init_10 (by decide) rfl ?_
  refine gw_iconst C dX2_init_12 ?_
  refine gw_istore (i := 6) C dX2_init_13 (by decide) rfl ?_
  refine gw_mask [true, true, true, true, true, true, true, false] ?_
  refine init_loop C hf hn ?_ n 0 (by omega)
  refine gw_aload_n (i := 0) C dX2_init_57 rfl rfl ?_
  refine gw_iload_n (i := 1) C dX2_init_58 rfl rfl ?_
  refine gw_putF (i := 4) (k := 0) C hk hu (by decide) rfl rfl hnm ⟨rfl, rfl, tyX2_ok 0 (by decide)⟩ dX2_init_59 ?_
  refine gw_aload_n (i := 0) C dX2_init_62 rfl rfl ?_
  refine gw_iload_n (i := 2) C dX2_init_63 rfl rfl ?_
  refine gw_putF (i := 5) (k := 3) C hk hu (by decide) rfl rfl hnm ⟨rfl, rfl, tyX2_ok 3 (by decide)⟩ dX2_init_64 ?_
  refine gw_aload_n (i := 0) C dX2_init_67 rfl rfl ?_
  refine gw_iload (i := 4) C dX2_init_68 rfl ?_
  refine gg_callS (W0 := fun _ => True) (W1 := fun _ => True) (rest := [.ref q]) C (fun sz => cb_bitCount) (va_cwS 1 C.2.2.2.2.1 gX2_init_J6_bitCount_0f7a4 rfl rfl rfl (by decide +kernel) ⟨Nat.le_of_ble_eq_true rfl, Nat.le_of_ble_eq_true rfl⟩) rfl rfl (Nat.le_of_ble_eq_true rfl) dX2_init_70 ⟨Nat.zero_le _, Nat.zero_le _⟩ (fun _ _ => trivial) (fun H H1 h hz hk1 => ⟨h.1.kept (fun k x hx => hk1 x.1 ((h.1 k x hx).lt)), h.2⟩) ?_
  refine gw_putF (i := 6) (k := 1) C hk hu (by decide) rfl rfl hnm ⟨rfl, rfl, tyX2_ok 1 (by decide)⟩ dX2_init_73 ?_
  refine gw_aload_n (i := 0) C dX2_init_76 rfl rfl ?_
  refine gw_iload (i := 5) C dX2_init_77 rfl ?_
  refine gw_putF (i := 7) (k := 2) C hk hu (by decide) rfl rfl hnm ⟨rfl, rfl, tyX2_ok 2 (by decide)⟩ dX2_init_79 ?_
  exact gg_vret C hr hlk (fun H h => h) dX2_init_82
end Gi
