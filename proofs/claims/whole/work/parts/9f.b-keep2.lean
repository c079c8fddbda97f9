/-! BY HAND 10: keep -/
section Gz
variable {p : Program} {l : Launch} {e : Env} {R : Room} {s : State} {m : MethodId} {args : Array Value} {below : List Frame} {meth : Method} {c : Code} {cells slots mc ms : Nat} {Q : State → Prop}
variable {cc : ByteArray} {own : String} {ws : List Cond} {nL : Nat} {D : va_G} {ca : Ca} {ad : Int → Nat} {A : Nat → Prop} {WR W0 W1 : Heap → Prop} {fa : Int → Option Nat} {σ σ' : Mem} {r0 : Int} {σ0 : Mem}
variable {pc i index : Nat} {lv : List (Option Value)} {st : List Value}
theorem isShelf_same {v r : Int} {σ1 : Mem} (h : f_X11_isShelf v σ = some (r, σ1)) : σ1 = σ := by
  unfold f_X11_isShelf at h
  split at h
  · exact (some_inv h).2.symm
  · split at h <;> exact (some_inv h).2.symm
theorem isBit_same {v r : Int} {σ1 : Mem} (h : f_X11_isBit v σ = some (r, σ1)) : σ1 = σ := by
  unfold f_X11_isBit at h
  split at h
  · exact (some_inv h).2.symm
  · split at h <;> exact (some_inv h).2.symm
/-- a method that makes so many cells -/
def CTm (l : Launch) (D : va_G) (ca : Ca) (ad : Int → Nat) (A : Nat → Prop) (y : MethodName) (ws : List Cond) (rm : Room) (vs : List Value) (σ : Mem) (r : Int) (σ' : Mem) (mc ms : Nat) : Prop := Met l y ws rm (va_Pc vs (Wd D ca ad A σ)) (Qi D ca ad A r σ') mc ms A
theorem ct_m {y : MethodName} {ws' : List Cond} {rm : Room} {maxL : Nat} {ret : Option FieldType} {vs : List Value} {lv0 : List (Option Value)} {r : Int} (hy : plainName y.cls = true) (hw : ws = Cond.code y cc maxL ret :: ws') (hown : y.cls = own) (hlv : lp lv0 = lv_args 0 vs) (hlen : (lg_sl vs).length ≤ maxL)
    (body : ∀ (p : Program) (e : Env) (s : State) (m : MethodId) (below : List Frame) (meth : Method) (c : Code), Cx p s m vs.toArray c cc maxL own ws D ca A → meth.sig.returnType = ret → meth.locks = false → G p l e rm s m vs.toArray below meth c maxL D ca ad A 0 0 (MQ below (Qi D ca ad A r σ') vs.toArray s mc ms A) σ 0 lv0 []) : CTm l D ca ad A y ws rm vs σ r σ' mc ms := by
  refine Met.ofW (cc := cc) (maxL := maxL) (ret := ret) hy hw ?_
  intro p e s m args below meth c s₁ B hml hv
  obtain ⟨rfl, hW, hK, hA⟩ := hv
  have C : Cx p s m vs.toArray c cc maxL own ws D ca A := ⟨B.exec, B.bytes, hml, hown ▸ findClass_of_methodNamed B.named, atoms_spec (ws := ws) B.pre, hK, hA⟩
  have hl := lv_entry vs (n := maxL) hlen
  rw [lg_entry_eq]
  exact body p e s m below meth c C B.returns B.notSynchronized s.heap [] _ hW va_S.rf (lh_of hl (fun i v h => by rw [← hlv]; exact lp_mem.mpr h))
theorem g_iretW (C : Cx p s m args c cc nL own ws D ca A) {r r' : Int} (hr : meth.sig.returnType = some .int) (hlk : meth.locks = false) (e1 : r' = r) (e2 : σ' = σ) (hc : cells ≤ mc ∧ slots ≤ ms) (hd : decode cc pc = .ok (.ireturn, 1)) : G p l e R s m args below meth c nL D ca ad A cells slots (MQ below (Qi D ca ad A r σ) args s mc ms A) σ' pc lv [.int (iI r')] := by
  intro H locs ls hw hS hl
  subst e1; subst e2
  exact W.widen hc.1 hc.2 (W.iret C.1 C.2.1 hr (fun t ht hW => ⟨⟨_, (), rfl, rfl, by show Wr D ca ad A σ' t.heap; rw [ht]; exact hw⟩, hS.F ht⟩) hS.2.2 hd)
abbrev rm_X11_keep : Room := { frames := 5, cells := 1, slots := 4, locals := 130 }
theorem c_X11_keep {v1 v2 v3 v4 : Int} {n m' : Nat} (hf0 : f_X11_keep v1 v2 v3 v4 σ = some (r0, σ0)) (hn : σ 10 0 = n) (hm : σ 10 1 = m') (hn4 : n ≤ 4) (hm4 : m' ≤ 4) (s3 : s32 v3 = v3) (s4 : s32 v4 = v4) : CTm l D ca ad A yX11_keep wsX11_keep rm_X11_keep [.ref (ad 0), .int (iI v1), .int (iI v2), .int (iI v3), .int (iI v4)] σ r0 σ0 1 4 := by
  refine ct_m (cc := cX11_keep) (own := RX11) (maxL := 5) (ret := (some .int)) (lv0 := [some (.ref (ad 0)), some (.int (iI v1)), some (.int (iI v2)), some (.int (iI v3)), some (.int (iI v4))]) (by decide) rfl rfl rfl (Nat.le_of_ble_eq_true rfl) ?_
  intro p e s m below meth c C hr hlk
  unfold f_X11_keep at hf0
  refine g_iload_n (i := 1) C dX11_keep_0 rfl rfl ?_
  obtain ⟨r, σ1, h1, hf1⟩ := ob_inv hf0
  clear hf0
  refine g_callSi C (c_X11_isShelf h1) (va_cwS 1 C.2.2.2.2.1 gX11_keep_X11_isShelf rfl rfl rfl (by decide +kernel) ⟨Nat.le_of_ble_eq_true rfl, Nat.le_of_ble_eq_true rfl⟩) rfl rfl (Nat.le_of_ble_eq_true rfl) dX11_keep_1 ⟨Nat.zero_le _, Nat.zero_le _⟩ ?_
  have es1 := isShelf_same h1
  subst es1
  refine g_if_eq (tgt := 14) C dX11_keep_4 (by decide) rfl (fun c1 => ?_) (fun c1 => ?_)
  · have hf2 := if_t c1 hf1
    refine g_iconst C dX11_keep_14 ?_
    exact g_iretW C hr hlk (some_inv hf2).1 (some_inv hf2).2 ⟨Nat.zero_le _, Nat.zero_le _⟩ dX11_keep_15
  have hf2 := if_f c1 hf1
  clear hf1
  refine g_iload_n (i := 2) C dX11_keep_7 rfl rfl ?_
  obtain ⟨r2, σ2, h2, hf3⟩ := ob_inv hf2
  clear hf2
  refine g_callSi C (c_X11_isBit h2) (va_cwS 1 C.2.2.2.2.1 gX11_keep_X11_isBit rfl rfl rfl (by decide +kernel) ⟨Nat.le_of_ble_eq_true rfl, Nat.le_of_ble_eq_true rfl⟩) rfl rfl (Nat.le_of_ble_eq_true rfl) dX11_keep_8 ⟨Nat.zero_le _, Nat.zero_le _⟩ ?_
  have es2 := isBit_same h2
  subst es2
  refine g_if_ne (tgt := 16) C dX11_keep_11 (by decide) rfl (fun c2 => ?_) (fun c2 => ?_)
  rotate_left
  · have hf4 := if_t c2 hf3
    refine g_iconst C dX11_keep_14 ?_
    exact g_iretW C hr hlk (some_inv hf4).1 (some_inv hf4).2 ⟨Nat.zero_le _, Nat.zero_le _⟩ dX11_keep_15
  have hf4 := if_f c2 hf3
  clear hf3
  refine g_iload_n (i := 2) C dX11_keep_16 rfl rfl ?_
  refine g_if_ne (tgt := 31) C dX11_keep_17 (by decide) rfl (fun c3 => ?_) (fun c3 => ?_)
  rotate_left
  · have hf5 := if_t c3 hf4
    obtain ⟨hb, hf6⟩ := if_inv hf5
    obtain ⟨r3, σ3, h3, hf7⟩ := ob_inv hf6
    refine g_aload_n (i := 0) C dX11_keep_20 rfl rfl ?_
    refine gg_X11_shelves (i := 1) C (by decide +kernel) rfl dX11_keep_21 ?_
    refine g_iload_n (i := 1) C dX11_keep_24 rfl rfl ?_
    refine g_aaload C (Or.inl ⟨rfl, rfl, hb⟩) dX11_keep_25 rfl ?_
    refine g_callVv C (c_X8_clear (shf_of hb) h3) (cwV 0 C.2.2.2.2.1 gX11_keep_X8_clear rfl rfl rfl (by decide +kernel) ⟨Nat.le_of_ble_eq_true rfl, Nat.le_of_ble_eq_true rfl⟩) (ob_X8 (shf_of hb)) rfl rfl rfl rfl (Nat.le_of_ble_eq_true rfl) dX11_keep_26 ⟨Nat.zero_le _, Nat.zero_le _⟩ ?_
    refine g_iconst C dX11_keep_29 ?_
    exact g_iretW C hr hlk (some_inv hf7).1 (some_inv hf7).2 ⟨Nat.zero_le _, Nat.zero_le _⟩ dX11_keep_30
  have hf5 := if_f c3 hf4
  clear hf4
  refine g_aload_n (i := 0) C dX11_keep_31 rfl rfl ?_
  refine gg_X11_hasMarket (i := 2) C (by decide +kernel) rfl dX11_keep_32 ?_
  refine g_if_ne (tgt := 41) C dX11_keep_35 (by decide) rfl (fun c4 => ?_) (fun c4 => ?_)
  rotate_left
  · have hf6 := if_t c4 hf5
    refine g_bipush C dX11_keep_38 (by decide) ?_
    exact g_iretW C hr hlk (some_inv hf6).1 (some_inv hf6).2 ⟨Nat.zero_le _, Nat.zero_le _⟩ dX11_keep_40
  have hf6 := if_f c4 hf5
  clear hf5
  refine g_iload_n (i := 3) C dX11_keep_41 rfl rfl ?_
  refine g_if_lt (tgt := 62) C dX11_keep_42 (by decide) rfl (fun c5 => ?_) (fun c5 => ?_)
  · have hf7 := if_t c5 hf6
    refine g_iconst C dX11_keep_62 ?_
    exact g_iretW C hr hlk (some_inv hf7).1 (some_inv hf7).2 ⟨Nat.zero_le _, Nat.zero_le _⟩ dX11_keep_63
  have hf7 := if_f c5 hf6
  clear hf6
  refine g_iload_n (i := 3) C dX11_keep_45 rfl rfl ?_
  refine g_iconst C dX11_keep_46 ?_
  refine g_icmp_gt (tgt := 62) (b' := 5) C dX11_keep_47 (by decide) rfl (by decide) (fun c6 => ?_) (fun c6 => ?_)
  · have hf8 := if_t c6 hf7
    refine g_iconst C dX11_keep_62 ?_
    exact g_iretW C hr hlk (some_inv hf8).1 (some_inv hf8).2 ⟨Nat.zero_le _, Nat.zero_le _⟩ dX11_keep_63
  have hf8 := if_f c6 hf7
  clear hf7
  refine g_aload_n (i := 0) C dX11_keep_50 rfl rfl ?_
  refine gg_X11_fair (i := 3) C (by decide +kernel) rfl dX11_keep_51 ?_
  refine g_iload (i := 4) C dX11_keep_54 rfl ?_
  obtain ⟨r4, σ4, h4, hf9⟩ := ob_inv hf8
  clear hf8
  refine g_callVi C (c_X4_hasFit dec_isMkt_10 h4) (cwV 1 C.2.2.2.2.1 gX11_keep_X4_hasFit rfl rfl rfl (by decide +kernel) ⟨Nat.le_of_ble_eq_true rfl, Nat.le_of_ble_eq_true rfl⟩) (ob_X4 dec_isMkt_10) rfl rfl rfl rfl (Nat.le_of_ble_eq_true rfl) dX11_keep_56 ⟨Nat.zero_le _, Nat.zero_le _⟩ ?_
  rw [c_hasFit' hn hm hn4 hm4 s4] at h4
  obtain ⟨e4, es4⟩ := some_inv h4
  clear h4
  subst es4
  refine g_if_ne (tgt := 64) C dX11_keep_59 (by decide) rfl (fun c7 => ?_) (fun c7 => ?_)
  rotate_left
  · have hf10 := if_t c7 hf9
    refine g_iconst C dX11_keep_62 ?_
    exact g_iretW C hr hlk (some_inv hf10).1 (some_inv hf10).2 ⟨Nat.zero_le _, Nat.zero_le _⟩ dX11_keep_63
  have hf10 := if_f c7 hf9
  clear hf9
  obtain ⟨hb, hf11⟩ := if_inv hf10
  clear hf10
  obtain ⟨e5, e6⟩ := some_inv hf11
  clear hf11
  have hfit : 0 ≤ v4 ∧ v4 ≤ 2147483647 := by
    have w2 := s32_hi v4
    rw [s4] at w2
    refine ⟨?_, w2⟩
    by_cases z : isF n m' v4
    · exact z.1
    · rw [bi_f z] at e4
      rw [← e4] at c7
      exact absurd s32_0 c7
  rw [s3] at c5 c6 e6
  rw [hn, Int.toNat_natCast] at e6
  refine g_aload_n (i := 0) C dX11_keep_64 rfl rfl ?_
  refine gg_X11_shelves (i := 1) C (by decide +kernel) rfl dX11_keep_65 ?_
  refine g_iload_n (i := 1) C dX11_keep_68 rfl rfl ?_
  refine g_aaload C (Or.inl ⟨rfl, rfl, hb⟩) dX11_keep_69 rfl ?_
  refine g_iload_n (i := 3) C dX11_keep_70 rfl rfl ?_
  refine g_iload (i := 4) C dX11_keep_71 rfl ?_
  refine g_aload_n (i := 0) C dX11_keep_73 rfl rfl ?_
  refine gg_X11_fair (i := 3) C (by decide +kernel) rfl dX11_keep_74 ?_
  refine gg_X4_sorts (i := 4) C dec_isMkt_10 (by decide +kernel) rfl dX11_keep_77 ?_
  rw [hn]
  intro H locs ls hw hS hl
  obtain ⟨fa, hP, hD, hfo⟩ := id hw
  refine va_callr (va_runS (As := [.int (iI v3), .int (iI v4), .int (iI n)]) (rest := [.ref (ad (80 + 2 * s32 v1))]) ⟨C.1, C.2.1, C.2.2.1, C.2.2.2.1, C.2.2.2.2.1⟩ (cg_X11_fitOfKind (l := l) (D := D) (ca := ca) (A := fun x => H.size ≤ x) (k := v3) (fit := v4) (n := n) (by omega) hfit hn4) (va_cwS 3 C.2.2.2.2.1 gX11_keep_X11_fitOfKind rfl rfl rfl (by decide +kernel) ⟨Nat.le_of_ble_eq_true rfl, Nat.le_of_ble_eq_true rfl⟩) ⟨gp_blind, gp_now (locs := locs) C trivial (fun q h => h)⟩ rfl rfl hl.1 rfl (lv_room (Nat.le_of_ble_eq_true rfl)) dX11_keep_80 ⟨Nat.le_of_ble_eq_true rfl, Nat.le_of_ble_eq_true rfl⟩) hS (fun q h1 h2 => absurd h2 (Nat.not_le_of_lt h1)) (fun q h => C.2.2.2.2.2.2 q (Nat.le_trans hS.1 h)) ?_
  intro u ra t1 H1 locs1 ht1 hvm hp hB hz hk1 hS1
  rw [ht1] at hB
  have hra : H.size ≤ ra := hB.2.2 0 _ rfl
  have hP1 : va_P D vwCl (wl ca ad fa σ2) H1 := hP.kept (fun j x hx => hk1 x.1 ((hP j x hx).lt) (Nat.not_le_of_lt ((hP j x hx).lt)))
  refine (?_ : GW (WX D ca ad A σ2 (kc v3) ra (fitV v4 n)) p l e rm_X11_keep s m [Value.ref (ad 0), .int (iI v1), .int (iI v2), .int (iI v3), .int (iI v4)].toArray below meth c 5 A (0 + 1) (0 + 4) _ 83 [some (.ref (ad 0)), some (.int (iI v1)), some (.int (iI v2)), some (.int (iI v3)), some (.int (iI v4))] [.ref ra, .ref (ad (80 + 2 * s32 v1))]) H1 locs1 ls ⟨fa, ⟨hP1, hD, hfo⟩, hB.1, C.2.2.2.2.2.2 ra (Nat.le_trans hS.1 hra), fun x hx => by
    obtain ⟨j, hj⟩ := List.getElem?_of_mem hx
    exact Nat.ne_of_lt (Nat.lt_of_lt_of_le (hP j x hj).lt hra)⟩ hS1 hl
  clear hB hP1 hS1 hk1 hz ht1 hw hP hD hfo hS hl
  intro H locs ls hw hS hl
  obtain ⟨fa2, ⟨hP, hD, hfo⟩, hq, hqA, hne⟩ := id hw
  have ht := shf_of hb
  obtain ⟨q0, hq0⟩ := List.getElem?_of_mem (ob_X8 ht).1
  have he := wl_at (ca := ca) (ad := ad) (fa := fa2) (σ := σ2) hq0
  rw [(ob_X8 ht).2] at he
  have hrc := va_recv C.2.2.2.2.2.1 hP (show vwCl[8]? = some (RX8, TX8, 4) from rfl) he
  refine va_callv (va_runV (As := [.ref ra]) (rest := []) ⟨C.1, C.2.1, C.2.2.1, C.2.2.2.1, C.2.2.2.2.1⟩ (cg_X8_holdFit (l := l) (D := D) (ca := ca) (ad := ad) (A := A) (σ := σ2) (d := s32 v1) (k := v3) (n1 := v4) (n2 := jbc (ftM v4 n)) (n3 := ftA v4 n) (n4 := (n : Int)) (q := ra) hb) (cwV 1 C.2.2.2.2.1 gX11_keep_X8_holdFit rfl rfl rfl (by decide +kernel) ⟨Nat.le_of_ble_eq_true rfl, Nat.le_of_ble_eq_true rfl⟩) ⟨gp_blind, hrc, gp_now (locs := locs) C hw (fun q hq => C.2.2.2.2.2.2 q (Nat.le_trans hS.1 hq))⟩ rfl rfl hl.1 rfl (lv_room (Nat.le_of_ble_eq_true rfl)) dX11_keep_83 ⟨Nat.le_of_ble_eq_true rfl, Nat.le_of_ble_eq_true rfl⟩) hS (fun _ _ h => h) (fun _ h => h) ?_
  intro u t1 H1 locs1 ht1 hvm hp hB hz hk1 hS1
  rw [ht1] at hB
  refine (?_ : G p l e rm_X11_keep s m [Value.ref (ad 0), .int (iI v1), .int (iI v2), .int (iI v3), .int (iI v4)].toArray below meth c 5 D ca ad A (0 + 1 + 0) (0 + 4 + 0) _ (hfM σ2 (s32 v1) v3 v4 (jbc (ftM v4 n)) (ftA v4 n) n) 86 [some (.ref (ad 0)), some (.int (iI v1)), some (.int (iI v2)), some (.int (iI v3)), some (.int (iI v4))] []) H1 locs1 ls hB hS1 hl
  refine g_iconst C dX11_keep_86 ?_
  exact g_iretW C hr hlk e5 e6 ⟨Nat.le_of_ble_eq_true rfl, Nat.le_of_ble_eq_true rfl⟩ dX11_keep_87
end Gz
