/-! THE LAW: its loop and its start -/
/-! THE CLAIM OUT OF ONE WALK OF THE LAW'S BODY. Your part is whole_start (and what it stands on); all else here is the same for every law, but numbers. -/
def R_law : String := "FurrowFairLaw"
def lw_P (b : Addr) (xs : List Int32) (args : Array Value) (s : State) : Prop := args = #[.ref b] ∧ s.IntsAt b xs ∧ xs.length ≤ 384 ∧ (Jvm.Cond.and given_1 narrow_1).before args s = true
def lw_Q (_ : Array Value) (s : State) (o : Outcome) (t : State) : Prop := o = .returned (some (.int 1)) ∧ Framed s o t [] 600128 7301098
def lw_Z (below : List Frame) (a : Array Value) (s : State) : State → Prop := fun t => ∃ o, t.status = .running ∧ Ended t below o ∧ lw_Q a s o t
/-- the law's own end, with 1 on the stack, nothing written that was there before, its room as the claim has it -/
theorem lw_ret {p : Program} {l : Launch} {e : Env} {s : State} {m : MethodId} {below : List Frame} {meth : Method} {c : Code} {b : Nat} (hx : p.tables.exec = Jvm.exec) (hb : c.code = code) (hr : meth.sig.returnType = ret) (hlocks : meth.locks = false) {pc : Nat} {H : Heap} {ls : Array Slot} (hdg : decode code pc = .ok (.ireturn, 1)) : W p l e room_1 s m #[Value.ref b] below meth c H [] 600128 7301098 (lw_Z below #[Value.ref b] s) (F0 m pc ls [.int 1]) := by
  intro T hT X
  obtain ⟨fs, hret, hrun, hended, hW, hframe⟩ := X.leave (v := some (.int 1)) (hlocks := hlocks) (fun h => by rw [hr] at h; cases h)
  have hmeth' : T.vm.method? m = some meth := X.method'
  refine ⟨T.setFrames fs, ?_, .returned (some (.int 1)), hrun, hended, rfl, ⟨_, rfl⟩, hW, hframe⟩
  jvm_step X.here [X.here.top, hx, hb, hdg, hmeth', hr, ret, narrow_b1]
  (try refine ⟨rfl, ?_⟩); (try refine ⟨rfl, ?_⟩)
  first | (intro acts; rw [hret _ acts rfl rfl rfl]) | rw [hret _ _ rfl rfl rfl]
  exact Steps.refl _
/-- what holds at the law's entry: the machine, the code, the tables' words (any of lw_tbl by 'hts w (by decide +kernel)'), the script of L ints xs at the cell b, what the Statement gives of the start (any of its parts by flat_of_before) -/
def lw_At (p : Program) (s : State) (m : MethodId) (meth : Method) (c : Code) (b L : Nat) (xs : Nat → Int32) : Prop :=
  p.tables.exec = Jvm.exec ∧ c.code = code ∧ meth.sig.returnType = ret ∧ c.maxLocals = 8 ∧ s.vm.findClass R_law = some m.cls ∧ (∀ w ∈ lw_tbl, w.before #[Value.ref b] s = true) ∧ va_X b L xs s s.heap ∧ b < s.heap.size ∧ meth.locks = false ∧ (Jvm.Cond.and given_1 narrow_1).before #[Value.ref b] s = true
theorem bad_x0 : ∀ w ∈ (vx_atS RX11 310 IAE ["java/lang/RuntimeException", "java/lang/Exception"]).filter (fun w => !goodWord w), w ∈ lw_tbl ∧ w.onTables = true := by decide +kernel
theorem bad_x1 : ∀ w ∈ (vx_atS RX11 317 ISE ["java/lang/RuntimeException", "java/lang/Exception"]).filter (fun w => !goodWord w), w ∈ lw_tbl ∧ w.onTables = true := by decide +kernel
theorem bad_x2 : ∀ w ∈ (vx_atS RX2 38 ISE ["java/lang/RuntimeException", "java/lang/Exception"]).filter (fun w => !goodWord w), w ∈ lw_tbl ∧ w.onTables = true := by decide +kernel
theorem tr_of {A : Nat → Prop} {own text cls : String} {k ic : Nat} {s : State} {args : Array Value} (hts : ∀ w ∈ lw_tbl, w.before args s = true) (hgv : (Jvm.Cond.and given_1 narrow_1).before args s = true) (hA : ∀ a : Nat, a < s.heap.size → ¬ A a) (h1 : Cond.stringRef own k text ∈ lw_tbl) (h2 : Cond.exactly (.string own k) "java/lang/String" ∈ flatC (Jvm.Cond.and given_1 narrow_1)) (hbad : ∀ w ∈ (vx_atS own ic cls ["java/lang/RuntimeException", "java/lang/Exception"]).filter (fun w => !goodWord w), w ∈ lw_tbl ∧ w.onTables = true) : ∃ sa, TrW A own text cls k ic sa s := by
  have hs := flat_of_before _ hgv
  have hm : ∀ {w : Cond} (i : Nat), tables_1[i]? = some w → w.before args s = true := fun i h => hts _ (List.mem_append_right _ (List.mem_of_getElem? h))
  obtain ⟨sa, -, -, -, he, -⟩ := Cond.exactly_spec (hs _ h2)
  refine ⟨sa, ?_, ?_, vk_R.of (hts _ h1) he, fun w hw => va_Nw.of (hbad w hw).2 (hts w (hbad w hw).1)⟩
  · exact vx_Zqof (hm 959 (by decide +kernel)) (hm 18 (by decide +kernel)) (hs _ (by decide +kernel)) hA
  · exact vx_Zqof (hm 961 (by decide +kernel)) (hm 18 (by decide +kernel)) (hs _ (by decide +kernel)) hA
section Gll
variable {p : Program} {l : Launch} {e : Env} {s : State} {m : MethodId} {below : List Frame} {meth : Method} {c : Code}
variable {D : va_G} {ca : Ca} {ad : Int → Nat} {b L : Nat} {xs : Nat → Int32}
set_option maxHeartbeats 4000000 in
set_option maxRecDepth 100000 in
theorem law_loop {A : Nat → Prop} (hAA : ∀ q, A q → s.heap.size ≤ q) (C : Cx p s m [Value.ref b].toArray c cL_law 8 RL wsLw D ca A) (hX : va_X b L xs s s.heap) (hbl : b < s.heap.size) (hbA : ¬ A b) (hL : L ≤ 384) (hst : l.stackTraces = false) {sa sb sc : Nat} (hTr : TrW A RX2 "the fit fails" ISE 36 38 sa s) (hTe : TrE A sb sc s) (hNc : va_Nc ISE IAE s) (hr : meth.sig.returnType = ret) (hlk : meth.locks = false) :
    ∀ (n : Nat) (u : Int) (σ : Mem) (cells slots : Nat), Rel σ → 0 ≤ u ∧ u ≤ 400 → (L : Int) - 6 < u + 6 * n → cells + n ≤ 600000 → slots + 6 * n ≤ 7300000 →
      G p l e room_1 s m [Value.ref b].toArray below meth c 8 D ca ad A cells slots (lw_Z below #[Value.ref b] s) σ 23 (lvB b ad u) [] := by
  intro n
  induction n with
  | zero =>
    intro u σ cells slots hR hu hn hc hsl
    refine g_iload (i := 4) C dL_law_23 rfl ?_
    refine g_aload_n (i := 0) C dL_law_25 rfl rfl ?_
    refine g_slen C hX hbl hbA dL_law_26 ?_
    refine g_bipush C dL_law_27 (by decide) ?_
    refine g_isub C dL_law_29 ?_
    refine g_icmp_gt (tgt := 1848) (a' := u) (b' := (L : Int) - 6) C dL_law_30 (by decide) (s32_of (by omega) (by omega)) (s32_of (by omega) (by omega)) (fun _ => ?_) (fun z => absurd hn (by omega))
    refine g_iconst C dL_law_1848 ?_
    intro H locs ls hw hS hl
    rw [show iI 1 = 1 from by decide]
    exact va_forget (fun q hq => hAA _ (hS.2.2 q hq)) (W.widen (Nat.le_trans (Nat.le_trans (Nat.le_add_right _ _) hc) (Nat.le_of_ble_eq_true rfl)) (Nat.le_trans (Nat.le_trans (Nat.le_add_right _ _) hsl) (Nat.le_of_ble_eq_true rfl)) (lw_ret C.1 C.2.1 hr hlk dL_law_1849))
  | succ n ih =>
    intro u σ cells slots hR hu hn hc hsl
    refine g_iload (i := 4) C dL_law_23 rfl ?_
    refine g_aload_n (i := 0) C dL_law_25 rfl rfl ?_
    refine g_slen C hX hbl hbA dL_law_26 ?_
    refine g_bipush C dL_law_27 (by decide) ?_
    refine g_isub C dL_law_29 ?_
    refine g_icmp_gt (tgt := 1848) (a' := u) (b' := (L : Int) - 6) C dL_law_30 (by decide) (s32_of (by omega) (by omega)) (s32_of (by omega) (by omega)) (fun _ => ?_) (fun z => ?_)
    · refine g_iconst C dL_law_1848 ?_
      intro H locs ls hw hS hl
      rw [show iI 1 = 1 from by decide]
      exact va_forget (fun q hq => hAA _ (hS.2.2 q hq)) (W.widen (Nat.le_trans (Nat.le_trans (Nat.le_add_right _ _) hc) (Nat.le_of_ble_eq_true rfl)) (Nat.le_trans (Nat.le_trans (Nat.le_add_right _ _) hsl) (Nat.le_of_ble_eq_true rfl)) (lw_ret C.1 C.2.1 hr hlk dL_law_1849))
    have hj0 : s32 u = ((u.toNat : Nat) : Int) := by rw [s32_of (by omega) (by omega)]; omega
    have hu5 : 0 ≤ u ∧ u + 5 < (L : Int) := by clear hj0; omega
    have hcs : cells ≤ 600000 ∧ slots ≤ 7300000 := by clear hj0; omega
    refine g_arg0 C hX hbl hbA rfl rfl hj0 (by clear hj0; omega) dL_law_33 dL_law_34 dL_law_36 ?_
    clear hj0
    refine g_bipush C dL_law_37 (by decide) ?_
    refine g_iand C dL_law_39 ?_
    have turn : ∀ (σ' : Mem) (cells' slots' : Nat), Rel σ' → cells' ≤ cells + 1 → slots' ≤ slots + 6 → G p l e room_1 s m [Value.ref b].toArray below meth c 8 D ca ad A cells' slots' (lw_Z below #[Value.ref b] s) σ' 1842 (lvB b ad u) [] := by
      intro σ' cells' slots' hR' hc' hs'
      refine g_iinc (i := 4) (z := u) C dL_law_1842 rfl (by decide) rfl ?_
      refine g_goto (tgt := 23) C dL_law_1845 (by decide) ?_
      exact ih (u + 6) σ' cells' slots' hR' (by omega) (by omega) (by omega) (by omega)
    generalize and32 ((xs u.toNat).toInt) 63 = y
    by_cases hk : 0 ≤ s32 y ∧ s32 y ≤ 42
    · obtain ⟨d, hd, hd2⟩ : ∃ d : Nat, d < 43 ∧ s32 y = d := ⟨(s32 y).toNat, by omega, by omega⟩
      clear hk
      match d, hd, hd2 with
      | 0, _, h9 => exact g_tsIn (tgt := 228) (j := 0) C dL_law_40 h9 (by decide) (by decide) rfl (by decide) (law_c0 C hX hbl hbA hR hu5 hL hcs turn)
      | 1, _, h9 => exact g_tsIn (tgt := 253) (j := 1) C dL_law_40 h9 (by decide) (by decide) rfl (by decide) (law_c1 C hX hbl hbA hR hu5 hL hcs turn)
      | 2, _, h9 => exact g_tsIn (tgt := 290) (j := 2) C dL_law_40 h9 (by decide) (by decide) rfl (by decide) (law_c2 C hX hbl hbA hR hu5 hL hcs turn)
      | 3, _, h9 => exact g_tsIn (tgt := 327) (j := 3) C dL_law_40 h9 (by decide) (by decide) rfl (by decide) (law_c3 C hX hbl hbA hR hu5 hL hcs turn)
      | 4, _, h9 => exact g_tsIn (tgt := 376) (j := 4) C dL_law_40 h9 (by decide) (by decide) rfl (by decide) (law_c4 C hX hbl hbA hR hu5 hL hcs turn)
      | 5, _, h9 => exact g_tsIn (tgt := 425) (j := 5) C dL_law_40 h9 (by decide) (by decide) rfl (by decide) (law_c5 C hX hbl hbA hR hu5 hL hcs turn)
      | 6, _, h9 => exact g_tsIn (tgt := 462) (j := 6) C dL_law_40 h9 (by decide) (by decide) rfl (by decide) (law_c6 C hX hbl hbA hR hu5 hL hcs turn)
      | 7, _, h9 => exact g_tsIn (tgt := 512) (j := 7) C dL_law_40 h9 (by decide) (by decide) rfl (by decide) (law_c7 C hX hbl hbA hR hu5 hL hcs turn)
      | 8, _, h9 => exact g_tsIn (tgt := 562) (j := 8) C dL_law_40 h9 (by decide) (by decide) rfl (by decide) (law_c8 C hX hbl hbA hR hu5 hL hcs turn)
      | 9, _, h9 => exact g_tsIn (tgt := 587) (j := 9) C dL_law_40 h9 (by decide) (by decide) rfl (by decide) (law_c9 C hX hbl hbA hR hu5 hL hcs turn)
      | 10, _, h9 => exact g_tsIn (tgt := 612) (j := 10) C dL_law_40 h9 (by decide) (by decide) rfl (by decide) (law_c10 C hX hbl hbA hR hu5 hL hcs turn)
      | 11, _, h9 => exact g_tsIn (tgt := 637) (j := 11) C dL_law_40 h9 (by decide) (by decide) rfl (by decide) (law_c11 C hX hbl hbA hR hu5 hL hcs turn)
      | 12, _, h9 => exact g_tsIn (tgt := 662) (j := 12) C dL_law_40 h9 (by decide) (by decide) rfl (by decide) (law_c12 C hX hbl hbA hR hu5 hL hcs turn)
      | 13, _, h9 => exact g_tsIn (tgt := 711) (j := 13) C dL_law_40 h9 (by decide) (by decide) rfl (by decide) (law_c13 C hX hbl hbA hR hu5 hL hcs turn)
      | 14, _, h9 => exact g_tsIn (tgt := 773) (j := 14) C dL_law_40 h9 (by decide) (by decide) rfl (by decide) (law_c14 C hX hbl hbA hR hu5 hL hcs turn)
      | 15, _, h9 => exact g_tsIn (tgt := 786) (j := 15) C dL_law_40 h9 (by decide) (by decide) rfl (by decide) (law_c15 C hX hbl hbA hR hu5 hL hcs turn)
      | 16, _, h9 => exact g_tsIn (tgt := 811) (j := 16) C dL_law_40 h9 (by decide) (by decide) rfl (by decide) (law_c16 C hX hbl hbA hR hu5 hL hcs turn)
      | 17, _, h9 => exact g_tsIn (tgt := 836) (j := 17) C dL_law_40 h9 (by decide) (by decide) rfl (by decide) (law_c17 C hX hbl hbA hR hu5 hL hcs turn)
      | 18, _, h9 => exact g_tsIn (tgt := 898) (j := 18) C dL_law_40 h9 (by decide) (by decide) rfl (by decide) (law_c18 C hX hbl hbA hR hu5 hL hcs turn)
      | 19, _, h9 => exact g_tsIn (tgt := 935) (j := 19) C dL_law_40 h9 (by decide) (by decide) rfl (by decide) (law_c19 C hX hbl hbA hR hu5 hL hcs turn)
      | 20, _, h9 => exact g_tsIn (tgt := 960) (j := 20) C dL_law_40 h9 (by decide) (by decide) rfl (by decide) (law_c20 C hX hbl hbA hR hu5 hL hcs turn)
      | 21, _, h9 => exact g_tsIn (tgt := 985) (j := 21) C dL_law_40 h9 (by decide) (by decide) rfl (by decide) (law_c21 C hX hbl hbA hR hu5 hL hcs turn)
      | 22, _, h9 => exact g_tsIn (tgt := 1022) (j := 22) C dL_law_40 h9 (by decide) (by decide) rfl (by decide) (law_c22 C hX hbl hbA hR hu5 hL hcs turn)
      | 23, _, h9 => exact g_tsIn (tgt := 1047) (j := 23) C dL_law_40 h9 (by decide) (by decide) rfl (by decide) (law_c23 C hX hbl hbA hR hu5 hL hcs turn)
      | 24, _, h9 => exact g_tsIn (tgt := 1072) (j := 24) C dL_law_40 h9 (by decide) (by decide) rfl (by decide) (law_c24 C hX hbl hbA hR hu5 hL hcs turn)
      | 25, _, h9 => exact g_tsIn (tgt := 1121) (j := 25) C dL_law_40 h9 (by decide) (by decide) rfl (by decide) (law_c25 C hX hbl hbA hR hu5 hL hcs turn)
      | 26, _, h9 => exact g_tsIn (tgt := 1182) (j := 26) C dL_law_40 h9 (by decide) (by decide) rfl (by decide) (law_c26 C hX hbl hbA hR hu5 hL hcs turn)
      | 27, _, h9 => exact g_tsIn (tgt := 1207) (j := 27) C dL_law_40 h9 (by decide) (by decide) rfl (by decide) (law_c27 C hX hbl hbA hR hu5 hL hcs turn)
      | 28, _, h9 => exact g_tsIn (tgt := 1269) (j := 28) C dL_law_40 h9 (by decide) (by decide) rfl (by decide) (law_c28 C hX hbl hbA hR hu5 hL hcs turn)
      | 29, _, h9 => exact g_tsIn (tgt := 1306) (j := 29) C dL_law_40 h9 (by decide) (by decide) rfl (by decide) (law_c29 C hX hbl hbA hR hu5 hL hcs turn)
      | 30, _, h9 => exact g_tsIn (tgt := 1343) (j := 30) C dL_law_40 h9 (by decide) (by decide) rfl (by decide) (law_c30 C hX hbl hbA hR hu5 hL hcs turn)
      | 31, _, h9 => exact g_tsIn (tgt := 1392) (j := 31) C dL_law_40 h9 (by decide) (by decide) rfl (by decide) (law_c31 C hX hbl hbA hR hu5 hL hcs turn)
      | 32, _, h9 => exact g_tsIn (tgt := 1429) (j := 32) C dL_law_40 h9 (by decide) (by decide) rfl (by decide) (law_c32 C hX hbl hbA hR hu5 hL hcs turn)
      | 33, _, h9 => exact g_tsIn (tgt := 1442) (j := 33) C dL_law_40 h9 (by decide) (by decide) rfl (by decide) (law_c33 C hX hbl hbA hR hu5 hL hcs turn)
      | 34, _, h9 => exact g_tsIn (tgt := 1455) (j := 34) C dL_law_40 h9 (by decide) (by decide) rfl (by decide) (law_c34 C hX hbl hbA hR hu5 hL hcs turn)
      | 35, _, h9 => exact g_tsIn (tgt := 1468) (j := 35) C dL_law_40 h9 (by decide) (by decide) rfl (by decide) (law_c35 C hX hbl hbA hR hu5 hL hcs turn)
      | 36, _, h9 => exact g_tsIn (tgt := 1493) (j := 36) C dL_law_40 h9 (by decide) (by decide) rfl (by decide) (law_c36 C hX hbl hbA hR hu5 hL hcs turn)
      | 37, _, h9 => exact g_tsIn (tgt := 1554) (j := 37) C dL_law_40 h9 (by decide) (by decide) rfl (by decide) (law_c37 C hX hbl hbA hR hu5 hL hcs turn)
      | 38, _, h9 => exact g_tsIn (tgt := 1603) (j := 38) C dL_law_40 h9 (by decide) (by decide) rfl (by decide) (law_c38 C hX hbl hbA hR hu5 hL hcs turn)
      | 39, _, h9 => exact g_tsIn (tgt := 1652) (j := 39) C dL_law_40 h9 (by decide) (by decide) rfl (by decide) (law_c39 C hX hbl hbA hR hu5 hL hcs hst hTe hNc turn)
      | 40, _, h9 => exact g_tsIn (tgt := 1719) (j := 40) C dL_law_40 h9 (by decide) (by decide) rfl (by decide) (law_c40 C hX hbl hbA hR hu5 hL hcs turn)
      | 41, _, h9 => exact g_tsIn (tgt := 1792) (j := 41) C dL_law_40 h9 (by decide) (by decide) rfl (by decide) (law_c41 C hX hbl hbA hR hu5 hL hcs turn)
      | 42, _, h9 => exact g_tsIn (tgt := 1817) (j := 42) C dL_law_40 h9 (by decide) (by decide) rfl (by decide) (law_c42 C hX hbl hbA hR hu5 hL hcs hst hTr turn)
      | d + 43, h8, _ => exact absurd h8 (by omega)
    · exact g_tsOut (tgt := 1842) C dL_law_40 (by omega) (by decide) (turn σ cells slots hR (Nat.le_succ _) (Nat.le_add_right _ _))
end Gll
