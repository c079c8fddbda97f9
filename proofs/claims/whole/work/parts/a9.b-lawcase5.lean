/-! BY HAND 28: the law's turn of element -/
section Glc9
variable {p : Program} {l : Launch} {e : Env} {s : State} {m : MethodId} {below : List Frame} {meth : Method} {c : Code} {cells slots : Nat} {Q : State → Prop}
variable {D : va_G} {ca : Ca} {ad : Int → Nat} {A : Nat → Prop} {σ : Mem} {b L : Nat} {xs : Nat → Int32} {u : Int}
theorem nc_blind {vs : List Value} {W : State → Prop} (hW : FrameBlind (va_Pc vs W)) : FrameBlind (va_Pc vs (fun U => W U ∧ va_Nc ISE IAE U)) := fun a U g mk q => by
  obtain ⟨q0, q1, h1⟩ := q
  have w := hW a U g mk ⟨q0, q1⟩
  exact ⟨w.1, w.2, h1.moved (u := U) (U := U.calling g mk a) (Vm.Alike.refl U.vm)⟩
theorem law_c39 (C : Cx p s m [Value.ref b].toArray c cL_law 8 RL wsLw D ca A) (hX : va_X b L xs s s.heap) (hbl : b < s.heap.size) (hbA : ¬ A b) (hR : Rel σ) (hu : 0 ≤ u ∧ u + 5 < (L : Int)) (hL : L ≤ 384) (hcs : cells ≤ 600000 ∧ slots ≤ 7300000) (hst : l.stackTraces = false) {sb sc : Nat} (hTe : TrE A sb sc s) (hNc : va_Nc ISE IAE s) (kk : ∀ (σ' : Mem) (cells' slots' : Nat), Rel σ' → cells' ≤ cells + 1 → slots' ≤ slots + 6 → G p l e room_1 s m [Value.ref b].toArray below meth c 8 D ca ad A cells' slots' Q σ' 1842 (lvB b ad u) []) : G p l e room_1 s m [Value.ref b].toArray below meth c 8 D ca ad A cells slots Q σ 1652 (lvB b ad u) [] := by
  have hj1 : s32 (u + 1) = (((u + 1).toNat : Nat) : Int) := by rw [s32_of (by omega) (by omega)]; omega
  have hj2 : s32 (u + 2) = (((u + 2).toNat : Nat) : Int) := by rw [s32_of (by omega) (by omega)]; omega
  obtain ⟨v, hv0⟩ : ∃ v, v = (xs (u + 1).toNat).toInt := ⟨_, rfl⟩
  obtain ⟨w, hw0⟩ : ∃ w, w = (xs (u + 2).toNat).toInt := ⟨_, rfl⟩
  have hv : s32 v = v := by rw [hv0]; exact s32_ti _
  have hw : s32 w = w := by rw [hw0]; exact s32_ti _
  have hco : CO σ (elM σ v w) := by
    unfold elM
    split
    · exact CO.rf.up (by unfold scr; omega)
    · exact CO.rf
  have hR1 : Rel (elM σ v w) := hR.co hco
  have hek : elK (elM σ v w) v w = elK σ v w := by
    unfold elK
    rw [hco.row 124 (fun i => by unfold scr; omega), hco.row 126 (fun i => by unfold scr; omega)]
  obtain ⟨r, h2, h3⟩ := m_element2 hR1 hv hw
  rw [hek] at h2 h3
  have hR2 : Rel (ups (elM σ v w) 120 10 (elK σ v w)) := hR1.co (CO.rf.up (by unfold scr; omega))
  have hkr : s32 (elK σ v w) = elK σ v w := by
    unfold elK
    split
    · split <;> decide
    · decide
  refine g_aload_n (i := 1) C dL_law_1652 rfl rfl ?_
  refine g_arg C hX hbl hbA rfl rfl hj1 (by clear hj1 hj2; omega) dL_law_1653 dL_law_1654 dL_law_1656 dL_law_1657 dL_law_1658 ?_
  refine g_arg C hX hbl hbA rfl rfl hj2 (by clear hj1 hj2; omega) dL_law_1659 dL_law_1660 dL_law_1662 dL_law_1663 dL_law_1664 ?_
  rw [← hv0, ← hw0]
  refine g_aload_n (i := 3) C dL_law_1665 rfl rfl ?_
  intro H locs ls hw9 hS hl
  refine va_calli (vx_runSW (As := [.ref (ad 0), .int (iI v), .int (iI w), .ref (ad 132)]) (rest := []) ⟨C.1, C.2.1, C.2.2.1, C.2.2.2.1, C.2.2.2.2.1⟩ (mf_L_element (sa := sb) (sb := sc) (ca := ca) (ad := ad) (D := D) (A := A) hst hv hw hR.2.2.2) (vx_cwSW 4 C.2.2.2.2.1 (gLift gL_law_L_element) rfl rfl rfl (by decide +kernel) ⟨Nat.le_of_ble_eq_true rfl, Nat.le_of_ble_eq_true rfl⟩) ⟨nc_blind (trE_blind wd_blind), fun U hU hW => ⟨rfl, ⟨(wd_now (vs := [.ref (ad 0), .int (iI v), .int (iI w), .ref (ad 132)]) C hw9 hS U hU hW).2, trE_now hTe hS U hU hW⟩, hNc.moved hW.alike⟩⟩ rfl rfl hl.1 rfl (lv_room (Nat.le_of_ble_eq_true rfl)) dL_law_1666 ⟨Nat.le_trans (Nat.add_le_add_right hcs.1 _) (Nat.le_of_ble_eq_true rfl), Nat.le_trans (Nat.add_le_add_right hcs.2 _) (Nat.le_of_ble_eq_true rfl)⟩) hS (fun _ _ h => h) (fun _ h => h) ?_
  intro x9 u9 t1 H1 locs1 ht1 hvm hp hB hz hk1 hS1
  rw [ht1] at hB
  subst hp
  refine (?_ : G p l e room_1 s m [Value.ref b].toArray below meth c 8 D ca ad A (cells + 1) (slots + 6) Q (elM σ v w) 1669 (lvB b ad u) [.int (iI (elK σ v w))]) H1 locs1 ls hB hS1 hl
  clear hB hS1 hk1 hz ht1 hw9 hS hl
  refine g_istore (i := 5) C dL_law_1669 (by decide) rfl ?_
  refine g_aload_n (i := 2) C dL_law_1671 rfl rfl ?_
  refine g_arg C hX hbl hbA rfl rfl hj1 (by clear hj1 hj2; omega) dL_law_1672 dL_law_1673 dL_law_1675 dL_law_1676 dL_law_1677 ?_
  refine g_arg C hX hbl hbA rfl rfl hj2 (by clear hj1 hj2; omega) dL_law_1678 dL_law_1679 dL_law_1681 dL_law_1682 dL_law_1683 ?_
  rw [← hv0, ← hw0]
  refine g_callVl C (c_X12_element h2) (cwV 2 C.2.2.2.2.1 (gLift gL_law_X12_element) rfl rfl rfl (by decide +kernel) ⟨Nat.le_of_ble_eq_true rfl, Nat.le_of_ble_eq_true rfl⟩) ob_X12 rfl rfl rfl rfl (Nat.le_of_ble_eq_true rfl) dL_law_1684 ⟨Nat.le_trans (Nat.add_le_add_right hcs.1 _) (Nat.le_of_ble_eq_true rfl), Nat.le_trans (Nat.add_le_add_right hcs.2 _) (Nat.le_of_ble_eq_true rfl)⟩ ?_
  refine g_lstore (i := 6) C dL_law_1687 (by decide) rfl ?_
  refine g_aload_n (i := 2) C dL_law_1689 rfl rfl ?_
  refine g_callVi C (c_X12_thrown (σ := ups (elM σ v w) 120 10 (elK σ v w)) (r0 := elK σ v w) (σ0 := ups (elM σ v w) 120 10 (elK σ v w)) (by unfold f_X12_thrown; rw [ups_at])) (cwV 0 C.2.2.2.2.1 (gLift gL_law_X12_thrown) rfl rfl rfl (by decide +kernel) ⟨Nat.le_of_ble_eq_true rfl, Nat.le_of_ble_eq_true rfl⟩) ob_X12 rfl rfl rfl rfl (Nat.le_of_ble_eq_true rfl) dL_law_1690 ⟨Nat.le_trans (Nat.add_le_add_right hcs.1 _) (Nat.le_of_ble_eq_true rfl), Nat.le_trans (Nat.add_le_add_right hcs.2 _) (Nat.le_of_ble_eq_true rfl)⟩ ?_
  refine g_iload (i := 5) C dL_law_1693 rfl ?_
  refine g_icmp_eq (tgt := 1700) C dL_law_1695 (by decide) rfl rfl (fun _ => ?_) (fun z => absurd rfl z)
  have hend : G p l e room_1 s m [Value.ref b].toArray below meth c 8 D ca ad A (cells + 1) (slots + 6) Q (ups (elM σ v w) 120 10 (elK σ v w)) 1716 ((((lvB b ad u).set 5 (some (.int (iI (elK σ v w))))).set 6 (some (.long (lI r)))).set 7 none) [] := by
    refine g_goto (tgt := 1842) C dL_law_1716 (by decide) ?_
    refine g_mask [true, true, true, true, true, false, false, false] ?_
    exact kk _ _ _ hR2 (Nat.le_refl _) (Nat.le_refl _)
  refine g_iload (i := 5) C dL_law_1700 rfl ?_
  refine g_if_ne (tgt := 1716) C dL_law_1702 (by decide) rfl (fun _ => hend) (fun z => ?_)
  rw [hkr] at z
  refine g_aload_n (i := 3) C dL_law_1705 rfl rfl ?_
  refine g_iconst C dL_law_1706 ?_
  refine g_laload (N := 1) (j := 0) C kL_out dL_law_1707 (by decide) (by decide) ?_
  refine g_lload (i := 6) C dL_law_1708 rfl ?_
  have hvr : 0 ≤ v ∧ v ≤ 7 := by
    by_cases y : 0 ≤ v ∧ v ≤ 7
    · exact y
    · unfold elK at z
      rw [if_neg y] at z
      exact absurd z (by decide)
  have hne : 81 + 2 * v ≠ 132 := by clear hv hw; omega
  have h8 := h3 z
  rw [elM_t z, ups_ne hne] at h8
  have h9 := h8.2
  unfold inI at h9
  have hval : ups (elM σ v w) 120 10 (elK σ v w) 132 0 = r := by
    rw [ups_ne (show (132 : Int) ≠ 120 by decide), elM_t z, ups_at, show 80 + 2 * v + 1 = 81 + 2 * v by clear hv hw; omega, ← h8.1]
    exact s32_of h9.1 h9.2
  rw [hval]
  exact g_lcmp_eq (tgt := 1716) C dL_law_1710 dL_law_1711 (by decide) rfl rfl (fun _ => hend) (fun z => absurd rfl z)
end Glc9
