/-! BY HAND 27: the law's turns, 2 -/
section Glc1
variable {p : Program} {l : Launch} {e : Env} {s : State} {m : MethodId} {below : List Frame} {meth : Method} {c : Code} {cells slots : Nat} {Q : State → Prop}
variable {D : va_G} {ca : Ca} {ad : Int → Nat} {A : Nat → Prop} {σ : Mem} {b L : Nat} {xs : Nat → Int32} {u : Int}
theorem law_c12 (C : Cx p s m [Value.ref b].toArray c cL_law 8 RL wsLw D ca A) (hX : va_X b L xs s s.heap) (hbl : b < s.heap.size) (hbA : ¬ A b) (hR : Rel σ) (hu : 0 ≤ u ∧ u + 5 < (L : Int)) (hL : L ≤ 384) (hcs : cells ≤ 600000 ∧ slots ≤ 7300000) (kk : ∀ (σ' : Mem) (cells' slots' : Nat), Rel σ' → cells' ≤ cells + 1 → slots' ≤ slots + 6 → G p l e room_1 s m [Value.ref b].toArray below meth c 8 D ca ad A cells' slots' Q σ' 1842 (lvB b ad u) []) : G p l e room_1 s m [Value.ref b].toArray below meth c 8 D ca ad A cells slots Q σ 662 (lvB b ad u) [] := by
  have hj1 : s32 (u + 1) = (((u + 1).toNat : Nat) : Int) := by rw [s32_of (by omega) (by omega)]; omega
  have hj2 : s32 (u + 2) = (((u + 2).toNat : Nat) : Int) := by rw [s32_of (by omega) (by omega)]; omega
  have hj3 : s32 (u + 3) = (((u + 3).toNat : Nat) : Int) := by rw [s32_of (by omega) (by omega)]; omega
  obtain ⟨r, σ1, σ2, h1, h2, hR2⟩ := op_barred hR (s32_ti (xs (u + 1).toNat)) (s32_ti (xs (u + 2).toNat)) (s32_ti (xs (u + 3).toNat))
  refine g_aload_n (i := 1) C dL_law_662 rfl rfl ?_
  refine g_arg C hX hbl hbA rfl rfl hj1 (by clear hj1 hj2 hj3; omega) dL_law_663 dL_law_664 dL_law_666 dL_law_667 dL_law_668 ?_
  refine g_arg C hX hbl hbA rfl rfl hj2 (by clear hj1 hj2 hj3; omega) dL_law_669 dL_law_670 dL_law_672 dL_law_673 dL_law_674 ?_
  refine g_arg C hX hbl hbA rfl rfl hj3 (by clear hj1 hj2 hj3; omega) dL_law_675 dL_law_676 dL_law_678 dL_law_679 dL_law_680 ?_
  refine g_callVi C (c_X11_barred h1) (cwV 3 C.2.2.2.2.1 (gLift gL_law_X11_barred) rfl rfl rfl (by decide +kernel) ⟨Nat.le_of_ble_eq_true rfl, Nat.le_of_ble_eq_true rfl⟩) ob_X11 rfl rfl rfl rfl (Nat.le_of_ble_eq_true rfl) dL_law_681 ⟨Nat.le_trans hcs.1 (Nat.le_of_ble_eq_true rfl), Nat.le_trans hcs.2 (Nat.le_of_ble_eq_true rfl)⟩ ?_
  refine g_aload_n (i := 2) C dL_law_684 rfl rfl ?_
  refine g_arg C hX hbl hbA rfl rfl hj1 (by clear hj1 hj2 hj3; omega) dL_law_685 dL_law_686 dL_law_688 dL_law_689 dL_law_690 ?_
  refine g_arg C hX hbl hbA rfl rfl hj2 (by clear hj1 hj2 hj3; omega) dL_law_691 dL_law_692 dL_law_694 dL_law_695 dL_law_696 ?_
  refine g_arg C hX hbl hbA rfl rfl hj3 (by clear hj1 hj2 hj3; omega) dL_law_697 dL_law_698 dL_law_700 dL_law_701 dL_law_702 ?_
  refine g_callVi C (c_X12_barred h2) (cwV 3 C.2.2.2.2.1 (gLift gL_law_X12_barred) rfl rfl rfl (by decide +kernel) ⟨Nat.le_of_ble_eq_true rfl, Nat.le_of_ble_eq_true rfl⟩) ob_X12 rfl rfl rfl rfl (Nat.le_of_ble_eq_true rfl) dL_law_703 ⟨Nat.le_trans hcs.1 (Nat.le_of_ble_eq_true rfl), Nat.le_trans hcs.2 (Nat.le_of_ble_eq_true rfl)⟩ ?_
  exact g_icmp_eq (tgt := 1842) C dL_law_706 (by decide) rfl rfl (fun _ => kk _ _ _ hR2 (Nat.le_succ _) (Nat.le_add_right _ _)) (fun z => absurd rfl z)
theorem law_c13 (C : Cx p s m [Value.ref b].toArray c cL_law 8 RL wsLw D ca A) (hX : va_X b L xs s s.heap) (hbl : b < s.heap.size) (hbA : ¬ A b) (hR : Rel σ) (hu : 0 ≤ u ∧ u + 5 < (L : Int)) (hL : L ≤ 384) (hcs : cells ≤ 600000 ∧ slots ≤ 7300000) (kk : ∀ (σ' : Mem) (cells' slots' : Nat), Rel σ' → cells' ≤ cells + 1 → slots' ≤ slots + 6 → G p l e room_1 s m [Value.ref b].toArray below meth c 8 D ca ad A cells' slots' Q σ' 1842 (lvB b ad u) []) : G p l e room_1 s m [Value.ref b].toArray below meth c 8 D ca ad A cells slots Q σ 711 (lvB b ad u) [] := by
  have hj1 : s32 (u + 1) = (((u + 1).toNat : Nat) : Int) := by rw [s32_of (by omega) (by omega)]; omega
  have hj2 : s32 (u + 2) = (((u + 2).toNat : Nat) : Int) := by rw [s32_of (by omega) (by omega)]; omega
  have hj3 : s32 (u + 3) = (((u + 3).toNat : Nat) : Int) := by rw [s32_of (by omega) (by omega)]; omega
  have hj4 : s32 (u + 4) = (((u + 4).toNat : Nat) : Int) := by rw [s32_of (by omega) (by omega)]; omega
  obtain ⟨r, σ1, σ2, h1, h2, hR2⟩ := op_lots hR (s32_ti (xs (u + 1).toNat)) (s32_ti (xs (u + 2).toNat)) (s32_ti (xs (u + 3).toNat)) (s32_ti (xs (u + 4).toNat))
  refine g_aload_n (i := 1) C dL_law_711 rfl rfl ?_
  refine g_arg C hX hbl hbA rfl rfl hj1 (by clear hj1 hj2 hj3 hj4; omega) dL_law_712 dL_law_713 dL_law_715 dL_law_716 dL_law_717 ?_
  refine g_arg C hX hbl hbA rfl rfl hj2 (by clear hj1 hj2 hj3 hj4; omega) dL_law_718 dL_law_719 dL_law_721 dL_law_722 dL_law_723 ?_
  refine g_arg C hX hbl hbA rfl rfl hj3 (by clear hj1 hj2 hj3 hj4; omega) dL_law_724 dL_law_725 dL_law_727 dL_law_728 dL_law_729 ?_
  refine g_arg C hX hbl hbA rfl rfl hj4 (by clear hj1 hj2 hj3 hj4; omega) dL_law_730 dL_law_731 dL_law_733 dL_law_734 dL_law_735 ?_
  refine g_callVl C (c_X11_lots h1) (cwV 4 C.2.2.2.2.1 (gLift gL_law_X11_lots) rfl rfl rfl (by decide +kernel) ⟨Nat.le_of_ble_eq_true rfl, Nat.le_of_ble_eq_true rfl⟩) ob_X11 rfl rfl rfl rfl (Nat.le_of_ble_eq_true rfl) dL_law_736 ⟨Nat.le_trans hcs.1 (Nat.le_of_ble_eq_true rfl), Nat.le_trans hcs.2 (Nat.le_of_ble_eq_true rfl)⟩ ?_
  refine g_aload_n (i := 2) C dL_law_739 rfl rfl ?_
  refine g_arg C hX hbl hbA rfl rfl hj1 (by clear hj1 hj2 hj3 hj4; omega) dL_law_740 dL_law_741 dL_law_743 dL_law_744 dL_law_745 ?_
  refine g_arg C hX hbl hbA rfl rfl hj2 (by clear hj1 hj2 hj3 hj4; omega) dL_law_746 dL_law_747 dL_law_749 dL_law_750 dL_law_751 ?_
  refine g_arg C hX hbl hbA rfl rfl hj3 (by clear hj1 hj2 hj3 hj4; omega) dL_law_752 dL_law_753 dL_law_755 dL_law_756 dL_law_757 ?_
  refine g_arg C hX hbl hbA rfl rfl hj4 (by clear hj1 hj2 hj3 hj4; omega) dL_law_758 dL_law_759 dL_law_761 dL_law_762 dL_law_763 ?_
  refine g_callVl C (c_X12_lots h2) (cwV 4 C.2.2.2.2.1 (gLift gL_law_X12_lots) rfl rfl rfl (by decide +kernel) ⟨Nat.le_of_ble_eq_true rfl, Nat.le_of_ble_eq_true rfl⟩) ob_X12 rfl rfl rfl rfl (Nat.le_of_ble_eq_true rfl) dL_law_764 ⟨Nat.le_trans hcs.1 (Nat.le_of_ble_eq_true rfl), Nat.le_trans hcs.2 (Nat.le_of_ble_eq_true rfl)⟩ ?_
  exact g_lcmp_eq (tgt := 1842) C dL_law_767 dL_law_768 (by decide) rfl rfl (fun _ => kk _ _ _ hR2 (Nat.le_succ _) (Nat.le_add_right _ _)) (fun z => absurd rfl z)
theorem law_c14 (C : Cx p s m [Value.ref b].toArray c cL_law 8 RL wsLw D ca A) (hX : va_X b L xs s s.heap) (hbl : b < s.heap.size) (hbA : ¬ A b) (hR : Rel σ) (hu : 0 ≤ u ∧ u + 5 < (L : Int)) (hL : L ≤ 384) (hcs : cells ≤ 600000 ∧ slots ≤ 7300000) (kk : ∀ (σ' : Mem) (cells' slots' : Nat), Rel σ' → cells' ≤ cells + 1 → slots' ≤ slots + 6 → G p l e room_1 s m [Value.ref b].toArray below meth c 8 D ca ad A cells' slots' Q σ' 1842 (lvB b ad u) []) : G p l e room_1 s m [Value.ref b].toArray below meth c 8 D ca ad A cells slots Q σ 773 (lvB b ad u) [] := by
  obtain ⟨r, σ1, σ2, h1, h2, hR2⟩ := op_apart hR
  refine g_aload_n (i := 1) C dL_law_773 rfl rfl ?_
  refine g_callVi C (c_X11_apart h1) (cwV 0 C.2.2.2.2.1 (gLift gL_law_X11_apart) rfl rfl rfl (by decide +kernel) ⟨Nat.le_of_ble_eq_true rfl, Nat.le_of_ble_eq_true rfl⟩) ob_X11 rfl rfl rfl rfl (Nat.le_of_ble_eq_true rfl) dL_law_774 ⟨Nat.le_trans hcs.1 (Nat.le_of_ble_eq_true rfl), Nat.le_trans hcs.2 (Nat.le_of_ble_eq_true rfl)⟩ ?_
  refine g_aload_n (i := 2) C dL_law_777 rfl rfl ?_
  refine g_callVi C (c_X12_apart h2) (cwV 0 C.2.2.2.2.1 (gLift gL_law_X12_apart) rfl rfl rfl (by decide +kernel) ⟨Nat.le_of_ble_eq_true rfl, Nat.le_of_ble_eq_true rfl⟩) ob_X12 rfl rfl rfl rfl (Nat.le_of_ble_eq_true rfl) dL_law_778 ⟨Nat.le_trans hcs.1 (Nat.le_of_ble_eq_true rfl), Nat.le_trans hcs.2 (Nat.le_of_ble_eq_true rfl)⟩ ?_
  exact g_icmp_eq (tgt := 1842) C dL_law_781 (by decide) rfl rfl (fun _ => kk _ _ _ hR2 (Nat.le_succ _) (Nat.le_add_right _ _)) (fun z => absurd rfl z)
theorem law_c15 (C : Cx p s m [Value.ref b].toArray c cL_law 8 RL wsLw D ca A) (hX : va_X b L xs s s.heap) (hbl : b < s.heap.size) (hbA : ¬ A b) (hR : Rel σ) (hu : 0 ≤ u ∧ u + 5 < (L : Int)) (hL : L ≤ 384) (hcs : cells ≤ 600000 ∧ slots ≤ 7300000) (kk : ∀ (σ' : Mem) (cells' slots' : Nat), Rel σ' → cells' ≤ cells + 1 → slots' ≤ slots + 6 → G p l e room_1 s m [Value.ref b].toArray below meth c 8 D ca ad A cells' slots' Q σ' 1842 (lvB b ad u) []) : G p l e room_1 s m [Value.ref b].toArray below meth c 8 D ca ad A cells slots Q σ 786 (lvB b ad u) [] := by
  have hj1 : s32 (u + 1) = (((u + 1).toNat : Nat) : Int) := by rw [s32_of (by omega) (by omega)]; omega
  obtain ⟨r, σ1, σ2, h1, h2, hR2⟩ := op_justNot hR (s32_ti (xs (u + 1).toNat))
  refine g_aload_n (i := 1) C dL_law_786 rfl rfl ?_
  refine g_arg C hX hbl hbA rfl rfl hj1 (by clear hj1; omega) dL_law_787 dL_law_788 dL_law_790 dL_law_791 dL_law_792 ?_
  refine g_callVi C (c_X11_justNot h1) (cwV 1 C.2.2.2.2.1 (gLift gL_law_X11_justNot) rfl rfl rfl (by decide +kernel) ⟨Nat.le_of_ble_eq_true rfl, Nat.le_of_ble_eq_true rfl⟩) ob_X11 rfl rfl rfl rfl (Nat.le_of_ble_eq_true rfl) dL_law_793 ⟨Nat.le_trans hcs.1 (Nat.le_of_ble_eq_true rfl), Nat.le_trans hcs.2 (Nat.le_of_ble_eq_true rfl)⟩ ?_
  refine g_aload_n (i := 2) C dL_law_796 rfl rfl ?_
  refine g_arg C hX hbl hbA rfl rfl hj1 (by clear hj1; omega) dL_law_797 dL_law_798 dL_law_800 dL_law_801 dL_law_802 ?_
  refine g_callVi C (c_X12_justNot h2) (cwV 1 C.2.2.2.2.1 (gLift gL_law_X12_justNot) rfl rfl rfl (by decide +kernel) ⟨Nat.le_of_ble_eq_true rfl, Nat.le_of_ble_eq_true rfl⟩) ob_X12 rfl rfl rfl rfl (Nat.le_of_ble_eq_true rfl) dL_law_803 ⟨Nat.le_trans hcs.1 (Nat.le_of_ble_eq_true rfl), Nat.le_trans hcs.2 (Nat.le_of_ble_eq_true rfl)⟩ ?_
  exact g_icmp_eq (tgt := 1842) C dL_law_806 (by decide) rfl rfl (fun _ => kk _ _ _ hR2 (Nat.le_succ _) (Nat.le_add_right _ _)) (fun z => absurd rfl z)
theorem law_c16 (C : Cx p s m [Value.ref b].toArray c cL_law 8 RL wsLw D ca A) (hX : va_X b L xs s s.heap) (hbl : b < s.heap.size) (hbA : ¬ A b) (hR : Rel σ) (hu : 0 ≤ u ∧ u + 5 < (L : Int)) (hL : L ≤ 384) (hcs : cells ≤ 600000 ∧ slots ≤ 7300000) (kk : ∀ (σ' : Mem) (cells' slots' : Nat), Rel σ' → cells' ≤ cells + 1 → slots' ≤ slots + 6 → G p l e room_1 s m [Value.ref b].toArray below meth c 8 D ca ad A cells' slots' Q σ' 1842 (lvB b ad u) []) : G p l e room_1 s m [Value.ref b].toArray below meth c 8 D ca ad A cells slots Q σ 811 (lvB b ad u) [] := by
  have hj1 : s32 (u + 1) = (((u + 1).toNat : Nat) : Int) := by rw [s32_of (by omega) (by omega)]; omega
  obtain ⟨r, σ1, σ2, h1, h2, hR2⟩ := op_waste hR (s32_ti (xs (u + 1).toNat))
  refine g_aload_n (i := 1) C dL_law_811 rfl rfl ?_
  refine g_arg C hX hbl hbA rfl rfl hj1 (by clear hj1; omega) dL_law_812 dL_law_813 dL_law_815 dL_law_816 dL_law_817 ?_
  refine g_callVi C (c_X11_waste h1) (cwV 1 C.2.2.2.2.1 (gLift gL_law_X11_waste) rfl rfl rfl (by decide +kernel) ⟨Nat.le_of_ble_eq_true rfl, Nat.le_of_ble_eq_true rfl⟩) ob_X11 rfl rfl rfl rfl (Nat.le_of_ble_eq_true rfl) dL_law_818 ⟨Nat.le_trans hcs.1 (Nat.le_of_ble_eq_true rfl), Nat.le_trans hcs.2 (Nat.le_of_ble_eq_true rfl)⟩ ?_
  refine g_aload_n (i := 2) C dL_law_821 rfl rfl ?_
  refine g_arg C hX hbl hbA rfl rfl hj1 (by clear hj1; omega) dL_law_822 dL_law_823 dL_law_825 dL_law_826 dL_law_827 ?_
  refine g_callVi C (c_X12_waste h2) (cwV 1 C.2.2.2.2.1 (gLift gL_law_X12_waste) rfl rfl rfl (by decide +kernel) ⟨Nat.le_of_ble_eq_true rfl, Nat.le_of_ble_eq_true rfl⟩) ob_X12 rfl rfl rfl rfl (Nat.le_of_ble_eq_true rfl) dL_law_828 ⟨Nat.le_trans hcs.1 (Nat.le_of_ble_eq_true rfl), Nat.le_trans hcs.2 (Nat.le_of_ble_eq_true rfl)⟩ ?_
  exact g_icmp_eq (tgt := 1842) C dL_law_831 (by decide) rfl rfl (fun _ => kk _ _ _ hR2 (Nat.le_succ _) (Nat.le_add_right _ _)) (fun z => absurd rfl z)
theorem law_c17 (C : Cx p s m [Value.ref b].toArray c cL_law 8 RL wsLw D ca A) (hX : va_X b L xs s s.heap) (hbl : b < s.heap.size) (hbA : ¬ A b) (hR : Rel σ) (hu : 0 ≤ u ∧ u + 5 < (L : Int)) (hL : L ≤ 384) (hcs : cells ≤ 600000 ∧ slots ≤ 7300000) (kk : ∀ (σ' : Mem) (cells' slots' : Nat), Rel σ' → cells' ≤ cells + 1 → slots' ≤ slots + 6 → G p l e room_1 s m [Value.ref b].toArray below meth c 8 D ca ad A cells' slots' Q σ' 1842 (lvB b ad u) []) : G p l e room_1 s m [Value.ref b].toArray below meth c 8 D ca ad A cells slots Q σ 836 (lvB b ad u) [] := by
  have hj1 : s32 (u + 1) = (((u + 1).toNat : Nat) : Int) := by rw [s32_of (by omega) (by omega)]; omega
  have hj2 : s32 (u + 2) = (((u + 2).toNat : Nat) : Int) := by rw [s32_of (by omega) (by omega)]; omega
  have hj3 : s32 (u + 3) = (((u + 3).toNat : Nat) : Int) := by rw [s32_of (by omega) (by omega)]; omega
  have hj4 : s32 (u + 4) = (((u + 4).toNat : Nat) : Int) := by rw [s32_of (by omega) (by omega)]; omega
  obtain ⟨r, σ1, σ2, h1, h2, hR2⟩ := op_gain hR (s32_ti (xs (u + 1).toNat)) (s32_ti (xs (u + 2).toNat)) (s32_ti (xs (u + 3).toNat)) (s32_ti (xs (u + 4).toNat))
  refine g_aload_n (i := 1) C dL_law_836 rfl rfl ?_
  refine g_arg C hX hbl hbA rfl rfl hj1 (by clear hj1 hj2 hj3 hj4; omega) dL_law_837 dL_law_838 dL_law_840 dL_law_841 dL_law_842 ?_
  refine g_arg C hX hbl hbA rfl rfl hj2 (by clear hj1 hj2 hj3 hj4; omega) dL_law_843 dL_law_844 dL_law_846 dL_law_847 dL_law_848 ?_
  refine g_arg C hX hbl hbA rfl rfl hj3 (by clear hj1 hj2 hj3 hj4; omega) dL_law_849 dL_law_850 dL_law_852 dL_law_853 dL_law_854 ?_
  refine g_arg C hX hbl hbA rfl rfl hj4 (by clear hj1 hj2 hj3 hj4; omega) dL_law_855 dL_law_856 dL_law_858 dL_law_859 dL_law_860 ?_
  refine g_callVl C (c_X11_gain h1) (cwV 4 C.2.2.2.2.1 (gLift gL_law_X11_gain) rfl rfl rfl (by decide +kernel) ⟨Nat.le_of_ble_eq_true rfl, Nat.le_of_ble_eq_true rfl⟩) ob_X11 rfl rfl rfl rfl (Nat.le_of_ble_eq_true rfl) dL_law_861 ⟨Nat.le_trans hcs.1 (Nat.le_of_ble_eq_true rfl), Nat.le_trans hcs.2 (Nat.le_of_ble_eq_true rfl)⟩ ?_
  refine g_aload_n (i := 2) C dL_law_864 rfl rfl ?_
  refine g_arg C hX hbl hbA rfl rfl hj1 (by clear hj1 hj2 hj3 hj4; omega) dL_law_865 dL_law_866 dL_law_868 dL_law_869 dL_law_870 ?_
  refine g_arg C hX hbl hbA rfl rfl hj2 (by clear hj1 hj2 hj3 hj4; omega) dL_law_871 dL_law_872 dL_law_874 dL_law_875 dL_law_876 ?_
  refine g_arg C hX hbl hbA rfl rfl hj3 (by clear hj1 hj2 hj3 hj4; omega) dL_law_877 dL_law_878 dL_law_880 dL_law_881 dL_law_882 ?_
  refine g_arg C hX hbl hbA rfl rfl hj4 (by clear hj1 hj2 hj3 hj4; omega) dL_law_883 dL_law_884 dL_law_886 dL_law_887 dL_law_888 ?_
  refine g_callVl C (c_X12_gain h2) (cwV 4 C.2.2.2.2.1 (gLift gL_law_X12_gain) rfl rfl rfl (by decide +kernel) ⟨Nat.le_of_ble_eq_true rfl, Nat.le_of_ble_eq_true rfl⟩) ob_X12 rfl rfl rfl rfl (Nat.le_of_ble_eq_true rfl) dL_law_889 ⟨Nat.le_trans hcs.1 (Nat.le_of_ble_eq_true rfl), Nat.le_trans hcs.2 (Nat.le_of_ble_eq_true rfl)⟩ ?_
  exact g_lcmp_eq (tgt := 1842) C dL_law_892 dL_law_893 (by decide) rfl rfl (fun _ => kk _ _ _ hR2 (Nat.le_succ _) (Nat.le_add_right _ _)) (fun z => absurd rfl z)
theorem law_c18 (C : Cx p s m [Value.ref b].toArray c cL_law 8 RL wsLw D ca A) (hX : va_X b L xs s s.heap) (hbl : b < s.heap.size) (hbA : ¬ A b) (hR : Rel σ) (hu : 0 ≤ u ∧ u + 5 < (L : Int)) (hL : L ≤ 384) (hcs : cells ≤ 600000 ∧ slots ≤ 7300000) (kk : ∀ (σ' : Mem) (cells' slots' : Nat), Rel σ' → cells' ≤ cells + 1 → slots' ≤ slots + 6 → G p l e room_1 s m [Value.ref b].toArray below meth c 8 D ca ad A cells' slots' Q σ' 1842 (lvB b ad u) []) : G p l e room_1 s m [Value.ref b].toArray below meth c 8 D ca ad A cells slots Q σ 898 (lvB b ad u) [] := by
  have hj1 : s32 (u + 1) = (((u + 1).toNat : Nat) : Int) := by rw [s32_of (by omega) (by omega)]; omega
  have hj2 : s32 (u + 2) = (((u + 2).toNat : Nat) : Int) := by rw [s32_of (by omega) (by omega)]; omega
  obtain ⟨r, σ1, σ2, h1, h2, hR2⟩ := op_inOne hR (s32_ti (xs (u + 1).toNat)) (s32_ti (xs (u + 2).toNat))
  refine g_aload_n (i := 1) C dL_law_898 rfl rfl ?_
  refine g_arg C hX hbl hbA rfl rfl hj1 (by clear hj1 hj2; omega) dL_law_899 dL_law_900 dL_law_902 dL_law_903 dL_law_904 ?_
  refine g_arg C hX hbl hbA rfl rfl hj2 (by clear hj1 hj2; omega) dL_law_905 dL_law_906 dL_law_908 dL_law_909 dL_law_910 ?_
  refine g_callVi C (c_X11_inOne h1) (cwV 2 C.2.2.2.2.1 (gLift gL_law_X11_inOne) rfl rfl rfl (by decide +kernel) ⟨Nat.le_of_ble_eq_true rfl, Nat.le_of_ble_eq_true rfl⟩) ob_X11 rfl rfl rfl rfl (Nat.le_of_ble_eq_true rfl) dL_law_911 ⟨Nat.le_trans hcs.1 (Nat.le_of_ble_eq_true rfl), Nat.le_trans hcs.2 (Nat.le_of_ble_eq_true rfl)⟩ ?_
  refine g_aload_n (i := 2) C dL_law_914 rfl rfl ?_
  refine g_arg C hX hbl hbA rfl rfl hj1 (by clear hj1 hj2; omega) dL_law_915 dL_law_916 dL_law_918 dL_law_919 dL_law_920 ?_
  refine g_arg C hX hbl hbA rfl rfl hj2 (by clear hj1 hj2; omega) dL_law_921 dL_law_922 dL_law_924 dL_law_925 dL_law_926 ?_
  refine g_callVi C (c_X12_inOne h2) (cwV 2 C.2.2.2.2.1 (gLift gL_law_X12_inOne) rfl rfl rfl (by decide +kernel) ⟨Nat.le_of_ble_eq_true rfl, Nat.le_of_ble_eq_true rfl⟩) ob_X12 rfl rfl rfl rfl (Nat.le_of_ble_eq_true rfl) dL_law_927 ⟨Nat.le_trans hcs.1 (Nat.le_of_ble_eq_true rfl), Nat.le_trans hcs.2 (Nat.le_of_ble_eq_true rfl)⟩ ?_
  exact g_icmp_eq (tgt := 1842) C dL_law_930 (by decide) rfl rfl (fun _ => kk _ _ _ hR2 (Nat.le_succ _) (Nat.le_add_right _ _)) (fun z => absurd rfl z)
theorem law_c19 (C : Cx p s m [Value.ref b].toArray c cL_law 8 RL wsLw D ca A) (hX : va_X b L xs s s.heap) (hbl : b < s.heap.size) (hbA : ¬ A b) (hR : Rel σ) (hu : 0 ≤ u ∧ u + 5 < (L : Int)) (hL : L ≤ 384) (hcs : cells ≤ 600000 ∧ slots ≤ 7300000) (kk : ∀ (σ' : Mem) (cells' slots' : Nat), Rel σ' → cells' ≤ cells + 1 → slots' ≤ slots + 6 → G p l e room_1 s m [Value.ref b].toArray below meth c 8 D ca ad A cells' slots' Q σ' 1842 (lvB b ad u) []) : G p l e room_1 s m [Value.ref b].toArray below meth c 8 D ca ad A cells slots Q σ 935 (lvB b ad u) [] := by
  have hj1 : s32 (u + 1) = (((u + 1).toNat : Nat) : Int) := by rw [s32_of (by omega) (by omega)]; omega
  obtain ⟨r, σ1, σ2, h1, h2, hR2⟩ := op_bars hR (s32_ti (xs (u + 1).toNat))
  refine g_aload_n (i := 1) C dL_law_935 rfl rfl ?_
  refine g_arg C hX hbl hbA rfl rfl hj1 (by clear hj1; omega) dL_law_936 dL_law_937 dL_law_939 dL_law_940 dL_law_941 ?_
  refine g_callVi C (c_X11_bars h1) (cwV 1 C.2.2.2.2.1 (gLift gL_law_X11_bars) rfl rfl rfl (by decide +kernel) ⟨Nat.le_of_ble_eq_true rfl, Nat.le_of_ble_eq_true rfl⟩) ob_X11 rfl rfl rfl rfl (Nat.le_of_ble_eq_true rfl) dL_law_942 ⟨Nat.le_trans hcs.1 (Nat.le_of_ble_eq_true rfl), Nat.le_trans hcs.2 (Nat.le_of_ble_eq_true rfl)⟩ ?_
  refine g_aload_n (i := 2) C dL_law_945 rfl rfl ?_
  refine g_arg C hX hbl hbA rfl rfl hj1 (by clear hj1; omega) dL_law_946 dL_law_947 dL_law_949 dL_law_950 dL_law_951 ?_
  refine g_callVi C (c_X12_bars h2) (cwV 1 C.2.2.2.2.1 (gLift gL_law_X12_bars) rfl rfl rfl (by decide +kernel) ⟨Nat.le_of_ble_eq_true rfl, Nat.le_of_ble_eq_true rfl⟩) ob_X12 rfl rfl rfl rfl (Nat.le_of_ble_eq_true rfl) dL_law_952 ⟨Nat.le_trans hcs.1 (Nat.le_of_ble_eq_true rfl), Nat.le_trans hcs.2 (Nat.le_of_ble_eq_true rfl)⟩ ?_
  exact g_icmp_eq (tgt := 1842) C dL_law_955 (by decide) rfl rfl (fun _ => kk _ _ _ hR2 (Nat.le_succ _) (Nat.le_add_right _ _)) (fun z => absurd rfl z)
theorem law_c20 (C : Cx p s m [Value.ref b].toArray c cL_law 8 RL wsLw D ca A) (hX : va_X b L xs s s.heap) (hbl : b < s.heap.size) (hbA : ¬ A b) (hR : Rel σ) (hu : 0 ≤ u ∧ u + 5 < (L : Int)) (hL : L ≤ 384) (hcs : cells ≤ 600000 ∧ slots ≤ 7300000) (kk : ∀ (σ' : Mem) (cells' slots' : Nat), Rel σ' → cells' ≤ cells + 1 → slots' ≤ slots + 6 → G p l e room_1 s m [Value.ref b].toArray below meth c 8 D ca ad A cells' slots' Q σ' 1842 (lvB b ad u) []) : G p l e room_1 s m [Value.ref b].toArray below meth c 8 D ca ad A cells slots Q σ 960 (lvB b ad u) [] := by
  have hj1 : s32 (u + 1) = (((u + 1).toNat : Nat) : Int) := by rw [s32_of (by omega) (by omega)]; omega
  obtain ⟨r, σ1, σ2, h1, h2, hR2⟩ := op_leastBar hR (s32_ti (xs (u + 1).toNat))
  refine g_aload_n (i := 1) C dL_law_960 rfl rfl ?_
  refine g_arg C hX hbl hbA rfl rfl hj1 (by clear hj1; omega) dL_law_961 dL_law_962 dL_law_964 dL_law_965 dL_law_966 ?_
  refine g_callVi C (c_X11_leastBar h1) (cwV 1 C.2.2.2.2.1 (gLift gL_law_X11_leastBar) rfl rfl rfl (by decide +kernel) ⟨Nat.le_of_ble_eq_true rfl, Nat.le_of_ble_eq_true rfl⟩) ob_X11 rfl rfl rfl rfl (Nat.le_of_ble_eq_true rfl) dL_law_967 ⟨Nat.le_trans hcs.1 (Nat.le_of_ble_eq_true rfl), Nat.le_trans hcs.2 (Nat.le_of_ble_eq_true rfl)⟩ ?_
  refine g_aload_n (i := 2) C dL_law_970 rfl rfl ?_
  refine g_arg C hX hbl hbA rfl rfl hj1 (by clear hj1; omega) dL_law_971 dL_law_972 dL_law_974 dL_law_975 dL_law_976 ?_
  refine g_callVi C (c_X12_leastBar h2) (cwV 1 C.2.2.2.2.1 (gLift gL_law_X12_leastBar) rfl rfl rfl (by decide +kernel) ⟨Nat.le_of_ble_eq_true rfl, Nat.le_of_ble_eq_true rfl⟩) ob_X12 rfl rfl rfl rfl (Nat.le_of_ble_eq_true rfl) dL_law_977 ⟨Nat.le_trans hcs.1 (Nat.le_of_ble_eq_true rfl), Nat.le_trans hcs.2 (Nat.le_of_ble_eq_true rfl)⟩ ?_
  exact g_icmp_eq (tgt := 1842) C dL_law_980 (by decide) rfl rfl (fun _ => kk _ _ _ hR2 (Nat.le_succ _) (Nat.le_add_right _ _)) (fun z => absurd rfl z)
theorem law_c21 (C : Cx p s m [Value.ref b].toArray c cL_law 8 RL wsLw D ca A) (hX : va_X b L xs s s.heap) (hbl : b < s.heap.size) (hbA : ¬ A b) (hR : Rel σ) (hu : 0 ≤ u ∧ u + 5 < (L : Int)) (hL : L ≤ 384) (hcs : cells ≤ 600000 ∧ slots ≤ 7300000) (kk : ∀ (σ' : Mem) (cells' slots' : Nat), Rel σ' → cells' ≤ cells + 1 → slots' ≤ slots + 6 → G p l e room_1 s m [Value.ref b].toArray below meth c 8 D ca ad A cells' slots' Q σ' 1842 (lvB b ad u) []) : G p l e room_1 s m [Value.ref b].toArray below meth c 8 D ca ad A cells slots Q σ 985 (lvB b ad u) [] := by
  have hj1 : s32 (u + 1) = (((u + 1).toNat : Nat) : Int) := by rw [s32_of (by omega) (by omega)]; omega
  have hj2 : s32 (u + 2) = (((u + 2).toNat : Nat) : Int) := by rw [s32_of (by omega) (by omega)]; omega
  obtain ⟨r, σ1, σ2, h1, h2, hR2⟩ := op_makes hR (s32_ti (xs (u + 1).toNat)) (s32_ti (xs (u + 2).toNat))
  refine g_aload_n (i := 1) C dL_law_985 rfl rfl ?_
  refine g_arg C hX hbl hbA rfl rfl hj1 (by clear hj1 hj2; omega) dL_law_986 dL_law_987 dL_law_989 dL_law_990 dL_law_991 ?_
  refine g_arg C hX hbl hbA rfl rfl hj2 (by clear hj1 hj2; omega) dL_law_992 dL_law_993 dL_law_995 dL_law_996 dL_law_997 ?_
  refine g_callVi C (c_X11_makes h1) (cwV 2 C.2.2.2.2.1 (gLift gL_law_X11_makes) rfl rfl rfl (by decide +kernel) ⟨Nat.le_of_ble_eq_true rfl, Nat.le_of_ble_eq_true rfl⟩) ob_X11 rfl rfl rfl rfl (Nat.le_of_ble_eq_true rfl) dL_law_998 ⟨Nat.le_trans hcs.1 (Nat.le_of_ble_eq_true rfl), Nat.le_trans hcs.2 (Nat.le_of_ble_eq_true rfl)⟩ ?_
  refine g_aload_n (i := 2) C dL_law_1001 rfl rfl ?_
  refine g_arg C hX hbl hbA rfl rfl hj1 (by clear hj1 hj2; omega) dL_law_1002 dL_law_1003 dL_law_1005 dL_law_1006 dL_law_1007 ?_
  refine g_arg C hX hbl hbA rfl rfl hj2 (by clear hj1 hj2; omega) dL_law_1008 dL_law_1009 dL_law_1011 dL_law_1012 dL_law_1013 ?_
  refine g_callVi C (c_X12_makes h2) (cwV 2 C.2.2.2.2.1 (gLift gL_law_X12_makes) rfl rfl rfl (by decide +kernel) ⟨Nat.le_of_ble_eq_true rfl, Nat.le_of_ble_eq_true rfl⟩) ob_X12 rfl rfl rfl rfl (Nat.le_of_ble_eq_true rfl) dL_law_1014 ⟨Nat.le_trans hcs.1 (Nat.le_of_ble_eq_true rfl), Nat.le_trans hcs.2 (Nat.le_of_ble_eq_true rfl)⟩ ?_
  exact g_icmp_eq (tgt := 1842) C dL_law_1017 (by decide) rfl rfl (fun _ => kk _ _ _ hR2 (Nat.le_succ _) (Nat.le_add_right _ _)) (fun z => absurd rfl z)
theorem law_c22 (C : Cx p s m [Value.ref b].toArray c cL_law 8 RL wsLw D ca A) (hX : va_X b L xs s s.heap) (hbl : b < s.heap.size) (hbA : ¬ A b) (hR : Rel σ) (hu : 0 ≤ u ∧ u + 5 < (L : Int)) (hL : L ≤ 384) (hcs : cells ≤ 600000 ∧ slots ≤ 7300000) (kk : ∀ (σ' : Mem) (cells' slots' : Nat), Rel σ' → cells' ≤ cells + 1 → slots' ≤ slots + 6 → G p l e room_1 s m [Value.ref b].toArray below meth c 8 D ca ad A cells' slots' Q σ' 1842 (lvB b ad u) []) : G p l e room_1 s m [Value.ref b].toArray below meth c 8 D ca ad A cells slots Q σ 1022 (lvB b ad u) [] := by
  have hj1 : s32 (u + 1) = (((u + 1).toNat : Nat) : Int) := by rw [s32_of (by omega) (by omega)]; omega
  obtain ⟨r, σ1, σ2, h1, h2, hR2⟩ := op_loses hR (s32_ti (xs (u + 1).toNat))
  refine g_aload_n (i := 1) C dL_law_1022 rfl rfl ?_
  refine g_arg C hX hbl hbA rfl rfl hj1 (by clear hj1; omega) dL_law_1023 dL_law_1024 dL_law_1026 dL_law_1027 dL_law_1028 ?_
  refine g_callVi C (c_X11_loses h1) (cwV 1 C.2.2.2.2.1 (gLift gL_law_X11_loses) rfl rfl rfl (by decide +kernel) ⟨Nat.le_of_ble_eq_true rfl, Nat.le_of_ble_eq_true rfl⟩) ob_X11 rfl rfl rfl rfl (Nat.le_of_ble_eq_true rfl) dL_law_1029 ⟨Nat.le_trans hcs.1 (Nat.le_of_ble_eq_true rfl), Nat.le_trans hcs.2 (Nat.le_of_ble_eq_true rfl)⟩ ?_
  refine g_aload_n (i := 2) C dL_law_1032 rfl rfl ?_
  refine g_arg C hX hbl hbA rfl rfl hj1 (by clear hj1; omega) dL_law_1033 dL_law_1034 dL_law_1036 dL_law_1037 dL_law_1038 ?_
  refine g_callVi C (c_X12_loses h2) (cwV 1 C.2.2.2.2.1 (gLift gL_law_X12_loses) rfl rfl rfl (by decide +kernel) ⟨Nat.le_of_ble_eq_true rfl, Nat.le_of_ble_eq_true rfl⟩) ob_X12 rfl rfl rfl rfl (Nat.le_of_ble_eq_true rfl) dL_law_1039 ⟨Nat.le_trans hcs.1 (Nat.le_of_ble_eq_true rfl), Nat.le_trans hcs.2 (Nat.le_of_ble_eq_true rfl)⟩ ?_
  exact g_icmp_eq (tgt := 1842) C dL_law_1042 (by decide) rfl rfl (fun _ => kk _ _ _ hR2 (Nat.le_succ _) (Nat.le_add_right _ _)) (fun z => absurd rfl z)
theorem law_c23 (C : Cx p s m [Value.ref b].toArray c cL_law 8 RL wsLw D ca A) (hX : va_X b L xs s s.heap) (hbl : b < s.heap.size) (hbA : ¬ A b) (hR : Rel σ) (hu : 0 ≤ u ∧ u + 5 < (L : Int)) (hL : L ≤ 384) (hcs : cells ≤ 600000 ∧ slots ≤ 7300000) (kk : ∀ (σ' : Mem) (cells' slots' : Nat), Rel σ' → cells' ≤ cells + 1 → slots' ≤ slots + 6 → G p l e room_1 s m [Value.ref b].toArray below meth c 8 D ca ad A cells' slots' Q σ' 1842 (lvB b ad u) []) : G p l e room_1 s m [Value.ref b].toArray below meth c 8 D ca ad A cells slots Q σ 1047 (lvB b ad u) [] := by
  have hj1 : s32 (u + 1) = (((u + 1).toNat : Nat) : Int) := by rw [s32_of (by omega) (by omega)]; omega
  obtain ⟨r, σ1, σ2, h1, h2, hR2⟩ := op_broken hR (s32_ti (xs (u + 1).toNat))
  refine g_aload_n (i := 1) C dL_law_1047 rfl rfl ?_
  refine g_arg C hX hbl hbA rfl rfl hj1 (by clear hj1; omega) dL_law_1048 dL_law_1049 dL_law_1051 dL_law_1052 dL_law_1053 ?_
  refine g_callVi C (c_X11_broken h1) (cwV 1 C.2.2.2.2.1 (gLift gL_law_X11_broken) rfl rfl rfl (by decide +kernel) ⟨Nat.le_of_ble_eq_true rfl, Nat.le_of_ble_eq_true rfl⟩) ob_X11 rfl rfl rfl rfl (Nat.le_of_ble_eq_true rfl) dL_law_1054 ⟨Nat.le_trans hcs.1 (Nat.le_of_ble_eq_true rfl), Nat.le_trans hcs.2 (Nat.le_of_ble_eq_true rfl)⟩ ?_
  refine g_aload_n (i := 2) C dL_law_1057 rfl rfl ?_
  refine g_arg C hX hbl hbA rfl rfl hj1 (by clear hj1; omega) dL_law_1058 dL_law_1059 dL_law_1061 dL_law_1062 dL_law_1063 ?_
  refine g_callVi C (c_X12_broken h2) (cwV 1 C.2.2.2.2.1 (gLift gL_law_X12_broken) rfl rfl rfl (by decide +kernel) ⟨Nat.le_of_ble_eq_true rfl, Nat.le_of_ble_eq_true rfl⟩) ob_X12 rfl rfl rfl rfl (Nat.le_of_ble_eq_true rfl) dL_law_1064 ⟨Nat.le_trans hcs.1 (Nat.le_of_ble_eq_true rfl), Nat.le_trans hcs.2 (Nat.le_of_ble_eq_true rfl)⟩ ?_
  exact g_icmp_eq (tgt := 1842) C dL_law_1067 (by decide) rfl rfl (fun _ => kk _ _ _ hR2 (Nat.le_succ _) (Nat.le_add_right _ _)) (fun z => absurd rfl z)
end Glc1
