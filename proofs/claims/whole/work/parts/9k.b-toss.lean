/-! BY HAND 15: toss -/
section Gx2
variable {p : Program} {l : Launch} {e : Env} {R : Room} {s : State} {m : MethodId} {args : Array Value} {below : List Frame} {meth : Method} {c : Code} {cells slots mc ms : Nat} {Q : State → Prop}
variable {D : va_G} {ca : Ca} {ad : Int → Nat} {A : Nat → Prop} {fa : Int → Option Nat} {σ : Mem} {r0 : Int} {σ0 : Mem}
theorem kd_cs {k : Int} (h : 0 ≤ k ∧ k ≤ 5) : k = 0 ∨ k = 1 ∨ k = 2 ∨ k = 3 ∨ k = 4 ∨ k = 5 := by omega
theorem toV_toF {d k : Int} (hk : k = σ (d + 20) 0) (h : (0 ≤ k ∧ k ≤ 5) ∧ (0 ≤ σ (d + 20) 3 ∧ σ (d + 20) 3 ≤ 4) ∧ (0 ≤ σ (d + 20) 4 ∧ σ (d + 20) 4 ≤ 4)) : toV σ d (kc k) = toF (σ (d + 20)) := by
  have e3 : s32 (σ (d + 20) 3) = σ (d + 20) 3 := s32_of (by omega) (by omega)
  have e4 : s32 (σ (d + 20) 4) = σ (d + 20) 4 := s32_of (by omega) (by omega)
  unfold toV toF fvF
  rw [e3, e4, ← hk]
  clear e3 e4
  by_cases z : σ (d + 20) 3 < σ (d + 20) 4
  · rcases kd_cs h.1 with rfl | rfl | rfl | rfl | rfl | rfl
    · rw [if_pos ⟨by decide, z⟩, if_neg (by decide), if_neg (by decide), if_neg (by omega), if_neg (by decide), if_neg (by decide)]
    · rw [if_pos ⟨by decide, z⟩, if_neg (by decide), if_neg (by decide), if_neg (by omega), if_neg (by decide), if_neg (by decide)]
    · rw [if_pos ⟨by decide, z⟩, if_neg (by decide), if_neg (by decide), if_neg (by omega), if_neg (by decide), if_neg (by decide)]
    · rw [if_neg (fun w => w.1 rfl), if_pos (Or.inl rfl)]
    · rw [if_pos ⟨by decide, z⟩, if_neg (by decide), if_pos (by decide), if_neg (by omega), if_pos rfl, Int.add_comm]
    · rw [if_pos ⟨by decide, z⟩, if_pos (by decide), if_neg (by omega), if_neg (by decide), if_pos rfl]
  · rw [if_neg (fun w => z w.2), if_pos (Or.inr z)]
def wsTs : List Cond := wsX11_toss ++ [.methodLink RX10 11 ⟨RX0, "failure", "()I"⟩, .sameMethod RX0 RX2 "failure" "()I", .superclass RX10 RX0, .superclass RX0 RX2]
theorem gTs : GoodIn wsTs wsCt := goodIn_app (gLift ggX11_toss_X2_caught) (goodIn_of _ (by decide +kernel))
abbrev rm_X11_toss : Room := { frames := 8, cells := 1, slots := 6, locals := 150 }
theorem sel_caught {ci : Nat} {K : String} (hk : (ci = 0 ∧ K = RX0) ∨ (ci = 1 ∧ K = RX1) ∨ (ci = 2 ∧ K = RX2) ∨ (ci = 5 ∧ K = RX5) ∨ (ci = 9 ∧ K = RX9) ∨ (ci = 10 ∧ K = RX10)) : Cond.selects K yX2_caught yX2_caught ∈ wsTs := by
  rcases hk with ⟨-, rfl⟩ | ⟨-, rfl⟩ | ⟨-, rfl⟩ | ⟨-, rfl⟩ | ⟨-, rfl⟩ | ⟨-, rfl⟩ <;> decide +kernel
theorem c_X11_toss (hst : l.stackTraces = false) {v1 : Int} {sa : Nat} (hf0 : f_X11_toss v1 σ = some (r0, σ0)) (hft : (0 ≤ s32 v1 ∧ s32 v1 < 8) → ¬ σ (80 + 2 * s32 v1) 3 = 0 → (0 ≤ σ (100 + 2 * s32 v1) 0 ∧ σ (100 + 2 * s32 v1) 0 ≤ 5) ∧ (0 ≤ σ (100 + 2 * s32 v1) 3 ∧ σ (100 + 2 * s32 v1) 3 ≤ 4) ∧ (0 ≤ σ (100 + 2 * s32 v1) 4 ∧ σ (100 + 2 * s32 v1) 4 ≤ 4)) : Met l yX11_toss wsTs rm_X11_toss (va_Pc [.ref (ad 0), .int (iI v1)] (fun U => Wd D ca ad A σ U ∧ TrW A RX2 "the fit fails" ISE 36 38 sa U)) (Qi D ca ad A r0 σ0) 1 6 A := by
  refine Met.ofW (cc := cX11_toss) (maxL := 3) (ret := some .int) (by decide) rfl ?_
  intro p e s m args below meth c s₁ B hml hv
  obtain ⟨rfl, ⟨hW, hK, hA⟩, hTr⟩ := hv
  have C : Cx p s m [Value.ref (ad 0), .int (iI v1)].toArray c cX11_toss 3 RX11 wsTs D ca A := ⟨B.exec, B.bytes, hml, findClass_of_methodNamed B.named, atoms_spec (ws := wsTs) B.pre, hK, hA⟩
  have hlk := B.notSynchronized
  have hr := B.returns
  have hl := lv_entry [.ref (ad 0), .int (iI v1)] (n := 3) (Nat.le_of_ble_eq_true rfl)
  rw [lg_entry_eq]
  refine (?_ : G p l e rm_X11_toss s m [Value.ref (ad 0), .int (iI v1)].toArray below meth c 3 D ca ad A 0 0 _ σ 0 [some (.ref (ad 0)), some (.int (iI v1)), none] []) s.heap [] _ hW va_S.rf (lh_of hl (fun i v h => lp_mem.mpr h))
  unfold f_X11_toss at hf0
  refine g_aload_n (i := 0) C dX11_toss_0 rfl rfl ?_
  refine g_iload_n (i := 1) C dX11_toss_1 rfl rfl ?_
  obtain ⟨r2, σ1, h3, hf1⟩ := ob_inv hf0
  clear hf0
  refine g_callVi C (c_X11_heldFitFault h3) (cwV 1 C.2.2.2.2.1 (gLift gX11_toss_X11_heldFitFault) rfl rfl rfl (by decide +kernel) ⟨Nat.le_of_ble_eq_true rfl, Nat.le_of_ble_eq_true rfl⟩) ob_X11 rfl rfl rfl rfl (Nat.le_of_ble_eq_true rfl) dX11_toss_2 ⟨Nat.zero_le _, Nat.zero_le _⟩ ?_
  refine g_istore_n (i := 2) C dX11_toss_5 rfl (by decide) rfl ?_
  refine g_iload_n (i := 2) C dX11_toss_6 rfl rfl ?_
  refine g_if_eq (tgt := 14) C dX11_toss_7 (by decide) rfl (fun c4 => ?_) (fun c4 => ?_)
  · have hf2 := if_t c4 hf1
    clear hf1
    obtain ⟨hb, hf3⟩ := if_inv hf2
    clear hf2
    obtain ⟨-, h3n, es⟩ := held_in h3 c4
    subst es
    have hk := hft hb h3n
    obtain ⟨e1, e2⟩ := some_inv hf3
    clear hf3
    subst e2
    have ea : 80 + 2 * s32 v1 + 20 = 100 + 2 * s32 v1 := by omega
    refine g_aload_n (i := 0) C dX11_toss_14 rfl rfl ?_
    refine gg_X11_shelves (i := 1) C (by decide +kernel) rfl dX11_toss_15 ?_
    refine g_iload_n (i := 1) C dX11_toss_18 rfl rfl ?_
    refine g_aaload C (Or.inl ⟨rfl, rfl, hb⟩) dX11_toss_19 rfl ?_
    refine g_fit_of (i := 2) C (shf_of hb) h3n (by decide +kernel) rfl dX11_toss_20 (fun fa q hq => ?_)
    have hv := toV_toF (σ := σ1) (d := 80 + 2 * s32 v1) rfl (by rw [ea]; exact hk)
    rw [ea, e1] at hv
    have fin : ∀ {ci : Nat} {K : String} {T : u_T}, ((ci = 0 ∧ K = RX0) ∨ (ci = 1 ∧ K = RX1) ∨ (ci = 2 ∧ K = RX2) ∨ (ci = 5 ∧ K = RX5) ∨ (ci = 9 ∧ K = RX9) ∨ (ci = 10 ∧ K = RX10)) → vwCl[ci]? = some (K, T, 4) → fitAt fa σ1 (80 + 2 * s32 v1) q ci → toV σ1 (80 + 2 * s32 v1) ci = r0 → GW (WF D ca ad A fa σ1) p l e rm_X11_toss s m [Value.ref (ad 0), .int (iI v1)].toArray below meth c 3 A 0 0 (MQ below (Qi D ca ad A r0 σ1) [Value.ref (ad 0), .int (iI v1)].toArray s 1 6 A) 23 [some (.ref (ad 0)), some (.int (iI v1)), some (.int (iI r2))] [.ref q] := by
      intro ci K T hk9 hcl hq9 hr9 H locs ls hw hS hl
      obtain ⟨q0, hq0⟩ := fit_in (ca := ca) (ad := ad) hq9
      have hrc := va_recv C.2.2.2.2.2.1 hw.1 hcl hq0
      have cw : vx_CVW rm_X11_toss s [Value.ref (ad 0), .int (iI v1)].toArray RX11 K 342 yX2_caught cX2_caught 2 (some .int) [(0, 6, 7, 34)] wsCt rm_X2_caught 1 6 0 := ⟨⟨rfl, rfl, Nat.le_of_ble_eq_true rfl, Nat.le_of_ble_eq_true rfl, pay_in C.2.2.2.2.1 gTs, List.mem_cons_self⟩, C.2.2.2.2.1 _ (by decide +kernel), C.2.2.2.2.1 _ (by decide +kernel), ⟨by decide, by decide⟩, fun sig h => by
        have h2 : (parseMethodDescriptor yX2_caught.desc).map (fun d => d.parameters.length) = some 0 := by decide +kernel
        rw [h] at h2
        exact (Option.some.inj h2).symm, C.2.2.2.2.1 _ (by decide +kernel), C.2.2.2.2.1 _ (by decide +kernel), C.2.2.2.2.1 _ (sel_caught hk9)⟩
      refine va_calli (vx_runVW (As := []) (rest := []) ⟨C.1, C.2.1, C.2.2.1, C.2.2.2.1, C.2.2.2.2.1⟩ (mf_X2_caught (sa := sa) (T := T) hst hk9 hcl hq9) cw ⟨trW_blind wfd_blind, hrc, fun U hU hW => ⟨rfl, (wfd_now (vs := [.ref q]) C hw hS U hU hW).2, trW_now hTr hS U hU hW⟩⟩ rfl rfl hl.1 rfl (lv_room (Nat.le_of_ble_eq_true rfl)) dX11_toss_23 ⟨Nat.le_of_ble_eq_true rfl, Nat.le_of_ble_eq_true rfl⟩) hS (fun _ _ h => h) (fun _ h => h) ?_
      intro x u t1 H1 locs1 ht1 hvm hp hB hz hk1 hS1
      rw [ht1] at hB
      subst hp
      exact gw_of (g_iretW (cells := 0 + 1) (slots := 0 + 6) (σ' := σ1) C hr hlk hr9 rfl ⟨Nat.le_of_ble_eq_true rfl, Nat.le_of_ble_eq_true rfl⟩ dX11_toss_26) H1 locs1 ls hB hS1 hl
    rw [ea] at hq
    obtain ⟨kd, hkd2⟩ : ∃ kd, kd = σ1 (100 + 2 * s32 v1) 0 := ⟨_, rfl⟩
    rw [← hkd2] at hq hk hv
    rcases kd_cs hk.1 with rfl | rfl | rfl | rfl | rfl | rfl
    · exact fin (by decide) fk2.1 hq hv
    · exact fin (by decide) fk0.1 hq hv
    · exact fin (by decide) fk9.1 hq hv
    · exact fin (by decide) fk5.1 hq hv
    · exact fin (by decide) fk10.1 hq hv
    · exact fin (by decide) fk1.1 hq hv
  · have hf := if_f c4 hf1
    refine g_iload_n (i := 2) C dX11_toss_10 rfl rfl ?_
    refine g_goto (tgt := 26) C dX11_toss_11 (by decide) ?_
    exact g_iretW C hr hlk (some_inv hf).1 (some_inv hf).2 ⟨Nat.zero_le _, Nat.zero_le _⟩ dX11_toss_26
end Gx2
