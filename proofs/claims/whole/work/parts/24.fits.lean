/-! BASE, the fits on shelves: asking for null, taking away -/
section Gn
variable {p : Program} {l : Launch} {e : Env} {R : Room} {s : State} {m : MethodId} {args : Array Value} {below : List Frame} {meth : Method} {c : Code} {cells slots : Nat} {Q : State → Prop}
variable {cc : ByteArray} {own : String} {ws : List Cond} {nL : Nat} {D : va_G} {ca : Ca} {ad : Int → Nat} {A : Nat → Prop}
variable {σ σ' : Mem} {pc i index : Nat} {lv : List (Option Value)} {st : List Value}
theorem ce_fa {ca : Ca} {ad : Int → Nat} {fa fa' : Int → Option Nat} {r : Int → Int} {b : Int} (h : fa b = fa' b) : ce ca ad fa r b = ce ca ad fa' r b := by
  unfold ce
  rw [h]
theorem shf_SL {t : Int} (h : isShf t) : t ∈ SL := by
  rcases shf_in h with rfl | rfl | rfl | rfl | rfl | rfl | rfl | rfl <;> decide
theorem g_fit_nn {off : Int} {tgt : Nat} (C : Cx p s m args c cc nL own ws D ca A) {t : Int} (ht : isShf t) (hin : ∀ w ∈ u_ws RX8 TX8 4, w ∈ ws) (hi : ws[i]? = some (.fieldLink own index "FurrowFair$Shelf" "fit" "LFurrowFair$Fit;")) (hd : decode cc pc = .ok (.getfield index, 3)) (hd2 : decode cc (pc + 3) = .ok (.ifnonnull off, 3)) (htg : ((pc + 3 : Nat) : Int) + off = (tgt : Int))
    (kt : ¬ (σ t 3 = 0) → G p l e R s m args below meth c nL D ca ad A cells slots Q σ tgt lv st) (kf : σ t 3 = 0 → G p l e R s m args below meth c nL D ca ad A cells slots Q σ (pc + 6) lv st) : G p l e R s m args below meth c nL D ca ad A cells slots Q σ pc lv (.ref (ad t) :: st) := by
  intro H locs ls hw hS hl
  obtain ⟨fa, hP, hD, hf⟩ := id hw
  obtain ⟨q0, hq⟩ := List.getElem?_of_mem (ob_X8 ht).1
  have he := wl_at (ca := ca) (ad := ad) (fa := fa) (σ := σ) hq
  rw [(ob_X8 ht).2] at he
  refine va_get (T := TX8) (C := RX8) (N := 4) (ci := 8) (ref := "FurrowFair$Shelf") (v := va_rf (fa t)) C.1 C.2.1 C.2.2.2.2.1 hin C.2.2.2.1 C.2.2.2.2.2.1 hP q0 he rfl 3 (by decide) (C.wd hi) (fun _ h9 => h9) rfl hd ?_
  rcases hf t (shf_SL ht) with ⟨h0, h1⟩ | ⟨h0, q, h1⟩
  · rw [h1]
    exact lv_ifnonnullN C.1 C.2.1 hd2 (kf h0 H locs ls hw hS hl)
  · rw [h1]
    exact lv_ifnonnull C.1 C.2.1 hd2 htg (kt (by omega) H locs ls hw hS hl)
theorem sl_sub {ca : Ca} {fa : Int → Option Nat} {σ : Mem} {t : Int} : (SL.filterMap (fun d => ((if d = t then none else fa d) : Option Nat).map (fun q => (q, fc (ups σ t 3 0 (d + 20))))) ).Sublist (SL.filterMap (fun d => (fa d).map (fun q => (q, fc (ups σ t 3 0 (d + 20)))))) := by
  generalize SL = L
  induction L with
  | nil => exact List.Sublist.slnil
  | cons d L ih =>
    rw [List.filterMap_cons, List.filterMap_cons]
    by_cases h : d = t
    · rw [if_pos h]
      cases fa d with
      | none => exact ih
      | some q => exact ih.cons _
    · rw [if_neg h]
      cases fa d with
      | none => exact ih
      | some q => exact ih.cons₂ _
theorem va_P.subl {D : va_G} {cl : List vw_C} {w1 w2 : va_W} {H : Heap} (h : va_P D cl w2 H) (hs : w1.Sublist w2) : va_P D cl w1 H := by
  intro k q hk
  obtain ⟨j, hj⟩ := List.getElem?_of_mem (hs.subset (List.mem_of_getElem? hk))
  exact h j q hj
theorem va_D.pw {A : Nat → Prop} {ws : va_W} (h : va_D A ws) : ws.Pairwise (fun p q => p.1 ≠ q.1) := by
  rw [List.pairwise_iff_getElem]
  intro i j hi hj hij e
  have := h.1 i j _ _ (List.getElem?_eq_getElem hi) (List.getElem?_eq_getElem hj) e
  omega
theorem va_D.of {A : Nat → Prop} {ws : va_W} (h : ws.Pairwise (fun p q => p.1 ≠ q.1)) (hA : ∀ q ∈ ws, A q.1) : va_D A ws := by
  refine ⟨fun i j p q hi hj e => ?_, fun k q hk => hA q (List.mem_of_getElem? hk)⟩
  obtain ⟨li, e1⟩ := List.getElem?_eq_some_iff.mp hi
  obtain ⟨lj, e2⟩ := List.getElem?_eq_some_iff.mp hj
  subst e1
  subst e2
  rw [List.pairwise_iff_getElem] at h
  rcases Nat.lt_trichotomy i j with z | z | z
  · exact absurd e (h i j li lj z)
  · exact z
  · exact absurd e.symm (h j i lj li z)
theorem va_D.subl {A : Nat → Prop} {w1 w2 : va_W} (h : va_D A w2) (hs : w1.Sublist w2) : va_D A w1 :=
  va_D.of (h.pw.sublist hs) (fun q hq => by
    obtain ⟨j, hj⟩ := List.getElem?_of_mem (hs.subset hq)
    exact h.2 j q hj)
theorem g_fit_null (C : Cx p s m args c cc nL own ws D ca A) {t : Int} (ht : isShf t) (hin : ∀ w ∈ u_ws RX8 TX8 4, w ∈ ws) (hi : ws[i]? = some (.fieldLink own index "FurrowFair$Shelf" "fit" "LFurrowFair$Fit;")) (hd : decode cc pc = .ok (.putfield index, 3))
    (kk : G p l e R s m args below meth c nL D ca ad A cells slots Q (ups σ t 3 0) (pc + 3) lv st) : G p l e R s m args below meth c nL D ca ad A cells slots Q σ pc lv (.null :: .ref (ad t) :: st) := by
  intro H locs ls hw hS hl
  obtain ⟨fa, hP, hD, hf⟩ := id hw
  obtain ⟨q0, hq⟩ := List.getElem?_of_mem (ob_X8 ht).1
  have he := wl_at (ca := ca) (ad := ad) (fa := fa) (σ := σ) hq
  rw [(ob_X8 ht).2] at he
  refine va_put (T := TX8) (C := RX8) (N := 4) (ci := 8) (ref := "FurrowFair$Shelf") (ty := .object "FurrowFair$Fit") C.1 C.2.1 C.2.2.2.2.1 hin tyX8 tyX8_ok nmX8 C.2.2.2.1 C.2.2.2.2.2.1 hP hD hS q0 he rfl 3 (by decide) (C.wd hi) (fun _ h9 => h9) rfl (tyX8_ok 3 (by decide)) rfl rfl (by show 3 < 4; decide) hd (fun H1 locs1 hP1 hD1 hS1 => ?_)
  have hset : (wl ca ad fa σ).set q0 (ad t, .inr (8, (fsX8 t ca ad fa (σ t)).set 3 .null)) = LL.map (fun a => (ad a, ce ca ad (fun d => if d = t then none else fa d) (ups σ t 3 0 a) a)) ++ SL.filterMap (fun d => (fa d).map (fun q => (q, fc (ups σ t 3 0 (d + 20))))) := by
    unfold wl
    rw [List.set_append_left _ _ (by rw [List.length_map]; exact (List.getElem?_eq_some_iff.mp hq).1)]
    congr 1
    · have e1 := map_set LL (fun b => (ad b, ce ca ad fa (σ b) b)) (fun b => (ad b, ce ca ad (fun d => if d = t then none else fa d) (ups σ t 3 0 b) b)) q0 t ll_nodup hq (fun b _ hb => by
        rw [ups_ne hb, ce_fa (fa := fa) (fa' := fun d => if d = t then none else fa d) (by simp only [if_neg hb])])
      rw [(ob_X8 ht).2] at e1
      rw [← e1]
      congr 3
      simp [fsX8, ups_self, upr, va_rf]
    · apply fm_congr
      intro d hd2
      rw [ups_ne (sl_far d hd2 t (ob_X8 ht).1)]
  rw [hset] at hP1 hD1
  have hsub : (wl ca ad (fun d => if d = t then none else fa d) (ups σ t 3 0)).Sublist (LL.map (fun a => (ad a, ce ca ad (fun d => if d = t then none else fa d) (ups σ t 3 0 a) a)) ++ SL.filterMap (fun d => (fa d).map (fun q => (q, fc (ups σ t 3 0 (d + 20)))))) :=
    List.Sublist.append (List.Sublist.refl _) (sl_sub (ca := ca))
  refine kk H1 locs1 ls ⟨fun d => if d = t then none else fa d, hP1.subl hsub, hD1.subl hsub, fun d hdd => ?_⟩ hS1 hl
  by_cases h : d = t
  · subst h
    refine Or.inl ⟨by simp [ups], by simp⟩
  · rw [ups_ne h]
    simp only [if_neg h]
    exact hf d hdd
theorem g_copyi {N N2 i1 i2 i3 i4 : Nat} {a b sp dp n sp' dp' n' : Int} (C : Cx p s m args c cc nL own ws D ca A) (hA : kI N a) (hB : kI N2 b) (e1 : s32 sp = sp') (e2 : s32 dp = dp') (e3 : s32 n = n') (hh : 0 ≤ sp' ∧ 0 ≤ dp' ∧ 0 ≤ n' ∧ sp' + n' ≤ (N : Int) ∧ dp' + n' ≤ (N2 : Int))
    (w1 : ws[i1]? = some (.methodLink own index arraycopyName)) (w2 : ws[i2]? = some (.native arraycopyName)) (w3 : ws[i3]? = some (.static arraycopyName)) (w4 : ws[i4]? = some (.initialized "java/lang/System")) (hfr : 1 ≤ R.frames) (hlo : (st.map fun v => v.category).sum + 18 ≤ R.locals) (hd : decode cc pc = .ok (.invokestatic index, 3))
    (kk : G p l e R s m args below meth c nL D ca ad A cells slots Q (cpy σ a sp' b dp' n') (pc + 3) lv st) : G p l e R s m args below meth c nL D ca ad A cells slots Q σ pc lv (.int (iI n) :: .int (iI dp) :: .ref (ad b) :: .int (iI sp) :: .ref (ad a) :: st) := by
  intro H locs ls hw hS hl
  obtain ⟨fa, hP, hD, hf⟩ := id hw
  obtain ⟨q0, hq⟩ := List.getElem?_of_mem hA.1
  obtain ⟨q1, hq1⟩ := List.getElem?_of_mem hB.1
  have he := wl_at (ca := ca) (ad := ad) (fa := fa) (σ := σ) hq
  have he1 := wl_at (ca := ca) (ad := ad) (fa := fa) (σ := σ) hq1
  rw [ce_I hA] at he
  rw [ce_I hB] at he1
  have cl : ∀ {x y : Int}, s32 x = y → 0 ≤ y → ¬ iI x < 0 ∧ (((iI x).toNatClampNeg : Nat) : Int) = y := by
    intro x y hx hy
    have h1 : (iI x).toInt = y := by rw [iI_toInt, hx]
    refine ⟨fun q => ?_, ?_⟩
    · rw [Int32.lt_iff_toInt_lt, h1] at q
      simp at q
      omega
    · rw [← h1]
      exact Int32.cast_toNatClampNeg _ (by rw [Int32.le_iff_toInt_le, h1]; simpa using hy)
  obtain ⟨c1, d1⟩ := cl e1 hh.1
  obtain ⟨c2, d2⟩ := cl e2 hh.2.1
  obtain ⟨c3, d3⟩ := cl e3 hh.2.2.1
  refine va_copyi (ty := .int) C.1 C.2.1 (C.2.2.1.trans hl.1.symm) C.2.2.2.1 (C.wd w1) (C.wd w2) (C.wd w3) (C.wd w4) C.2.2.2.2.2.1 hP hD hS q0 q1 0 0 he he1 rfl rfl rfl c1 c2 c3 (by omega) (by omega) (fun _ _ => rfl) hfr hlo hd (fun H1 locs1 hP1 hD1 hS1 => ?_)
  have hset : (wl ca ad fa σ).set q1 (ad b, .inl (ca.1, N2, .inl (va_cpy (fun j : Nat => iI (σ a (j : Int))) (fun j : Nat => iI (σ b (j : Int))) (iI sp).toNatClampNeg (iI dp).toNatClampNeg (iI n).toNatClampNeg))) = wl ca ad fa (cpy σ a sp' b dp' n') := by
    have hb : b ∈ LL := hB.1
    have hne : ∀ x : Int, x ≠ b → cpy σ a sp' b dp' n' x = σ x := by
      intro x hx
      funext j
      simp [cpy, hx]
    unfold wl
    rw [List.set_append_left _ _ (by rw [List.length_map]; exact (List.getElem?_eq_some_iff.mp hq1).1)]
    congr 1
    · have e1 := map_set LL (fun x => (ad x, ce ca ad fa (σ x) x)) (fun x => (ad x, ce ca ad fa (cpy σ a sp' b dp' n' x) x)) q1 b ll_nodup hq1 (fun x _ hx => by rw [hne x hx])
      rw [← e1]
      congr 2
      rw [ce_I hB]
      congr 4
      funext j
      unfold va_cpy cpy
      by_cases h : (iI dp).toNatClampNeg ≤ j ∧ j < (iI dp).toNatClampNeg + (iI n).toNatClampNeg
      · rw [if_pos h, if_pos ⟨rfl, by omega, by omega⟩]
        have e9 : (((iI sp).toNatClampNeg + (j - (iI dp).toNatClampNeg) : Nat) : Int) = sp' + ((j : Int) - dp') := by omega
        show iI (σ a (((iI sp).toNatClampNeg + (j - (iI dp).toNatClampNeg) : Nat) : Int)) = _
        rw [e9]
      · rw [if_neg h, if_neg (fun z => h ⟨by omega, by omega⟩)]
    · apply fm_congr
      intro d hd2
      rw [hne _ (sl_far d hd2 b hb)]
  rw [hset] at hP1 hD1
  refine kk H1 locs1 ls ⟨fa, hP1, hD1, fun d hdd => ?_⟩ hS1 hl
  have h7 : kd d = 7 := sl_kd d hdd
  have h8 := hB.2
  have hdb : d ≠ b := by
    intro e
    rw [e] at h7
    omega
  have e : cpy σ a sp' b dp' n' d 3 = σ d 3 := by simp [cpy, hdb]
  rw [e]
  exact hf d hdd
end Gn
