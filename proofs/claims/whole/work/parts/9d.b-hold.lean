/-! BY HAND 8: a fit comes onto a shelf -/
theorem fm_ins {α β : Type} {f g : α → Option β} {t : α} {b : β} : ∀ {L : List α}, L.Nodup → t ∈ L → f t = none → g t = some b → (∀ d ∈ L, d ≠ t → g d = f d) → (L.filterMap g).Perm (b :: L.filterMap f)
  | [], _, ht, _, _, _ => by cases ht
  | x :: L, hn, ht, hf, hg, he => by
    rw [List.filterMap_cons, List.filterMap_cons]
    have hn2 := List.nodup_cons.mp hn
    rcases List.mem_cons.mp ht with e | h
    · subst e
      rw [hf, hg]
      have ee : L.filterMap g = L.filterMap f := fm_congr (fun d hd => he d (List.mem_cons_of_mem _ hd) (fun z => hn2.1 (z ▸ hd)))
      rw [ee]
    · have hx : x ≠ t := fun z => hn2.1 (z ▸ h)
      have ih := fm_ins hn2.2 h hf hg (fun d hd => he d (List.mem_cons_of_mem _ hd))
      rw [he x List.mem_cons_self hx]
      cases hfx : f x with
      | none => exact ih
      | some y => exact (ih.cons y).trans (List.Perm.swap b y _)
theorem va_P.mem {D : va_G} {cl : List vw_C} {w1 w2 : va_W} {H : Heap} (h : va_P D cl w2 H) (hs : ∀ x ∈ w1, x ∈ w2) : va_P D cl w1 H := by
  intro k q hk
  obtain ⟨j, hj⟩ := List.getElem?_of_mem (hs _ (List.mem_of_getElem? hk))
  exact h j q hj
theorem va_D.perm {A : Nat → Prop} {w1 w2 : va_W} (h : va_D A w2) (hp : w1.Perm w2) : va_D A w1 :=
  va_D.of ((hp.pairwise_iff (fun {x y} hxy => Ne.symm hxy)).mpr h.pw) (fun q hq => by
    obtain ⟨j, hj⟩ := List.getElem?_of_mem (hp.subset hq)
    exact h.2 j q hj)
theorem sl_nodup : SL.Nodup := by decide
section Gh2
variable {p : Program} {l : Launch} {e : Env} {R : Room} {s : State} {m : MethodId} {args : Array Value} {below : List Frame} {meth : Method} {c : Code} {cells slots mc ms : Nat} {Q : State → Prop}
variable {cc : ByteArray} {own : String} {ws : List Cond} {nL : Nat} {D : va_G} {ca : Ca} {ad : Int → Nat} {A : Nat → Prop} {WR W0 W1 : Heap → Prop} {fa : Int → Option Nat} {σ : Mem}
variable {pc i index : Nat} {lv : List (Option Value)} {st : List Value}
/-- the world, and one object more -/
def WX (D : va_G) (ca : Ca) (ad : Int → Nat) (A : Nat → Prop) (σ : Mem) (ci q : Nat) (vs : List Value) (H : Heap) : Prop := ∃ fa, WF D ca ad A fa σ H ∧ va_P D vwCl [(q, .inr (ci, vs))] H ∧ A q ∧ ∀ x ∈ wl ca ad fa σ, x.1 ≠ q
theorem wx_apart {ci q : Nat} {vs : List Value} (hw : va_D A (wl ca ad fa σ)) (hq : A q) (hne : ∀ x ∈ wl ca ad fa σ, x.1 ≠ q) : va_D A (wl ca ad fa σ ++ [(q, .inr (ci, vs))]) := by
  refine va_D.of (List.pairwise_append.mpr ⟨hw.pw, List.pairwise_singleton _ _, fun x hx y hy => ?_⟩) (fun x hx => ?_)
  · rw [List.mem_singleton.mp hy]
    exact hne x hx
  · rcases List.mem_append.mp hx with h | h
    · obtain ⟨j, hj⟩ := List.getElem?_of_mem h
      exact hw.2 j x hj
    · rw [List.mem_singleton.mp h]
      exact hq
/-- the shelf's fit, set -/
theorem gx_put (C : Cx p s m args c cc nL own ws D ca A) {t : Int} {ci q : Nat} {k n1 n2 n3 n4 : Int} (ht : isShf t) (h0 : σ t 3 = 0) (hci : kc k = ci) (hin : ∀ w ∈ u_ws RX8 TX8 4, w ∈ ws) (hi : ws[i]? = some (.fieldLink own index "FurrowFair$Shelf" "fit" "LFurrowFair$Fit;")) (hd : decode cc pc = .ok (.putfield index, 3)) {σ' : Mem} (e1 : ∀ a : Int, a ≠ t + 20 → ∀ j : Int, ¬ (a = t ∧ j = 3) → σ' a j = σ a j) (e2 : σ' t 3 = 1) (e3 : σ' (t + 20) 0 = k ∧ σ' (t + 20) 1 = n1 ∧ σ' (t + 20) 2 = n2 ∧ σ' (t + 20) 3 = n3 ∧ σ' (t + 20) 4 = n4)
    (kk : G p l e R s m args below meth c nL D ca ad A cells slots Q σ' (pc + 3) lv st) : GW (WX D ca ad A σ ci q (ov n1 n2 n3 n4)) p l e R s m args below meth c nL A cells slots Q pc lv (.ref q :: .ref (ad t) :: st) := by
  intro H locs ls hw hS hl
  obtain ⟨fa, ⟨hP, hD, hf⟩, hq, hqA, hne⟩ := hw
  obtain ⟨q0, hq0⟩ := List.getElem?_of_mem (ob_X8 ht).1
  have he := wl_at (ca := ca) (ad := ad) (fa := fa) (σ := σ) hq0
  rw [(ob_X8 ht).2] at he
  have hlen : q0 < (wl ca ad fa σ).length := (List.getElem?_eq_some_iff.mp he).1
  have he2 : (wl ca ad fa σ ++ [(q, Sum.inr (ci, ov n1 n2 n3 n4))])[q0]? = some (ad t, .inr (8, fsX8 t ca ad fa (σ t))) := by
    rw [List.getElem?_append_left hlen]
    exact he
  have tS := shf_SL ht
  have fa0 : fa t = none := by
    rcases hf t tS with ⟨-, h1⟩ | ⟨h1, -⟩
    · exact h1
    · omega
  refine va_put (T := TX8) (C := RX8) (N := 4) (ci := 8) (ref := "FurrowFair$Shelf") (ty := .object "FurrowFair$Fit") C.1 C.2.1 C.2.2.2.2.1 hin tyX8 tyX8_ok nmX8 C.2.2.2.1 C.2.2.2.2.2.1 (hP.app hq) (wx_apart hD hqA hne) hS q0 he2 rfl 3 (by decide) (C.wd hi) (fun _ h9 => h9) rfl (tyX8_ok 3 (by decide)) rfl rfl (by show 3 < 4; decide) hd (fun H1 locs1 hP1 hD1 hS1 => ?_)
  have es : ∀ a : Int, a ≠ t + 20 → a ≠ t → σ' a = σ a := fun a w1 w2 => funext fun j => e1 a w1 j (fun z => w2 z.1)
  have hset : (LL.map (fun a => (ad a, ce ca ad fa (σ a) a))).set q0 (ad t, .inr (8, (fsX8 t ca ad fa (σ t)).set 3 (.ref q))) = LL.map (fun a => (ad a, ce ca ad (fun d => if d = t then some q else fa d) (σ' a) a)) := by
    have e4 := map_set LL (fun b => (ad b, ce ca ad fa (σ b) b)) (fun b => (ad b, ce ca ad (fun d => if d = t then some q else fa d) (σ' b) b)) q0 t ll_nodup hq0 (fun b hb hbt => by
      rw [es b (fun z => sl_far t tS b hb z.symm) hbt, ce_fa (fa := fa) (fa' := fun d => if d = t then some q else fa d) (by simp only [if_neg hbt])])
    rw [(ob_X8 ht).2] at e4
    rw [← e4]
    congr 3
    have r1 := e1 t (fun z => by omega) 1 (fun z => by omega)
    have r2 := e1 t (fun z => by omega) 2 (fun z => by omega)
    simp [fsX8, va_rf, r1, r2]
  have hperm : (wl ca ad (fun d => if d = t then some q else fa d) σ').Perm ((wl ca ad fa σ ++ [(q, Sum.inr (ci, ov n1 n2 n3 n4))]).set q0 (ad t, .inr (8, (fsX8 t ca ad fa (σ t)).set 3 (.ref q)))) := by
    rw [List.set_append_left _ _ hlen]
    unfold wl
    rw [List.set_append_left _ _ (by rw [List.length_map]; exact (List.getElem?_eq_some_iff.mp hq0).1), hset, List.append_assoc]
    refine List.Perm.append_left _ ?_
    have ins := fm_ins (f := fun d => (fa d).map (fun q => (q, fc (σ (d + 20))))) (g := fun d => (if d = t then some q else fa d).map (fun q => (q, fc (σ' (d + 20))))) (b := (q, fc (σ' (t + 20)))) sl_nodup tS (by rw [fa0]; rfl) (by rw [if_pos rfl]; rfl) (fun d hdS hdt => by
      rw [if_neg hdt, es (d + 20) (fun z => hdt (by omega)) (sl_far d hdS t (ob_X8 ht).1)])
    have eb : fc (σ' (t + 20)) = Sum.inr (ci, ov n1 n2 n3 n4) := by
      unfold fc
      rw [e3.1, e3.2.1, e3.2.2.1, e3.2.2.2.1, e3.2.2.2.2, hci]
    rw [eb] at ins
    exact ins.trans (List.perm_append_singleton _ _).symm
  refine kk H1 locs1 ls ⟨fun d => if d = t then some q else fa d, hP1.mem (fun x hx => hperm.subset hx), hD1.perm hperm, fun d hdd => ?_⟩ hS1 hl
  by_cases h : d = t
  · subst h
    exact Or.inr ⟨e2, q, by simp⟩
  · have e5 : σ' d 3 = σ d 3 := e1 d (fun z => sl_far t tS d (by
      have : ∀ x ∈ SL, x ∈ LL := by decide
      exact this d hdd) z.symm) 3 (fun z => h z.1)
    rw [e5]
    simp only [if_neg h]
    exact hf d hdd
end Gh2
