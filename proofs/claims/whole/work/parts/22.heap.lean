theorem ll_nodup : LL.Nodup := by decide
theorem sl_kd : ∀ d ∈ SL, kd d = 7 := by decide
theorem fm_congr {α β : Type} {f g : α → Option β} : ∀ {L : List α}, (∀ x ∈ L, f x = g x) → L.filterMap f = L.filterMap g
  | [], _ => rfl
  | x :: L, h => by
    rw [List.filterMap_cons, List.filterMap_cons, h x List.mem_cons_self, fm_congr (fun y hy => h y (List.mem_cons_of_mem _ hy))]
theorem map_set {α β : Type} : ∀ (L : List α) (f g : α → β) (k : Nat) (a : α), L.Nodup → L[k]? = some a → (∀ b ∈ L, b ≠ a → f b = g b) → (L.map f).set k (g a) = L.map g
  | [], f, g, k, a, _, h, _ => by simp at h
  | x :: L, f, g, 0, a, hn, h, hfg => by
    simp only [List.getElem?_cons_zero, Option.some.injEq] at h
    subst h
    have hx : ∀ b ∈ L, f b = g b := fun b hb => hfg b (List.mem_cons_of_mem _ hb) (fun e => (List.nodup_cons.mp hn).1 (e ▸ hb))
    simp only [List.map_cons, List.set_cons_zero]
    rw [List.map_congr_left hx]
  | x :: L, f, g, k + 1, a, hn, h, hfg => by
    simp only [List.getElem?_cons_succ] at h
    have hax : x ≠ a := fun e => (List.nodup_cons.mp hn).1 (e ▸ List.mem_of_getElem? h)
    simp only [List.map_cons, List.set_cons_succ]
    rw [map_set L f g k a (List.nodup_cons.mp hn).2 h (fun b hb he => hfg b (List.mem_cons_of_mem _ hb) he), hfg x List.mem_cons_self hax]
theorem wl_at {ca : Ca} {ad : Int → Nat} {fa : Int → Option Nat} {σ : Mem} {a : Int} {k : Nat} (h : LL[k]? = some a) : (wl ca ad fa σ)[k]? = some (ad a, ce ca ad fa (σ a) a) := by
  unfold wl
  rw [List.getElem?_append_left (by rw [List.length_map]; exact (List.getElem?_eq_some_iff.mp h).1), List.getElem?_map, h]
  rfl
theorem sl_far : ∀ d ∈ SL, ∀ a ∈ LL, d + 20 ≠ a := by decide
theorem wl_set {ca : Ca} {ad : Int → Nat} {fa : Int → Option Nat} {σ : Mem} {a i v : Int} {k : Nat} (h : LL[k]? = some a) : (wl ca ad fa σ).set k (ad a, ce ca ad fa (ups σ a i v a) a) = wl ca ad fa (ups σ a i v) := by
  have hm : a ∈ LL := List.mem_of_getElem? h
  unfold wl
  rw [List.set_append_left _ _ (by rw [List.length_map]; exact (List.getElem?_eq_some_iff.mp h).1)]
  congr 1
  · exact map_set LL (fun b => (ad b, ce ca ad fa (σ b) b)) (fun b => (ad b, ce ca ad fa (ups σ a i v b) b)) k a ll_nodup h (fun b _ hb => by rw [ups_ne hb])
  · apply fm_congr
    intro d hd
    rw [ups_ne (sl_far d hd a hm)]
theorem fok_ups {fa : Int → Option Nat} {σ : Mem} {a i v : Int} (h : fok fa σ) (hi : ∀ d ∈ SL, d = a → i ≠ 3) : fok fa (ups σ a i v) := by
  intro d hd
  have e : ups σ a i v d 3 = σ d 3 := by
    unfold ups
    rw [if_neg]
    rintro ⟨h1, h2⟩
    exact hi d hd h1 h2.symm
  rw [e]
  exact h d hd
section Gh
variable {p : Program} {l : Launch} {e : Env} {R : Room} {s : State} {m : MethodId} {args : Array Value} {below : List Frame} {meth : Method} {c : Code} {cells slots : Nat} {Q : State → Prop}
variable {cc : ByteArray} {own : String} {ws : List Cond} {nL : Nat} {D : va_G} {ca : Ca} {ad : Int → Nat} {A : Nat → Prop}
variable {σ σ' : Mem} {pc : Nat} {lv : List (Option Value)} {st : List Value}
/-- an object of class ci stands at a; its fields out of its row -/
def ob_at (a : Int) (ci : Nat) (fs : Ca → (Int → Nat) → (Int → Option Nat) → (Int → Int) → List Value) : Prop := a ∈ LL ∧ ∀ ca ad fa r, ce ca ad fa r a = .inr (ci, fs ca ad fa r)
theorem g_get (C : Cx p s m args c cc nL own ws D ca A) {a : Int} {fs : Ca → (Int → Nat) → (Int → Option Nat) → (Int → Int) → List Value} {ci N index i k : Nat} {K ref : String} {T : u_T} {v : Value} (ho : ob_at a ci fs) (hc : vwCl[ci]? = some (K, T, N)) (hin : ∀ w ∈ u_ws K T N, w ∈ ws) (hk : k < N) (hi : ws[i]? = some (.fieldLink own index ref (T k).2.1 (T k).2.2.1)) (href : ref = (T k).1) (hv : ∀ fa, (fs ca ad fa (σ a))[k]? = some v) (hd : decode cc pc = .ok (.getfield index, 3)) (kk : G p l e R s m args below meth c nL D ca ad A cells slots Q σ (pc + 3) lv (v :: st)) : G p l e R s m args below meth c nL D ca ad A cells slots Q σ pc lv (.ref (ad a) :: st) := by
  intro H locs ls hw hS hl
  obtain ⟨fa, hP, hD, hf⟩ := id hw
  obtain ⟨q0, hq⟩ := List.getElem?_of_mem ho.1
  have he := wl_at (ca := ca) (ad := ad) (fa := fa) (σ := σ) hq
  rw [ho.2] at he
  subst href
  exact va_get C.1 C.2.1 C.2.2.2.2.1 hin C.2.2.2.1 C.2.2.2.2.2.1 hP q0 he hc k hk (C.wd hi) (fun _ h9 => h9) (hv fa) hd (kk H locs ls hw hS hl)
theorem g_put (C : Cx p s m args c cc nL own ws D ca A) {a z : Int} {fs : Ca → (Int → Nat) → (Int → Option Nat) → (Int → Int) → List Value} {ci N index i k : Nat} {K ref : String} {T : u_T} {v : Value} {ty : FieldType} (ty0 : Nat → FieldType) (hty : ∀ k, k < N → parseFieldDescriptor (T k).2.2.1 = some (ty0 k)) (hnm : ∀ a, a < N → ∀ b, b < N → a ≠ b → (T a).2.1 ≠ (T b).2.1) (ho : ob_at a ci fs) (hc : vwCl[ci]? = some (K, T, N)) (hin : ∀ w ∈ u_ws K T N, w ∈ ws) (hk : k < N) (hi : ws[i]? = some (.fieldLink own index ref (T k).2.1 (T k).2.2.1)) (href : ref = (T k).1) (hfin : (T k).2.2.2 = false) (hdt : parseFieldDescriptor (T k).2.2.1 = some ty) (hn : narrow ty v = v) (hfit : fits ty v = true) (hlen : ∀ ca ad fa r, k < (fs ca ad fa r).length) (hset : ∀ ca ad fa r, (fs ca ad fa r).set k v = fs ca ad fa (upr r (k : Int) z)) (hd : decode cc pc = .ok (.putfield index, 3)) (h3 : ∀ d ∈ SL, d = a → (k : Int) ≠ 3)
    (kk : G p l e R s m args below meth c nL D ca ad A cells slots Q (ups σ a (k : Int) z) (pc + 3) lv st) : G p l e R s m args below meth c nL D ca ad A cells slots Q σ pc lv (v :: .ref (ad a) :: st) := by
  intro H locs ls hw hS hl
  obtain ⟨fa, hP, hD, hf⟩ := id hw
  obtain ⟨q0, hq⟩ := List.getElem?_of_mem ho.1
  have he := wl_at (ca := ca) (ad := ad) (fa := fa) (σ := σ) hq
  have hs := wl_set (ca := ca) (ad := ad) (fa := fa) (σ := σ) (i := (k : Int)) (v := z) hq
  rw [ho.2] at he hs
  rw [ups_self, ← hset] at hs
  subst href
  refine va_put C.1 C.2.1 C.2.2.2.2.1 hin ty0 hty hnm C.2.2.2.1 C.2.2.2.2.2.1 hP hD hS q0 he hc k hk (C.wd hi) (fun _ h9 => h9) hfin hdt hn hfit (hlen ca ad fa (σ a)) hd (fun H1 locs1 hP1 hD1 hS1 => ?_)
  rw [hs] at hP1 hD1
  exact kk H1 locs1 ls ⟨fa, hP1, hD1, fok_ups hf h3⟩ hS1 hl
/-- an int array of N places stands at a -/
abbrev kI (N : Nat) (a : Int) : Prop := a ∈ LL ∧ kd a = N + 11
abbrev kL (N : Nat) (a : Int) : Prop := a ∈ LL ∧ ((N = 4 ∧ kd a = 9) ∨ (N = 1 ∧ kd a = 10))
theorem ce_I {N : Nat} {a : Int} (h : kI N a) (fa : Int → Option Nat) (r : Int → Int) : ce ca ad fa r a = .inl (ca.1, N, .inl (fun j => iI (r (j : Int)))) := by
  unfold ce
  rw [h.2]
theorem ce_L {N : Nat} {a : Int} (h : kL N a) (fa : Int → Option Nat) (r : Int → Int) : ce ca ad fa r a = .inl (ca.2.1, N, .inr (.inl (fun j => lI (r (j : Int))))) := by
  unfold ce
  obtain ⟨-, ⟨h1, h2⟩ | ⟨h1, h2⟩⟩ := h
  · subst h1
    rw [h2]
  · subst h1
    rw [h2]
theorem ix_in {i j : Int} {N : Nat} (hj : s32 i = j) (h : 0 ≤ j ∧ j < (N : Int)) : vp_in (iI i) N ∧ (((iI i).toNatClampNeg : Nat) : Int) = j := by
  have h1 : (iI i).toInt = j := by rw [iI_toInt, hj]
  have h2 : (((iI i).toNatClampNeg : Nat) : Int) = j := by
    rw [← h1]
    exact Int32.cast_toNatClampNeg _ (by rw [Int32.le_iff_toInt_le, h1]; simpa using h.1)
  refine ⟨?_, h2⟩
  rintro (q | q)
  · rw [Int32.lt_iff_toInt_lt, h1] at q
    simp at q
    omega
  · omega
theorem g_iaload (C : Cx p s m args c cc nL own ws D ca A) {N : Nat} {a i j : Int} (hA : kI N a) (hd : decode cc pc = .ok (.iaload, 1)) (hj : s32 i = j) (hin : 0 ≤ j ∧ j < (N : Int)) (kk : G p l e R s m args below meth c nL D ca ad A cells slots Q σ (pc + 1) lv (.int (iI (σ a j)) :: st)) : G p l e R s m args below meth c nL D ca ad A cells slots Q σ pc lv (.int (iI i) :: .ref (ad a) :: st) := by
  intro H locs ls hw hS hl
  obtain ⟨fa, hP, hD, hf⟩ := id hw
  obtain ⟨q0, hq⟩ := List.getElem?_of_mem hA.1
  have he := wl_at (ca := ca) (ad := ad) (fa := fa) (σ := σ) hq
  rw [ce_I hA] at he
  obtain ⟨h1, h2⟩ := ix_in hj hin
  have h3 := kk H locs ls hw hS hl
  rw [← h2] at h3
  exact va_iald C.1 C.2.1 C.2.2.2.2.2.1 hP q0 0 he rfl h1 hd h3
theorem g_laload (C : Cx p s m args c cc nL own ws D ca A) {N : Nat} {a i j : Int} (hA : kL N a) (hd : decode cc pc = .ok (.laload, 1)) (hj : s32 i = j) (hin : 0 ≤ j ∧ j < (N : Int)) (kk : G p l e R s m args below meth c nL D ca ad A cells slots Q σ (pc + 1) lv (.long (lI (σ a j)) :: st)) : G p l e R s m args below meth c nL D ca ad A cells slots Q σ pc lv (.int (iI i) :: .ref (ad a) :: st) := by
  intro H locs ls hw hS hl
  obtain ⟨fa, hP, hD, hf⟩ := id hw
  obtain ⟨q0, hq⟩ := List.getElem?_of_mem hA.1
  have he := wl_at (ca := ca) (ad := ad) (fa := fa) (σ := σ) hq
  rw [ce_L hA] at he
  obtain ⟨h1, h2⟩ := ix_in hj hin
  have h3 := kk H locs ls hw hS hl
  rw [← h2] at h3
  exact va_lald C.1 C.2.1 C.2.2.2.2.2.1 hP q0 1 he rfl h1 hd h3
theorem upd_row (r : Int → Int) (n : Nat) (z : Int) : upd (fun j : Nat => iI (r (j : Int))) n (iI z) = fun j : Nat => iI (upr r (n : Int) z (j : Int)) := by
  funext j
  unfold upd upr
  by_cases h : j = n
  · subst h
    rw [if_pos rfl, if_pos rfl]
  · rw [if_neg h, if_neg (by omega)]
theorem updL_row (r : Int → Int) (n : Nat) (z : Int) : vp_updL (fun j : Nat => lI (r (j : Int))) n (lI z) = fun j : Nat => lI (upr r (n : Int) z (j : Int)) := by
  funext j
  unfold vp_updL upr
  by_cases h : j = n
  · subst h
    rw [if_pos rfl, if_pos rfl]
  · rw [if_neg h, if_neg (by omega)]
theorem g_iastore (C : Cx p s m args c cc nL own ws D ca A) {N : Nat} {a i j z : Int} (hA : kI N a) (hd : decode cc pc = .ok (.iastore, 1)) (hj : s32 i = j) (hin : 0 ≤ j ∧ j < (N : Int)) (kk : G p l e R s m args below meth c nL D ca ad A cells slots Q (ups σ a j z) (pc + 1) lv st) : G p l e R s m args below meth c nL D ca ad A cells slots Q σ pc lv (.int (iI z) :: .int (iI i) :: .ref (ad a) :: st) := by
  intro H locs ls hw hS hl
  obtain ⟨fa, hP, hD, hf⟩ := id hw
  obtain ⟨q0, hq⟩ := List.getElem?_of_mem hA.1
  have he := wl_at (ca := ca) (ad := ad) (fa := fa) (σ := σ) hq
  obtain ⟨h1, h2⟩ := ix_in hj hin
  have hs := wl_set (ca := ca) (ad := ad) (fa := fa) (σ := σ) (i := j) (v := z) hq
  rw [ce_I hA] at he hs
  rw [ups_self, ← h2, ← upd_row] at hs
  refine va_iast C.1 C.2.1 C.2.2.2.2.2.1 hP hD hS q0 0 he rfl h1 hd (fun H1 locs1 hP1 hD1 hS1 => ?_)
  rw [hs, h2] at hP1 hD1
  refine kk H1 locs1 ls ⟨fa, hP1, hD1, fok_ups hf (fun d hd e => ?_)⟩ hS1 hl
  exfalso
  have h7 : kd d = 7 := sl_kd d hd
  have h8 := hA.2
  rw [e] at h7
  omega
theorem g_lastore (C : Cx p s m args c cc nL own ws D ca A) {N : Nat} {a i j z : Int} (hA : kL N a) (hd : decode cc pc = .ok (.lastore, 1)) (hj : s32 i = j) (hin : 0 ≤ j ∧ j < (N : Int)) (kk : G p l e R s m args below meth c nL D ca ad A cells slots Q (ups σ a j z) (pc + 1) lv st) : G p l e R s m args below meth c nL D ca ad A cells slots Q σ pc lv (.long (lI z) :: .int (iI i) :: .ref (ad a) :: st) := by
  intro H locs ls hw hS hl
  obtain ⟨fa, hP, hD, hf⟩ := id hw
  obtain ⟨q0, hq⟩ := List.getElem?_of_mem hA.1
  have he := wl_at (ca := ca) (ad := ad) (fa := fa) (σ := σ) hq
  obtain ⟨h1, h2⟩ := ix_in hj hin
  have hs := wl_set (ca := ca) (ad := ad) (fa := fa) (σ := σ) (i := j) (v := z) hq
  rw [ce_L hA] at he hs
  rw [ups_self, ← h2, ← updL_row] at hs
  refine va_last C.1 C.2.1 C.2.2.2.2.2.1 hP hD hS q0 1 he rfl h1 hd (fun H1 locs1 hP1 hD1 hS1 => ?_)
  rw [hs, h2] at hP1 hD1
  refine kk H1 locs1 ls ⟨fa, hP1, hD1, fok_ups hf (fun d hd e => ?_)⟩ hS1 hl
  exfalso
  have h7 : kd d = 7 := sl_kd d hd
  have h8 := hA.2
  rw [e] at h7
  rcases h8 with h8 | h8 <;> omega
theorem g_aaload (C : Cx p s m args c cc nL own ws D ca A) {a i j b : Int} (h : (a = 1 ∧ b = 80 + 2 * j ∧ 0 ≤ j ∧ j < 8) ∨ ((a = 16 ∨ a = 36 ∨ a = 56) ∧ b = a + 1 + j ∧ 0 ≤ j ∧ j < 4)) (hd : decode cc pc = .ok (.aaload, 1)) (hj : s32 i = j) (kk : G p l e R s m args below meth c nL D ca ad A cells slots Q σ (pc + 1) lv (.ref (ad b) :: st)) : G p l e R s m args below meth c nL D ca ad A cells slots Q σ pc lv (.int (iI i) :: .ref (ad a) :: st) := by
  intro H locs ls hw hS hl
  obtain ⟨fa, hP, hD, hf⟩ := id hw
  have hk := C.2.2.2.2.2.1
  rcases h with ⟨ha, hb, h0, h1⟩ | ⟨ha, hb, h0, h1⟩
  · subst ha
    obtain ⟨q0, hq⟩ := List.getElem?_of_mem (show (1 : Int) ∈ LL by decide)
    have he := wl_at (ca := ca) (ad := ad) (fa := fa) (σ := σ) hq
    obtain ⟨h2, h3⟩ := ix_in (N := 8) hj ⟨h0, h1⟩
    refine va_aldq C.1 C.2.1 hk hP q0 3 (n := 8) (f := fun j => some (ad (80 + 2 * (j : Int)))) he rfl h2 hd ?_
    show W p l e R s m args below meth c H locs cells slots Q (F0 m (pc + 1) ls (.ref (ad (80 + 2 * (((iI i).toNatClampNeg : Nat) : Int))) :: st))
    rw [h3, ← hb]
    exact kk H locs ls hw hS hl
  · have hkd : kd a = 3 ∧ a ∈ LL := by
      rcases ha with rfl | rfl | rfl <;> decide
    obtain ⟨q0, hq⟩ := List.getElem?_of_mem hkd.2
    have he := wl_at (ca := ca) (ad := ad) (fa := fa) (σ := σ) hq
    have hce : ce ca ad fa (σ a) a = .inl (ca.2.2.1, 4, .inr (.inr (.inr (.inr (fun j => some (ad (a + 1 + (j : Int)))))))) := by
      unfold ce
      rw [hkd.1]
    rw [hce] at he
    obtain ⟨h2, h3⟩ := ix_in (N := 4) hj ⟨h0, h1⟩
    have hlt : (iI i).toNatClampNeg < 4 := by omega
    refine W.aald (v := .ref (ad b)) (ty := .array .int) C.1 C.2.1 (hP q0 _ he) ((hk.2 2 _ rfl).1 4 (fun j => va_rf (some (ad (a + 1 + (j : Int)))))) rfl (fun q => by cases q) (by show ¬ (iI i < 0 ∨ (arrV _ _ _).slots.size ≤ _); rw [arrV_size]; exact h2) (by show (arrV _ _ _).slots[_]? = _; rw [arrV_read _ _ hlt]; show some (Value.ref (ad (a + 1 + (((iI i).toNatClampNeg : Nat) : Int)))) = _; rw [h3, hb]) rfl rfl hd (kk H locs ls hw hS hl)
theorem g_alen (C : Cx p s m args c cc nL own ws D ca A) {N : Nat} {a : Int} (hA : kI N a) (hd : decode cc pc = .ok (.arraylength, 1)) (kk : G p l e R s m args below meth c nL D ca ad A cells slots Q σ (pc + 1) lv (.int (iI (N : Int)) :: st)) : G p l e R s m args below meth c nL D ca ad A cells slots Q σ pc lv (.ref (ad a) :: st) := by
  intro H locs ls hw hS hl
  obtain ⟨fa, hP, hD, hf⟩ := id hw
  obtain ⟨q0, hq⟩ := List.getElem?_of_mem hA.1
  have he := wl_at (ca := ca) (ad := ad) (fa := fa) (σ := σ) hq
  rw [ce_I hA] at he
  exact W.alen (n := iI (N : Int)) C.1 C.2.1 (hP q0 _ he) ((C.2.2.2.2.2.1.2 0 _ rfl).1 N (fun j => .int (iI (σ a (j : Int))))) (by show (arrV _ _ _).slots.size.toInt32 = _; rw [arrV_size]; rfl) rfl rfl hd (kk H locs ls hw hS hl)
/-- the world that a call finds -/
def Wd (D : va_G) (ca : Ca) (ad : Int → Nat) (A : Nat → Prop) (σ : Mem) (U : State) : Prop := Wr D ca ad A σ U.heap ∧ va_K D vwCl (tysOf ca) U ∧ ∀ q : Nat, U.heap.size ≤ q → A q
def Qi (D : va_G) (ca : Ca) (ad : Int → Nat) (A : Nat → Prop) (r : Int) (σ : Mem) : Array Value → State → Outcome → State → Prop := va_Qi (fun (x : Int32) (_ : Unit) => x = iI r) (fun _ t => Wr D ca ad A σ t.heap) A
def Ql (D : va_G) (ca : Ca) (ad : Int → Nat) (A : Nat → Prop) (r : Int) (σ : Mem) : Array Value → State → Outcome → State → Prop := va_Ql (fun (x : Int64) (_ : Unit) => x = lI r) (fun _ t => Wr D ca ad A σ t.heap) A
def Qv (D : va_G) (ca : Ca) (ad : Int → Nat) (A : Nat → Prop) (σ : Mem) : Array Value → State → Outcome → State → Prop := va_Qv (fun (_ : Unit) => True) (fun _ t => Wr D ca ad A σ t.heap) A
def CTi (l : Launch) (D : va_G) (ca : Ca) (ad : Int → Nat) (A : Nat → Prop) (y : MethodName) (ws : List Cond) (rm : Room) (vs : List Value) (σ : Mem) (r : Int) (σ' : Mem) : Prop := Met l y ws rm (va_Pc vs (Wd D ca ad A σ)) (Qi D ca ad A r σ') 0 0 A
def CTl (l : Launch) (D : va_G) (ca : Ca) (ad : Int → Nat) (A : Nat → Prop) (y : MethodName) (ws : List Cond) (rm : Room) (vs : List Value) (σ : Mem) (r : Int) (σ' : Mem) : Prop := Met l y ws rm (va_Pc vs (Wd D ca ad A σ)) (Ql D ca ad A r σ') 0 0 A
def CTv (l : Launch) (D : va_G) (ca : Ca) (ad : Int → Nat) (A : Nat → Prop) (y : MethodName) (ws : List Cond) (rm : Room) (vs : List Value) (σ : Mem) (σ' : Mem) : Prop := Met l y ws rm (va_Pc vs (Wd D ca ad A σ)) (Qv D ca ad A σ') 0 0 A
theorem wd_blind {vs : List Value} : FrameBlind (va_Pc vs (Wd D ca ad A σ)) := fun a U g mk q => by
  obtain ⟨q0, q1, q2, q3⟩ := q
  exact ⟨q0, q1, va_K.moved (u := U) (U := U.calling g mk a) (Vm.Alike.refl U.vm) q2, q3⟩
theorem wd_now {H : Heap} {locs : List Loc} {vs : List Value} (C : Cx p s m args c cc nL own ws D ca A) (hw : Wr D ca ad A σ H) (hS : va_S A s.heap H locs) : ∀ U : State, U.heap = H → s.WarmedH U.vm → va_Pc vs (Wd D ca ad A σ) vs.toArray U := fun U hU hW => ⟨rfl, by rw [hU]; exact hw, va_K.moved hW.alike C.2.2.2.2.2.1, fun q hq => C.2.2.2.2.2.2 q (by rw [hU] at hq; exact Nat.le_trans hS.1 hq)⟩
theorem ct_i {y : MethodName} {ws' : List Cond} {rm : Room} {maxL : Nat} {ret : Option FieldType} {vs : List Value} {lv0 : List (Option Value)} {r : Int} (hy : plainName y.cls = true) (hw : ws = Cond.code y cc maxL ret :: ws') (hown : y.cls = own) (hlv : lp lv0 = lv_args 0 vs) (hlen : (lg_sl vs).length ≤ maxL)
    (body : ∀ (p : Program) (e : Env) (s : State) (m : MethodId) (below : List Frame) (meth : Method) (c : Code), Cx p s m vs.toArray c cc maxL own ws D ca A → meth.sig.returnType = ret → meth.locks = false → meth.name = y.name → G p l e rm s m vs.toArray below meth c maxL D ca ad A 0 0 (MQ below (Qi D ca ad A r σ') vs.toArray s 0 0 A) σ 0 lv0 []) : CTi l D ca ad A y ws rm vs σ r σ' := by
  refine Met.ofW (cc := cc) (maxL := maxL) (ret := ret) hy hw ?_
  intro p e s m args below meth c s₁ B hml hv
  obtain ⟨rfl, hW, hK, hA⟩ := hv
  have C : Cx p s m vs.toArray c cc maxL own ws D ca A := ⟨B.exec, B.bytes, hml, hown ▸ findClass_of_methodNamed B.named, atoms_spec (ws := ws) B.pre, hK, hA⟩
  have hl := lv_entry vs (n := maxL) hlen
  rw [lg_entry_eq]
  exact body p e s m below meth c C B.returns B.notSynchronized (name_of_methodNamed B.named B.method).1 s.heap [] _ hW va_S.rf (lh_of hl (fun i v h => by rw [← hlv]; exact lp_mem.mpr h))
theorem ct_l {y : MethodName} {ws' : List Cond} {rm : Room} {maxL : Nat} {ret : Option FieldType} {vs : List Value} {lv0 : List (Option Value)} {r : Int} (hy : plainName y.cls = true) (hw : ws = Cond.code y cc maxL ret :: ws') (hown : y.cls = own) (hlv : lp lv0 = lv_args 0 vs) (hlen : (lg_sl vs).length ≤ maxL)
    (body : ∀ (p : Program) (e : Env) (s : State) (m : MethodId) (below : List Frame) (meth : Method) (c : Code), Cx p s m vs.toArray c cc maxL own ws D ca A → meth.sig.returnType = ret → meth.locks = false → meth.name = y.name → G p l e rm s m vs.toArray below meth c maxL D ca ad A 0 0 (MQ below (Ql D ca ad A r σ') vs.toArray s 0 0 A) σ 0 lv0 []) : CTl l D ca ad A y ws rm vs σ r σ' := by
  refine Met.ofW (cc := cc) (maxL := maxL) (ret := ret) hy hw ?_
  intro p e s m args below meth c s₁ B hml hv
  obtain ⟨rfl, hW, hK, hA⟩ := hv
  have C : Cx p s m vs.toArray c cc maxL own ws D ca A := ⟨B.exec, B.bytes, hml, hown ▸ findClass_of_methodNamed B.named, atoms_spec (ws := ws) B.pre, hK, hA⟩
  have hl := lv_entry vs (n := maxL) hlen
  rw [lg_entry_eq]
  exact body p e s m below meth c C B.returns B.notSynchronized (name_of_methodNamed B.named B.method).1 s.heap [] _ hW va_S.rf (lh_of hl (fun i v h => by rw [← hlv]; exact lp_mem.mpr h))
theorem ct_v {y : MethodName} {ws' : List Cond} {rm : Room} {maxL : Nat} {ret : Option FieldType} {vs : List Value} {lv0 : List (Option Value)} (hy : plainName y.cls = true) (hw : ws = Cond.code y cc maxL ret :: ws') (hown : y.cls = own) (hlv : lp lv0 = lv_args 0 vs) (hlen : (lg_sl vs).length ≤ maxL)
    (body : ∀ (p : Program) (e : Env) (s : State) (m : MethodId) (below : List Frame) (meth : Method) (c : Code), Cx p s m vs.toArray c cc maxL own ws D ca A → meth.sig.returnType = ret → meth.locks = false → meth.name = y.name → G p l e rm s m vs.toArray below meth c maxL D ca ad A 0 0 (MQ below (Qv D ca ad A σ') vs.toArray s 0 0 A) σ 0 lv0 []) : CTv l D ca ad A y ws rm vs σ σ' := by
  refine Met.ofW (cc := cc) (maxL := maxL) (ret := ret) hy hw ?_
  intro p e s m args below meth c s₁ B hml hv
  obtain ⟨rfl, hW, hK, hA⟩ := hv
  have C : Cx p s m vs.toArray c cc maxL own ws D ca A := ⟨B.exec, B.bytes, hml, hown ▸ findClass_of_methodNamed B.named, atoms_spec (ws := ws) B.pre, hK, hA⟩
  have hl := lv_entry vs (n := maxL) hlen
  rw [lg_entry_eq]
  exact body p e s m below meth c C B.returns B.notSynchronized (name_of_methodNamed B.named B.method).1 s.heap [] _ hW va_S.rf (lh_of hl (fun i v h => by rw [← hlv]; exact lp_mem.mpr h))
theorem g_iret (C : Cx p s m args c cc nL own ws D ca A) {r r' : Int} (hr : meth.sig.returnType = some .int) (hlk : meth.locks = false) (e1 : r' = r) (e2 : σ' = σ) (hd : decode cc pc = .ok (.ireturn, 1)) : G p l e R s m args below meth c nL D ca ad A 0 0 (MQ below (Qi D ca ad A r σ) args s 0 0 A) σ' pc lv [.int (iI r')] := by
  intro H locs ls hw hS hl
  subst e1; subst e2
  exact W.iret C.1 C.2.1 hr (fun t ht hW => ⟨⟨_, (), rfl, rfl, by show Wr D ca ad A σ' t.heap; rw [ht]; exact hw⟩, hS.F ht⟩) hS.2.2 hd
theorem g_lret (C : Cx p s m args c cc nL own ws D ca A) {r r' : Int} (hr : meth.sig.returnType = some .long) (hlk : meth.locks = false) (e1 : r' = r) (e2 : σ' = σ) (hd : decode cc pc = .ok (.lreturn, 1)) : G p l e R s m args below meth c nL D ca ad A 0 0 (MQ below (Ql D ca ad A r σ) args s 0 0 A) σ' pc lv [.long (lI r')] := by
  intro H locs ls hw hS hl
  subst e1; subst e2
  exact W.lret C.1 C.2.1 hr (fun t ht hW => ⟨⟨_, (), rfl, rfl, by show Wr D ca ad A σ' t.heap; rw [ht]; exact hw⟩, hS.F ht⟩) hS.2.2 hd
theorem g_vret (C : Cx p s m args c cc nL own ws D ca A) (hr : meth.sig.returnType = none) (hlk : meth.locks = false) (e2 : σ' = σ) (hd : decode cc pc = .ok (.return_, 1)) : G p l e R s m args below meth c nL D ca ad A 0 0 (MQ below (Qv D ca ad A σ) args s 0 0 A) σ' pc lv [] := by
  intro H locs ls hw hS hl
  subst e2
  exact W.vret C.1 C.2.1 hr (fun t ht hW => ⟨⟨(), rfl, trivial, by show Wr D ca ad A σ' t.heap; rw [ht]; exact hw⟩, hS.F ht⟩) hS.2.2 hd
theorem nz_of {r : Int} (h : s32 r = 0 ∨ s32 r = 1) : narrow .boolean (.int (iI r)) = .int (iI r) := by
  rcases h with h | h
  · rw [← iI_s32, h]
    rfl
  · rw [← iI_s32, h]
    rfl
theorem g_zret (C : Cx p s m args c cc nL own ws D ca A) {r r' : Int} (hr : meth.sig.returnType = some .boolean) (hlk : meth.locks = false) (hz : s32 r' = 0 ∨ s32 r' = 1) (e1 : r' = r) (e2 : σ' = σ) (hd : decode cc pc = .ok (.ireturn, 1)) : G p l e R s m args below meth c nL D ca ad A 0 0 (MQ below (Qi D ca ad A r σ) args s 0 0 A) σ' pc lv [.int (iI r')] := by
  intro H locs ls hw hS hl
  subst e1; subst e2
  exact W.zret C.1 C.2.1 hr (nz_of hz) (fun t ht hW => ⟨⟨_, (), rfl, rfl, by show Wr D ca ad A σ' t.heap; rw [ht]; exact hw⟩, hS.F ht⟩) hS.2.2 hd
theorem g_callVi (C : Cx p s m args c cc nL own ws D ca A) {y : MethodName} {bytes : ByteArray} {maxL index n : Nat} {ret : Option FieldType} {ws' : List Cond} {rm : Room} {As rest : List Value} {r : Int} {t : Int} {Cn : String} {ci : Nat} {q : vw_C} {fs : Ca → (Int → Nat) → (Int → Option Nat) → (Int → Int) → List Value}(hM : CTi l D ca ad A y ws' rm (.ref (ad t) :: As) σ r σ') (cw : CallW R s args own Cn index y bytes maxL ret ws' rm 0 0 n) (ho : ob_at t ci fs) (hc : vwCl[ci]? = some q) (hcn : q.1 = Cn) (hn : As.length = n) (hst : st = As.reverse ++ .ref (ad t) :: rest) (hR : (rest.map fun v => v.category).sum ≤ 8) (hd : decode cc pc = .ok (.invokevirtual index, 3)) (hcs : cells ≤ R.cells ∧ slots ≤ R.slots) (kk : G p l e R s m args below meth c nL D ca ad A cells slots Q σ' (pc + 3) lv (.int (iI r) :: rest)) : G p l e R s m args below meth c nL D ca ad A cells slots Q σ pc lv st := by
  intro H locs ls hw hS hl
  subst hst
  obtain ⟨fa, hP, hD, hf⟩ := id hw
  obtain ⟨q0, hq⟩ := List.getElem?_of_mem ho.1
  have he := wl_at (ca := ca) (ad := ad) (fa := fa) (σ := σ) hq
  rw [ho.2] at he
  have hrc := va_recv C.2.2.2.2.2.1 hP hc he
  rw [hcn] at hrc
  refine va_calli (va_runV (As := As) (rest := rest) ⟨C.1, C.2.1, C.2.2.1, C.2.2.2.1, C.2.2.2.2.1⟩ hM cw ⟨wd_blind, hrc, wd_now C hw hS⟩ rfl hn hl.1 rfl (lv_room hR) hd hcs) hS (fun _ _ h => h) (fun _ h => h) ?_
  intro x u t1 H1 locs1 ht hvm hp hB hz hk1 hS1
  rw [ht] at hB
  subst hp
  exact kk H1 locs1 ls hB hS1 hl
theorem g_callVl (C : Cx p s m args c cc nL own ws D ca A) {y : MethodName} {bytes : ByteArray} {maxL index n : Nat} {ret : Option FieldType} {ws' : List Cond} {rm : Room} {As rest : List Value} {r : Int} {t : Int} {Cn : String} {ci : Nat} {q : vw_C} {fs : Ca → (Int → Nat) → (Int → Option Nat) → (Int → Int) → List Value}(hM : CTl l D ca ad A y ws' rm (.ref (ad t) :: As) σ r σ') (cw : CallW R s args own Cn index y bytes maxL ret ws' rm 0 0 n) (ho : ob_at t ci fs) (hc : vwCl[ci]? = some q) (hcn : q.1 = Cn) (hn : As.length = n) (hst : st = As.reverse ++ .ref (ad t) :: rest) (hR : (rest.map fun v => v.category).sum ≤ 8) (hd : decode cc pc = .ok (.invokevirtual index, 3)) (hcs : cells ≤ R.cells ∧ slots ≤ R.slots) (kk : G p l e R s m args below meth c nL D ca ad A cells slots Q σ' (pc + 3) lv (.long (lI r) :: rest)) : G p l e R s m args below meth c nL D ca ad A cells slots Q σ pc lv st := by
  intro H locs ls hw hS hl
  subst hst
  obtain ⟨fa, hP, hD, hf⟩ := id hw
  obtain ⟨q0, hq⟩ := List.getElem?_of_mem ho.1
  have he := wl_at (ca := ca) (ad := ad) (fa := fa) (σ := σ) hq
  rw [ho.2] at he
  have hrc := va_recv C.2.2.2.2.2.1 hP hc he
  rw [hcn] at hrc
  refine va_calll (va_runV (As := As) (rest := rest) ⟨C.1, C.2.1, C.2.2.1, C.2.2.2.1, C.2.2.2.2.1⟩ hM cw ⟨wd_blind, hrc, wd_now C hw hS⟩ rfl hn hl.1 rfl (lv_room hR) hd hcs) hS (fun _ _ h => h) (fun _ h => h) ?_
  intro x u t1 H1 locs1 ht hvm hp hB hz hk1 hS1
  rw [ht] at hB
  subst hp
  exact kk H1 locs1 ls hB hS1 hl
theorem g_callVv (C : Cx p s m args c cc nL own ws D ca A) {y : MethodName} {bytes : ByteArray} {maxL index n : Nat} {ret : Option FieldType} {ws' : List Cond} {rm : Room} {As rest : List Value} {t : Int} {Cn : String} {ci : Nat} {q : vw_C} {fs : Ca → (Int → Nat) → (Int → Option Nat) → (Int → Int) → List Value}(hM : CTv l D ca ad A y ws' rm (.ref (ad t) :: As) σ σ') (cw : CallW R s args own Cn index y bytes maxL ret ws' rm 0 0 n) (ho : ob_at t ci fs) (hc : vwCl[ci]? = some q) (hcn : q.1 = Cn) (hn : As.length = n) (hst : st = As.reverse ++ .ref (ad t) :: rest) (hR : (rest.map fun v => v.category).sum ≤ 8) (hd : decode cc pc = .ok (.invokevirtual index, 3)) (hcs : cells ≤ R.cells ∧ slots ≤ R.slots) (kk : G p l e R s m args below meth c nL D ca ad A cells slots Q σ' (pc + 3) lv rest) : G p l e R s m args below meth c nL D ca ad A cells slots Q σ pc lv st := by
  intro H locs ls hw hS hl
  subst hst
  obtain ⟨fa, hP, hD, hf⟩ := id hw
  obtain ⟨q0, hq⟩ := List.getElem?_of_mem ho.1
  have he := wl_at (ca := ca) (ad := ad) (fa := fa) (σ := σ) hq
  rw [ho.2] at he
  have hrc := va_recv C.2.2.2.2.2.1 hP hc he
  rw [hcn] at hrc
  refine va_callv (va_runV (As := As) (rest := rest) ⟨C.1, C.2.1, C.2.2.1, C.2.2.2.1, C.2.2.2.2.1⟩ hM cw ⟨wd_blind, hrc, wd_now C hw hS⟩ rfl hn hl.1 rfl (lv_room hR) hd hcs) hS (fun _ _ h => h) (fun _ h => h) ?_
  intro u t1 H1 locs1 ht hvm hp hB hz hk1 hS1
  rw [ht] at hB
  exact kk H1 locs1 ls hB hS1 hl
theorem g_callSi (C : Cx p s m args c cc nL own ws D ca A) {y : MethodName} {bytes : ByteArray} {maxL index n : Nat} {ret : Option FieldType} {ws' : List Cond} {rm : Room} {As rest : List Value} {r : Int} (hM : CTi l D ca ad A y ws' rm As σ r σ') (cw : CallB R s args own index y bytes maxL ret ws' rm 0 0 n ∧ (Cond.static y).before args s = true) (hn : As.length = n) (hst : st = As.reverse ++ rest) (hR : (rest.map fun v => v.category).sum ≤ 8) (hd : decode cc pc = .ok (.invokestatic index, 3)) (hcs : cells ≤ R.cells ∧ slots ≤ R.slots) (kk : G p l e R s m args below meth c nL D ca ad A cells slots Q σ' (pc + 3) lv (.int (iI r) :: rest)) : G p l e R s m args below meth c nL D ca ad A cells slots Q σ pc lv st := by
  intro H locs ls hw hS hl
  subst hst
  refine va_calli (va_runS (As := As) (rest := rest) ⟨C.1, C.2.1, C.2.2.1, C.2.2.2.1, C.2.2.2.2.1⟩ hM cw ⟨wd_blind, wd_now C hw hS⟩ rfl hn hl.1 rfl (lv_room hR) hd hcs) hS (fun _ _ h => h) (fun _ h => h) ?_
  intro x u t1 H1 locs1 ht hvm hp hB hz hk1 hS1
  rw [ht] at hB
  subst hp
  exact kk H1 locs1 ls hB hS1 hl
theorem g_callSl (C : Cx p s m args c cc nL own ws D ca A) {y : MethodName} {bytes : ByteArray} {maxL index n : Nat} {ret : Option FieldType} {ws' : List Cond} {rm : Room} {As rest : List Value} {r : Int} (hM : CTl l D ca ad A y ws' rm As σ r σ') (cw : CallB R s args own index y bytes maxL ret ws' rm 0 0 n ∧ (Cond.static y).before args s = true) (hn : As.length = n) (hst : st = As.reverse ++ rest) (hR : (rest.map fun v => v.category).sum ≤ 8) (hd : decode cc pc = .ok (.invokestatic index, 3)) (hcs : cells ≤ R.cells ∧ slots ≤ R.slots) (kk : G p l e R s m args below meth c nL D ca ad A cells slots Q σ' (pc + 3) lv (.long (lI r) :: rest)) : G p l e R s m args below meth c nL D ca ad A cells slots Q σ pc lv st := by
  intro H locs ls hw hS hl
  subst hst
  refine va_calll (va_runS (As := As) (rest := rest) ⟨C.1, C.2.1, C.2.2.1, C.2.2.2.1, C.2.2.2.2.1⟩ hM cw ⟨wd_blind, wd_now C hw hS⟩ rfl hn hl.1 rfl (lv_room hR) hd hcs) hS (fun _ _ h => h) (fun _ h => h) ?_
  intro x u t1 H1 locs1 ht hvm hp hB hz hk1 hS1
  rw [ht] at hB
  subst hp
  exact kk H1 locs1 ls hB hS1 hl
theorem g_callSv (C : Cx p s m args c cc nL own ws D ca A) {y : MethodName} {bytes : ByteArray} {maxL index n : Nat} {ret : Option FieldType} {ws' : List Cond} {rm : Room} {As rest : List Value} (hM : CTv l D ca ad A y ws' rm As σ σ') (cw : CallB R s args own index y bytes maxL ret ws' rm 0 0 n ∧ (Cond.static y).before args s = true) (hn : As.length = n) (hst : st = As.reverse ++ rest) (hR : (rest.map fun v => v.category).sum ≤ 8) (hd : decode cc pc = .ok (.invokestatic index, 3)) (hcs : cells ≤ R.cells ∧ slots ≤ R.slots) (kk : G p l e R s m args below meth c nL D ca ad A cells slots Q σ' (pc + 3) lv rest) : G p l e R s m args below meth c nL D ca ad A cells slots Q σ pc lv st := by
  intro H locs ls hw hS hl
  subst hst
  refine va_callv (va_runS (As := As) (rest := rest) ⟨C.1, C.2.1, C.2.2.1, C.2.2.2.1, C.2.2.2.2.1⟩ hM cw ⟨wd_blind, wd_now C hw hS⟩ rfl hn hl.1 rfl (lv_room hR) hd hcs) hS (fun _ _ h => h) (fun _ h => h) ?_
  intro u t1 H1 locs1 ht hvm hp hB hz hk1 hS1
  rw [ht] at hB
  exact kk H1 locs1 ls hB hS1 hl
def mx32 (a b : Int) : Int := if s32 a < s32 b then b else a
def mn32 (a b : Int) : Int := if s32 b < s32 a then b else a
def mx64 (a b : Int) : Int := if s64 b < s64 a then a else b
def ab64 (a : Int) : Int := if 0 < s64 a then a else -a
theorem mx32_t (a b : Int) : iI (mx32 a b) = if iI a < iI b then iI b else iI a := by
  unfold mx32
  simp only [iI_lt]
  split <;> rfl
theorem mn32_t (a b : Int) : iI (mn32 a b) = if iI b < iI a then iI b else iI a := by
  unfold mn32
  simp only [iI_lt]
  split <;> rfl
theorem mx64_t (a b : Int) : lI (mx64 a b) = if lI b < lI a then lI a else lI b := by
  unfold mx64
  simp only [lI_lt]
  split <;> rfl
theorem ab64_t (a : Int) : lI (ab64 a) = if 0 < lI a then lI a else -lI a := by
  have h : (0 < lI a) ↔ 0 < s64 a := by
    rw [← lI_0, lI_lt]
    rfl
  unfold ab64
  simp only [h, lI_neg]
  split <;> rfl
theorem g_max (C : Cx p s m args c cc nL own ws D ca A) {i1 i2 i3 i4 x : Nat} {a b : Int} (w1 : ws[i1]? = some (.methodLink own x Lib.Math.max.name)) (w2 : ws[i2]? = some (.static Lib.Math.max.name)) (w3 : ws[i3]? = some (.initialized "java/lang/Math")) (w4 : ws[i4]? = some (.code Lib.Math.max.name Lib.Math.max.code 2 (some .int))) (hf : 1 ≤ R.frames) (hlo : (st.map fun v => v.category).sum + 13 ≤ R.locals) (hcs : cells ≤ R.cells ∧ slots ≤ R.slots) (hd : decode cc pc = .ok (.invokestatic x, 3)) (kk : G p l e R s m args below meth c nL D ca ad A cells slots Q σ (pc + 3) lv (.int (iI (mx32 a b)) :: st)) : G p l e R s m args below meth c nL D ca ad A cells slots Q σ pc lv (.int (iI b) :: .int (iI a) :: st) := by
  intro H locs ls hw hS hl
  refine va_mmax C.1 C.2.1 (C.2.2.1.trans hl.1.symm) C.2.2.2.1 (C.wd w1) (C.wd w2) (C.wd w3) (C.wd w4) hf hlo hcs.1 hcs.2 hd ?_
  have h := kk H locs ls hw hS hl
  rw [mx32_t] at h
  exact h
theorem g_min (C : Cx p s m args c cc nL own ws D ca A) {i1 i2 i3 i4 x : Nat} {a b : Int} (w1 : ws[i1]? = some (.methodLink own x Lib.Math.min.name)) (w2 : ws[i2]? = some (.static Lib.Math.min.name)) (w3 : ws[i3]? = some (.initialized "java/lang/Math")) (w4 : ws[i4]? = some (.code Lib.Math.min.name Lib.Math.min.code 2 (some .int))) (hf : 1 ≤ R.frames) (hlo : (st.map fun v => v.category).sum + 13 ≤ R.locals) (hcs : cells ≤ R.cells ∧ slots ≤ R.slots) (hd : decode cc pc = .ok (.invokestatic x, 3)) (kk : G p l e R s m args below meth c nL D ca ad A cells slots Q σ (pc + 3) lv (.int (iI (mn32 a b)) :: st)) : G p l e R s m args below meth c nL D ca ad A cells slots Q σ pc lv (.int (iI b) :: .int (iI a) :: st) := by
  intro H locs ls hw hS hl
  refine va_mmin C.1 C.2.1 (C.2.2.1.trans hl.1.symm) C.2.2.2.1 (C.wd w1) (C.wd w2) (C.wd w3) (C.wd w4) hf hlo hcs.1 hcs.2 hd ?_
  have h := kk H locs ls hw hS hl
  rw [mn32_t] at h
  exact h
theorem g_maxl (C : Cx p s m args c cc nL own ws D ca A) {i1 i2 i3 i4 x : Nat} {a b : Int} (w1 : ws[i1]? = some (.methodLink own x Lib.MathLoose.max_long.x)) (w2 : ws[i2]? = some (.static Lib.MathLoose.max_long.x)) (w3 : ws[i3]? = some (.initialized "java/lang/Math")) (w4 : ws[i4]? = some (.code Lib.MathLoose.max_long.x Lib.MathLoose.max_long.code 4 (some .long))) (hf : 1 ≤ R.frames) (hlo : (st.map fun v => v.category).sum + 15 ≤ R.locals) (hcs : cells ≤ R.cells ∧ slots ≤ R.slots) (hd : decode cc pc = .ok (.invokestatic x, 3)) (kk : G p l e R s m args below meth c nL D ca ad A cells slots Q σ (pc + 3) lv (.long (lI (mx64 a b)) :: st)) : G p l e R s m args below meth c nL D ca ad A cells slots Q σ pc lv (.long (lI b) :: .long (lI a) :: st) := by
  intro H locs ls hw hS hl
  refine va_mmax_long C.1 C.2.1 (C.2.2.1.trans hl.1.symm) C.2.2.2.1 (C.wd w1) (C.wd w2) (C.wd w3) (C.wd w4) hf hlo hcs.1 hcs.2 hd ?_
  have h := kk H locs ls hw hS hl
  rw [mx64_t] at h
  exact h
theorem g_absl (C : Cx p s m args c cc nL own ws D ca A) {i1 i2 i3 i4 x : Nat} {a : Int} (w1 : ws[i1]? = some (.methodLink own x Lib.MathLoose.abs_long.x)) (w2 : ws[i2]? = some (.static Lib.MathLoose.abs_long.x)) (w3 : ws[i3]? = some (.initialized "java/lang/Math")) (w4 : ws[i4]? = some (.code Lib.MathLoose.abs_long.x Lib.MathLoose.abs_long.code 2 (some .long))) (hf : 1 ≤ R.frames) (hlo : (st.map fun v => v.category).sum + 13 ≤ R.locals) (hcs : cells ≤ R.cells ∧ slots ≤ R.slots) (hd : decode cc pc = .ok (.invokestatic x, 3)) (kk : G p l e R s m args below meth c nL D ca ad A cells slots Q σ (pc + 3) lv (.long (lI (ab64 a)) :: st)) : G p l e R s m args below meth c nL D ca ad A cells slots Q σ pc lv (.long (lI a) :: st) := by
  intro H locs ls hw hS hl
  refine va_mabs_long C.1 C.2.1 (C.2.2.1.trans hl.1.symm) C.2.2.2.1 (C.wd w1) (C.wd w2) (C.wd w3) (C.wd w4) hf hlo hcs.1 hcs.2 hd ?_
  have h := kk H locs ls hw hS hl
  rw [ab64_t] at h
  exact h
end Gh
