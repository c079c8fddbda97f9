/-! BY HAND 17: arrays of arrays (the kit's printed block, over a word of its own) -/
def va_AOA (ty : FieldType) (U : State) : Prop := (Cond.arrayOver (.array ty)).before #[] U = true
theorem va_AOA.use {ty : FieldType} {B : Array Value} {U : State} (h : va_AOA ty U) : (Cond.arrayOver (.array ty)).before B U = true := over_moved (Vm.Alike.refl U.vm) h
theorem va_AOA.of {ty : FieldType} {B : Array Value} {U : State} (h : (Cond.arrayOver (.array ty)).before B U = true) : va_AOA ty U := over_moved (Vm.Alike.refl U.vm) h
theorem va_AOA.moved {ty : FieldType} {u U : State} (hvm : u.vm.Alike U.vm) (h : va_AOA ty u) : va_AOA ty U := over_moved hvm h
/-! ===== BEGIN new T[n][m]: the outer array a place, the inner ones among the pooled ===== -/
/-- f, but v at every address of l -/
def vr_up {α : Type} (f : Nat → α) (l : List Nat) (v : α) : Nat → α := fun a => if a ∈ l then v else f a
theorem vr_up_in {α : Type} {f : Nat → α} {l : List Nat} {v : α} {a : Nat} (h : a ∈ l) : vr_up f l v a = v := if_pos h
theorem vr_up_ne {α : Type} {f : Nat → α} {l : List Nat} {v : α} {a : Nat} (h : a ∉ l) : vr_up f l v a = f a := if_neg h
theorem vr_rows {L l : List Nat} {f : Nat → va_E} {e : va_E} (h : ∀ a, a ∈ l → a ∉ L) : va_pl L f ++ l.map (fun a => (a, e)) = va_pl (L ++ l) (vr_up f l e) := by
  unfold va_pl
  rw [List.map_append]
  congr 1
  · apply List.map_congr_left
    intro a ha
    rw [vr_up_ne (fun q => h a q ha)]
  · apply List.map_congr_left
    intro a ha
    rw [vr_up_in ha]
theorem vr_lay {X rows : va_W} {x : Nat × va_E} {pl : va_W} {D : va_G} {cl : List vw_C} {H : Heap} (hP : va_P D cl (((X ++ pl) ++ [x]) ++ rows) H) : va_P D cl ((X ++ [x]) ++ (pl ++ rows)) H := by
  rw [List.append_assoc (X ++ pl)] at hP
  have h := va_P.swap hP
  rw [← List.append_assoc X] at h
  have h2 := va_P.swap h
  rw [List.append_assoc (X ++ [x])] at h2
  exact h2
theorem vr_layD {X rows : va_W} {x : Nat × va_E} {pl : va_W} {A : Nat → Prop} (hD : va_D A (((X ++ pl) ++ [x]) ++ rows)) : va_D A ((X ++ [x]) ++ (pl ++ rows)) := by
  rw [List.append_assoc (X ++ pl)] at hD
  have h := va_D.swap hD
  rw [← List.append_assoc X] at h
  have h2 := va_D.swap h
  rw [List.append_assoc (X ++ [x])] at h2
  exact h2
/-! OUR OWN from here to VGM: the machine's making of an array of arrays, over no more of the library than every round has. -/
/-- the outer array when its first k places hold their rows, which lie behind it at q -/
def mg_out (cA : ClassId) (N q k : Nat) : Cell := arrV cA N (fun j => va_rf (if j < k then some (q + 1 + j) else none))
theorem mg_out_blank (cA : ClassId) (N q : Nat) : ({ cls := cA, slots := Array.replicate N .null, vm := .none } : Cell) = mg_out cA N q 0 := by
  rw [arrV_new]
  exact congrArg (arrV cA N) (funext fun j => by simp [va_rf])
theorem mg_out_next (cA : ClassId) (N q k : Nat) : (mg_out cA N q k).setSlot k (.ref (q + 1 + k)) = mg_out cA N q (k + 1) := by
  show (arrV cA N _).setSlot k _ = _
  rw [arrV_store]
  refine congrArg (arrV cA N) (funext fun j => ?_)
  show (if j = k then Value.ref (q + 1 + k) else va_rf (if j < k then some (q + 1 + j) else none)) = va_rf (if j < k + 1 then some (q + 1 + j) else none)
  rcases Nat.lt_trichotomy j k with h | h | h
  · rw [if_neg (by omega), if_pos h, if_pos (by omega)]
  · subst h
    rw [if_pos rfl, if_pos (by omega)]
    rfl
  · rw [if_neg (by omega), if_neg (by omega), if_neg (by omega)]
theorem mg_out_size (cA : ClassId) (N q k : Nat) : (mg_out cA N q k).slots.size = N := arrV_size _ _ _
/-- the state when k rows stand: o k the outer cell by then, ic every row's cell -/
def mg_st (u : State) (o : Nat → Cell) (ic : Cell) : Nat → State
  | 0 => u.pushCell (o 0)
  | k + 1 => ((mg_st u o ic k).pushCell ic).setCell u.heap.size (o (k + 1))
theorem mg_facts (u : State) (o : Nat → Cell) (ic : Cell) {N : Nat} (hN : ∀ k, (o k).slots.size = N) : ∀ k : Nat, (mg_st u o ic k).vm = u.vm ∧ (mg_st u o ic k).slotsUsed = u.slotsUsed + N + k * ic.slots.size ∧ (mg_st u o ic k).heap.size = u.heap.size + 1 + k ∧
    (∀ x : Nat, x < u.heap.size → (mg_st u o ic k).heap[x]? = u.heap[x]?) ∧ (mg_st u o ic k).heap[u.heap.size]? = some (o k) ∧ ∀ j : Nat, j < k → (mg_st u o ic k).heap[u.heap.size + 1 + j]? = some ic
  | 0 => by
    have e : ∀ x : Nat, (mg_st u o ic 0).heap[x]? = if x = u.heap.size then some (o 0) else u.heap[x]? := fun x => by
      show (u.heap.push (o 0))[x]? = _
      rw [Array.getElem?_push]
    refine ⟨rfl, ?_, ?_, fun x hx => ?_, ?_, fun j h => absurd h (Nat.not_lt_zero _)⟩
    · show u.slotsUsed + (o 0).slots.size = _
      rw [hN, Nat.zero_mul, Nat.add_zero]
    · show (u.heap.push (o 0)).size = _
      rw [Array.size_push]
    · rw [e, if_neg (by omega)]
    · rw [e, if_pos rfl]
  | k + 1 => by
    obtain ⟨h1, h2, h3, h4, h5, h6⟩ := mg_facts u o ic hN k
    have e : ∀ x : Nat, (mg_st u o ic (k + 1)).heap[x]? = if u.heap.size = x then some (o (k + 1)) else if x = u.heap.size + 1 + k then some ic else (mg_st u o ic k).heap[x]? := fun x => by
      show (((mg_st u o ic k).heap.push ic).setIfInBounds u.heap.size (o (k + 1)))[x]? = _
      rw [Array.getElem?_setIfInBounds, Array.getElem?_push, Array.size_push, h3, if_pos (show u.heap.size < u.heap.size + 1 + k + 1 by omega)]
    refine ⟨h1, ?_, ?_, fun x hx => ?_, ?_, fun j hj => ?_⟩
    · show (mg_st u o ic k).slotsUsed + ic.slots.size = _
      rw [h2, Nat.succ_mul]
      omega
    · show (((mg_st u o ic k).heap.push ic).setIfInBounds u.heap.size (o (k + 1))).size = _
      rw [Array.size_setIfInBounds, Array.size_push, h3]
      omega
    · rw [e, if_neg (by omega), if_neg (by omega)]
      exact h4 x hx
    · rw [e, if_pos rfl]
    · rw [e, if_neg (by omega)]
      by_cases hj2 : j = k
      · rw [if_pos (by omega)]
      · rw [if_neg (by omega)]
        exact h6 j (by omega)
theorem mg_top (u : State) (f : JFrame) (o : Nat → Cell) (ic : Cell) : ∀ k : Nat, mg_st (u.setTop f) o ic k = (mg_st u o ic k).setTop f
  | 0 => rfl
  | k + 1 => by
    show ((mg_st (u.setTop f) o ic k).pushCell ic).setCell u.heap.size (o (k + 1)) = _
    rw [mg_top u f o ic k]
    rfl
section MG1
variable {p : Program} {l : Launch} {e : Env} {R : Room} {s : State} {m : MethodId} {args : Array Value} {below : List Frame} {meth : Method} {c : Code} {T : State} {locs : List Loc} {cells slots : Nat}
theorem mg_stand (X : Stand p l e R s m args below meth c T locs cells slots) {o : Nat → Cell} {ic : Cell} {N : Nat} (hN : ∀ k, (o k).slots.size = N) (ho : ∀ k, (o k).setSlot k (.ref (T.heap.size + 1 + k)) = o (k + 1)) :
    ∀ k : Nat, Stand p l e R s m args below meth c (mg_st T o ic k) locs (cells + 1 + k) (slots + N + k * ic.slots.size)
  | 0 => by
    have h := X.pushed (o 0)
    rw [hN] at h
    rw [Nat.zero_mul]
    exact h
  | k + 1 => by
    obtain ⟨-, -, h3, -, h5, -⟩ := mg_facts T o ic hN k
    have hc : ((mg_st T o ic k).pushCell ic).heap[T.heap.size]? = some (o k) := by
      show ((mg_st T o ic k).heap.push ic)[T.heap.size]? = _
      rw [Array.getElem?_push, h3, if_neg (by omega)]
      exact h5
    have h := ((mg_stand X hN ho k).pushed ic).stored hc k (.ref (T.heap.size + 1 + k))
    rw [ho k] at h
    have h2 := h.dropFresh (fun x hx => by
      rw [List.mem_singleton.mp hx]
      exact X.heapGrown)
    rw [show slots + N + (k + 1) * ic.slots.size = slots + N + k * ic.slots.size + ic.slots.size by rw [Nat.succ_mul]; omega]
    exact h2
end MG1
theorem mg_reffits {t : FieldType} (h : t.isReference = true) {v : Value} (hv : v = .null ∨ ∃ a, v = .ref a) : fits t v = true := by
  cases t <;> first | (cases h; done) | (rcases hv with rfl | ⟨a, rfl⟩ <;> rfl)
theorem mg_make {E : CtlPost} {e : Env} {d : Bool} {acts : List Action} {u : State} {cA cy cc : ClassId} {kA kC : Class} {t0 ty : FieldType} {n k : Int32} {N K : Nat} (hn : ¬ n < 0) (hk : ¬ k < 0) (hnN : n.toNatClampNeg = N) (hkK : k.toNatClampNeg = K)
    (hkA : u.vm.classes[cA]? = some kA) (hA : kA.kind = .array cy t0) (href : t0.isReference = true) (hkC : u.vm.classes[cy]? = some kC) (hC : kC.kind = .array cc ty) (hdf : fits ty (defaultValue ty) = true)
    (hl1 : ¬ N > e.platform.arrayLengthLimit) (hh1 : ¬ N * componentBytes t0 > e.platform.maxHeapBytes) (hl2 : ¬ K > e.platform.arrayLengthLimit) (hh2 : ¬ K * componentBytes ty > e.platform.maxHeapBytes)
    (hc : u.heap.size + (1 + N) ≤ e.platform.maxCells) (hs : u.slotsUsed + (N + N * K) ≤ e.platform.maxSlots) {Q : Addr → Pre}
    (hq : ∀ d2 acts2, Q u.heap.size d2 acts2 (mg_st u (mg_out cA N u.heap.size) { cls := cy, slots := Array.replicate K (defaultValue ty), vm := .none } N)) : wp (multianewarray.make cA [n, k]) Q E e d acts u := by
  subst hnN
  subst hkK
  have hno : ([k].find? (· < 0)) = none := by simp [hk]
  generalize hi : ({ cls := cy, slots := Array.replicate k.toNatClampNeg (defaultValue ty), vm := .none } : Cell) = ic at hq
  have hz : ic.slots.size = k.toNatClampNeg := by
    rw [← hi]
    exact Array.size_replicate
  have hF := mg_facts u (mg_out cA n.toNatClampNeg u.heap.size) ic (mg_out_size cA n.toNatClampNeg u.heap.size)
  rw [multianewarray.make]
  simp only [wp_bind', W.ite, hn, if_false, wp_pure', W.theClass, hkA, hA, Option.some.injEq, exists_eq_left']
  refine W.newArray_of hkA hA hl1 hh1 (by omega) (by omega) (mg_reffits href (Or.inl rfl)) (fun acts1 => ?_)
  simp only [hno]
  rw [ite_self, wp_bind', Std.Legacy.Range.forIn_eq_forIn_range']
  refine wp_forIn_inv (fun rest s2 => ∃ i, i + rest.length = n.toNatClampNeg ∧ rest = List.range' i rest.length ∧ s2 = mg_st u (mg_out cA n.toNatClampNeg u.heap.size) ic i) _ _ ⟨0, ?_, ?_, ?_⟩ ?_ ?_
  · simp [Std.Legacy.Range.size]
  · simp [Std.Legacy.Range.size]
  · show u.pushCell _ = u.pushCell _
    rw [← mg_out_blank]
  · rintro x rest s2 d2 acts2 Q2 ⟨i, hlen, hl, rfl⟩ hnext
    rw [List.length_cons] at hlen hl
    rw [List.range'_succ] at hl
    obtain ⟨rfl, hr⟩ := List.cons.inj hl
    obtain ⟨h1, h2, h3, -, h5, -⟩ := hF x
    rw [hz] at h2
    have hm : x * k.toNatClampNeg + k.toNatClampNeg ≤ n.toNatClampNeg * k.toNatClampNeg := by
      rw [← Nat.succ_mul]
      exact Nat.mul_le_mul_right _ (by omega)
    have hkC2 : (mg_st u (mg_out cA n.toNatClampNeg u.heap.size) ic x).vm.classes[cy]? = some kC := by
      rw [h1]
      exact hkC
    simp only [wp_bind']
    rw [multianewarray.make]
    simp only [wp_bind', W.ite, hk, if_false, wp_pure', W.theClass, hkC2, hC, Option.some.injEq, exists_eq_left']
    refine W.newArray_of hkC2 hC hl2 hh2 (by omega) (by omega) hdf (fun acts3 => ?_)
    rw [show ({ cls := cy, slots := Array.replicate k.toNatClampNeg (defaultValue ty) } : Cell) = ic from hi]
    simp only [wp_bind', W.writeLoc, wp_pure']
    refine ⟨mg_out cA n.toNatClampNeg u.heap.size x, ?_, (fun h => by cases h), ?_, ?_, hnext _ _ _ ⟨x + 1, by omega, hr, ?_⟩⟩
    · show ((mg_st u (mg_out cA n.toNatClampNeg u.heap.size) ic x).heap.push ic)[u.heap.size]? = _
      rw [Array.getElem?_push, h3, if_neg (by omega)]
      exact h5
    · rw [mg_out_size]
      omega
    · show State.fitsSlot _ cA .none x _ = true
      have hkA2 : (mg_st u (mg_out cA n.toNatClampNeg u.heap.size) ic x).vm.classes[cA]? = some kA := by
        rw [h1]
        exact hkA
      simp [State.fitsSlot, State.slotType?, hkA2, hA, mg_reffits href (Or.inr ⟨_, rfl⟩)]
    · rw [h3, mg_out_next]
      rfl
  · rintro s2 d2 acts2 ⟨i, hlen, -, rfl⟩
    rw [List.length_nil, Nat.add_zero] at hlen
    subst hlen
    simp only [wp_pure']
    exact hq _ _
section MG2
variable {p : Program} {l : Launch} {e : Env} {R : Room} {s : State} {m : MethodId} {args : Array Value} {below : List Frame} {meth : Method} {c : Code} {T : State} {locs : List Loc} {cells slots : Nat}
theorem mg_row (X : Stand p l e R s m args below meth c T locs cells slots) (hexec : p.tables.exec = Jvm.exec) {own : String} {index : Nat} {ty : FieldType} (hown : s.vm.findClass own = some m.cls)
    (hclink : (Cond.classLink own index ("[" ++ (FieldType.array ty).toString)).before args s = true) (hover : (Cond.arrayOver (.array ty)).before args s = true) (harr : (Cond.arrayClass ty).before args s = true)
    {g : JFrame} (hg : g.method = m) (hdg : decode c.code g.pc = .ok (.multianewarray index 2, 4)) {n k : Int32} {N K : Nat} {rest : List Value} (hstack : g.stack = .int k :: .int n :: rest) (hn : ¬ n < 0) (hk : ¬ k < 0) (hnN : n.toNatClampNeg = N) (hkK : k.toNatClampNeg = K)
    (hb1 : N * 4 ≤ 536870912) (hb2 : K * componentBytes ty ≤ 536870912) (hb3 : K ≤ 536870912) (hdf : fits ty (defaultValue ty) = true) (hcells : cells + (1 + N) ≤ R.cells) (hslots : slots + (N + N * K) ≤ R.slots) :
    ∃ (cA cy : ClassId) (kA : Class) (F : State), s.vm.findClass ("[" ++ (FieldType.array ty).toString) = some cA ∧ s.vm.findClass (FieldType.array ty).toString = some cy ∧ s.vm.classes[cA]? = some kA ∧ kA.kind = .array cy (.array ty) ∧
      F.heap.size = T.heap.size + 1 + N ∧ (∀ x : Nat, x < T.heap.size → F.heap[x]? = T.heap[x]?) ∧ F.heap[T.heap.size]? = some (mg_out cA N T.heap.size N) ∧ (∀ j : Nat, j < N → F.heap[T.heap.size + 1 + j]? = some { cls := cy, slots := Array.replicate K (defaultValue ty), vm := .none }) ∧
      Stand p l e R s m args below meth c F locs (cells + 1 + N) (slots + N + N * K) ∧
      ∀ t, Steps p.tables e below (F.setTop { g with pc := g.pc + 4, stack := .ref T.heap.size :: rest }) t → Steps p.tables e below (T.setTop g) t := by
  subst hg
  obtain ⟨cy, cA, kA, hcy, -, hkA, hA, hcA⟩ := arrayOverA_spec hover
  obtain ⟨cy2, kC, cc, hcy2, hkC, hC⟩ := Cond.arrayClass_spec harr
  cases hcy.symm.trans hcy2
  obtain ⟨cL, hcL, hlink⟩ := Cond.classLink_spec hown hclink e.platform (by rw [X.admits.platform])
  cases hcA.symm.trans hcL
  obtain ⟨hgives, hwarm, hready⟩ := State.classEntry (e := e) X.warmed hlink
  generalize T.vm.noted g.method.cls index (.cls cA) = vm2 at hgives hwarm hready
  obtain ⟨kA2, hkA2, eA⟩ := hwarm.alike.2.2 _ _ hkA
  obtain ⟨kC2, hkC2, eC⟩ := hwarm.alike.2.2 _ _ hkC
  have hA2 : kA2.kind = .array cy (.array ty) := by rw [eA]; exact hA
  have hC2 : kC2.kind = .array cc ty := by rw [eC]; exact hC
  obtain ⟨hr1, hr2⟩ := X.roomAbove hcells hslots
  have hsz : ∀ i, (mg_out cA N T.heap.size i).slots.size = N := mg_out_size cA N T.heap.size
  have hXF := mg_stand (X.noted hwarm) (ic := { cls := cy, slots := Array.replicate K (defaultValue ty), vm := .none }) hsz (mg_out_next cA N T.heap.size) N
  rw [show ({ cls := cy, slots := Array.replicate K (defaultValue ty), vm := .none } : Cell).slots.size = K from Array.size_replicate] at hXF
  obtain ⟨-, -, f3, f4, f5, f6⟩ := mg_facts (T.setVm vm2) (mg_out cA N T.heap.size) { cls := cy, slots := Array.replicate K (defaultValue ty), vm := .none } hsz N
  refine ⟨cA, cy, kA, _, hcA, hcy, hkA, hA, f3, f4, f5, f6, hXF, fun t ht => ?_⟩
  jvm_step X.here [hexec, hdg]
  simp only [multianewarray.sem, wp_bind', W.resolveClassAt_links (State.method?_setTop g X.here.top) hgives]
  rw [W.popN, if_neg (by decide)]
  refine ⟨g, State.topJava?_setTop' (s := T.setVm vm2) g X.here.top, [.int n, .int k], rest, rfl, hstack, ?_⟩
  simp only [List.mapM_cons, List.mapM_nil, wp_bind', wp_pure']
  rw [show ((T.setTop g).setVm vm2).setTop { g with stack := rest } = (T.setVm vm2).setTop { g with stack := rest } from by
    show ((T.setVm vm2).setTop g).setTop _ = _
    rw [State.setTop_setTop]]
  refine mg_make (u := (T.setVm vm2).setTop { g with stack := rest }) hn hk hnN hkK (kA := kA2) (kC := kC2) hkA2 hA2 rfl hkC2 hC2 hdf ?_ ?_ ?_ ?_ hr1 hr2 (fun d2 acts2 => ?_)
  · rw [Launch.admits_arrayLengthLimit X.admits]
    omega
  · rw [Launch.admits_maxHeapBytes X.admits]
    show ¬ N * 4 > 536870912
    omega
  · rw [Launch.admits_arrayLengthLimit X.admits]
    omega
  · rw [Launch.admits_maxHeapBytes X.admits]
    omega
  rw [mg_top]
  simp only [State.heap_setTop, State.heap_setVm]
  simp only [wp_bind', W.mark, W.pushRef, State.topJava?_setTop' _ hXF.here.top, Option.some.injEq, exists_eq_left', State.setTop_setTop, State.heap_setTop]
  intro acts
  simp [jvm, hXF.here.top]
  exact ht
end MG2
section VGM
variable {p : Program} {l : Launch} {e : Env} {R : Room} {s : State} {m : MethodId} {args : Array Value} {below : List Frame} {meth : Method} {c : Code} {H : Heap} {locs : List Loc} {cells slots : Nat} {Q : State → Prop}
variable {cc : ByteArray} {pc : Nat} {ls : Array Slot} {rest : List Value} {D : va_G} {cl : List vw_C} {A : Nat → Prop} {a : Nat} {tys : List (ClassId × FieldType)} {ws : va_W} {H0 : Heap}
theorem va_mna {X : va_W} {L : List Nat} {f : Nat → va_E} {cc : ByteArray} (hexec : p.tables.exec = Jvm.exec) (hb : c.code = cc) {own : String} {index : Nat} {ty : FieldType} {cy : ClassId} (hown : s.vm.findClass own = some m.cls) (hclink : (Cond.classLink own index ("[" ++ (FieldType.array ty).toString)).before args s = true) (hover : va_AOA ty s) (harr : (Cond.arrayClass ty).before args s = true) (hcy : s.vm.findClass (FieldType.array ty).toString = some cy)
    (hK : va_K D cl tys s) (hP : va_P D cl (X ++ va_pl L f) H) (hD : va_D A (X ++ va_pl L f)) (hS : va_S A H0 H locs) (hA : ∀ q, H0.size ≤ q → A q) {n k : Int32} {N' K' : Nat} {z : vp_A} (hn : ¬ n < 0) (hk : ¬ k < 0) (hN : n.toNatClampNeg = N') (hM : k.toNatClampNeg = K')
    (hb1 : N' * 4 ≤ 536870912) (hb2 : K' * componentBytes ty ≤ 536870912) (hb3 : K' ≤ 536870912) (hdf : fits ty (defaultValue ty) = true) (hdd : (defaultValue ty).isDefault = true) (hcells : cells + (1 + N') ≤ R.cells) (hslots : slots + (N' + N' * K') ≤ R.slots) (hz : ∀ c : ClassId, ({ cls := c, slots := Array.replicate K' (defaultValue ty), vm := .none } : Cell) = vp_cell c z) (hdg : decode cc pc = .ok (.multianewarray index 2, 4))
    (kk : ∀ (q : Nat) (r : Nat → Nat) (cA : ClassId) (H1 : Heap), (∀ i j : Nat, i < N' → j < N' → r i = r j → i = j) → (∀ i : Nat, i < N' → r i ∉ L) → va_K D cl (tys ++ [(cA, .array ty)]) s →
      va_P D cl ((X ++ [(q, .inl (cA, N', .inr (.inr (.inr (.inr (fun i => if i < N' then some (r i) else none))))))]) ++ va_pl (L ++ (List.range N').map r) (vr_up f ((List.range N').map r) (.inl (cy, z)))) H1 → va_D A ((X ++ [(q, .inl (cA, N', .inr (.inr (.inr (.inr (fun i => if i < N' then some (r i) else none))))))]) ++ va_pl (L ++ (List.range N').map r) (vr_up f ((List.range N').map r) (.inl (cy, z)))) → va_S A H0 H1 locs →
      W p l e R s m args below meth c H1 locs (cells + 1 + N') (slots + N' + N' * K') Q (F0 m (pc + 4) ls (.ref q :: rest))) : W p l e R s m args below meth c H locs cells slots Q (F0 m pc ls (.int k :: .int n :: rest)) := by
  subst hN
  subst hM
  intro T hT Xs
  have hTh : T.heap = H := hT
  obtain ⟨cA, comp, kA9, F, fA, fC, hkA9, hkind9, f1, hold, f2, hrow, X', step⟩ := mg_row Xs hexec hown hclink (va_AOA.use hover) harr (g := F0 m pc ls (.int k :: .int n :: rest)) rfl (by rw [hb]; exact hdg) rfl hn hk rfl rfl hb1 hb2 hb3 hdf hcells hslots
  have ec : some cy = some comp := hcy.symm.trans fC
  cases ec
  rw [hTh] at f1 f2 hold hrow
  have hout : mg_out cA n.toNatClampNeg H.size n.toNatClampNeg = vp_cell cA (n.toNatClampNeg, .inr (.inr (.inr (.inr (fun i => if i < n.toNatClampNeg then some (H.size + 1 + i) else none))))) := by
    rw [vp_cell_q]
    rfl
  rw [hout] at f2
  rw [hz] at hrow
  have hlt : ∀ a, a ∈ L → a < H.size := fun a ha => by
    obtain ⟨k9, hk9⟩ := va_pl_get (X := X) (f := f) ha
    exact (hP k9 _ hk9).lt
  have hnl : ∀ i : Nat, i < n.toNatClampNeg → H.size + 1 + i ∉ L := fun i _ h => by
    have := hlt _ h
    omega
  have hnm : ∀ a, a ∈ (List.range n.toNatClampNeg).map (fun i => H.size + 1 + i) → a ∉ L := fun a ha h => by
    obtain ⟨i, -, rfl⟩ := List.mem_map.mp ha
    have := hlt _ h
    omega
  have hP0 : va_P D cl (X ++ va_pl L f) F.heap := hP.kept (fun k9 x hx => hold x.1 ((hP k9 x hx).lt))
  have hP1 : va_P D cl ((X ++ va_pl L f) ++ [(H.size, .inl (cA, n.toNatClampNeg, .inr (.inr (.inr (.inr (fun i => if i < n.toNatClampNeg then some (H.size + 1 + i) else none))))))]) F.heap := hP0.app (fun k9 x hx => by
    have h0 : k9 < 1 := (List.getElem?_eq_some_iff.mp hx).1
    rw [show k9 = 0 by omega] at hx
    cases hx
    exact f2)
  have hP2 : va_P D cl (((X ++ va_pl L f) ++ [(H.size, .inl (cA, n.toNatClampNeg, .inr (.inr (.inr (.inr (fun i => if i < n.toNatClampNeg then some (H.size + 1 + i) else none))))))]) ++ ((List.range n.toNatClampNeg).map (fun i => H.size + 1 + i)).map (fun a => (a, .inl (cy, z)))) F.heap := hP1.app (fun k9 x hx => by
    obtain ⟨a, ha, rfl⟩ := List.mem_map.mp (List.mem_of_getElem? hx)
    obtain ⟨i, hi, rfl⟩ := List.mem_map.mp ha
    exact hrow i (List.mem_range.mp hi))
  have hD2 : va_D A (((X ++ va_pl L f) ++ [(H.size, .inl (cA, n.toNatClampNeg, .inr (.inr (.inr (.inr (fun i => if i < n.toNatClampNeg then some (H.size + 1 + i) else none))))))]) ++ ((List.range n.toNatClampNeg).map (fun i => H.size + 1 + i)).map (fun a => (a, .inl (cy, z)))) := by
    have hD1 := hD.push (e := .inl (cA, n.toNatClampNeg, .inr (.inr (.inr (.inr (fun i => if i < n.toNatClampNeg then some (H.size + 1 + i) else none)))))) hP rfl (hA _ hS.1)
    generalize hW1 : (X ++ va_pl L f) ++ [(H.size, .inl (cA, n.toNatClampNeg, .inr (.inr (.inr (.inr (fun i => if i < n.toNatClampNeg then some (H.size + 1 + i) else none))))))] = W1 at hD1 hP1 ⊢
    have hle : ∀ (k9 : Nat) (x : Nat × va_E), W1[k9]? = some x → x.1 ≤ H.size := fun k9 x hx => by
      rw [← hW1] at hx
      by_cases hl : k9 < (X ++ va_pl L f).length
      · rw [List.getElem?_append_left hl] at hx
        exact Nat.le_of_lt ((hP k9 x hx).lt)
      · rw [List.getElem?_append_right (by omega)] at hx
        have h0 : k9 - (X ++ va_pl L f).length < 1 := (List.getElem?_eq_some_iff.mp hx).1
        rw [show k9 - (X ++ va_pl L f).length = 0 by omega] at hx
        cases hx
        exact Nat.le_refl _
    have hr : ∀ (k9 : Nat) (x : Nat × va_E), (((List.range n.toNatClampNeg).map (fun i => H.size + 1 + i)).map (fun a => ((a, .inl (cy, z)) : Nat × va_E)))[k9]? = some x → x.1 = H.size + 1 + k9 := fun k9 x hx => by
      rw [List.getElem?_map, List.getElem?_map] at hx
      by_cases h9 : k9 < n.toNatClampNeg
      · rw [List.getElem?_range h9] at hx
        cases hx
        rfl
      · have hn0 : (List.range n.toNatClampNeg)[k9]? = none := List.getElem?_eq_none (by rw [List.length_range]; omega)
        rw [hn0] at hx
        cases hx
    refine ⟨fun i j x y hi hj hxy => ?_, fun k9 x hx => ?_⟩
    · by_cases h1 : i < W1.length <;> by_cases h2 : j < W1.length
      · rw [List.getElem?_append_left h1] at hi
        rw [List.getElem?_append_left h2] at hj
        exact hD1.1 i j x y hi hj hxy
      · rw [List.getElem?_append_left h1] at hi
        rw [List.getElem?_append_right (by omega)] at hj
        have := hle _ _ hi
        have := hr _ _ hj
        omega
      · rw [List.getElem?_append_right (by omega)] at hi
        rw [List.getElem?_append_left h2] at hj
        have := hle _ _ hj
        have := hr _ _ hi
        omega
      · rw [List.getElem?_append_right (by omega)] at hi hj
        have := hr _ _ hi
        have := hr _ _ hj
        omega
    · by_cases h1 : k9 < W1.length
      · rw [List.getElem?_append_left h1] at hx
        exact hD1.2 k9 x hx
      · rw [List.getElem?_append_right (by omega)] at hx
        have := hr _ _ hx
        exact hA _ (by have := hS.1; omega)
  have hAr : ArrOfT s cA (.array ty) := fun N9 z9 => by
    exact ⟨(fun q hq => by cases hq), kA9, hkA9, cy, hkind9⟩
  have hK2 : va_K D cl (tys ++ [(cA, .array ty)]) s := ⟨hK.1, fun k9 x hx => by
    by_cases hl : k9 < tys.length
    · rw [List.getElem?_append_left hl] at hx
      exact hK.2 k9 x hx
    · rw [List.getElem?_append_right (by omega)] at hx
      have h0 : k9 - tys.length < 1 := (List.getElem?_eq_some_iff.mp hx).1
      rw [show k9 - tys.length = 0 by omega] at hx
      cases hx
      exact ⟨hAr, fA⟩⟩
  obtain ⟨t, a1, b1⟩ := kk H.size (fun i => H.size + 1 + i) cA F.heap (fun i j _ _ h => by have h9 : H.size + 1 + i = H.size + 1 + j := h; omega) hnl hK2 (by rw [← vr_rows hnm]; exact vr_lay hP2) (by rw [← vr_rows hnm]; exact vr_layD hD2) ⟨by rw [f1]; have := hS.1; omega, fun x h1 h2 => (hold x (Nat.lt_of_lt_of_le h1 hS.1)).trans (hS.2.1 x h1 h2), hS.2.2⟩ F rfl X'
  refine ⟨t, step t ?_, b1⟩
  have e : T.heap.size = H.size := by rw [hT]
  rw [e]
  exact a1
end VGM
/-! ===== END ===== -/
