/-! BASE: ints as whole numbers, the memory of the whole system, the judgement G -/
def iI (z : Int) : Int32 := Int32.ofInt z
def lI (z : Int) : Int64 := Int64.ofInt z
def s32 (z : Int) : Int := Int.bmod z 4294967296
def s64 (z : Int) : Int := Int.bmod z 18446744073709551616
theorem iI_toInt (z : Int) : (iI z).toInt = s32 z := by
  unfold iI s32
  rw [Int32.toInt_ofInt]
theorem lI_toInt (z : Int) : (lI z).toInt = s64 z := by
  unfold lI s64
  rw [Int64.toInt_ofInt]
theorem iI_eta (x : Int32) : iI x.toInt = x := Int32.ofInt_toInt x
theorem lI_eta (x : Int64) : lI x.toInt = x := Int64.ofInt_toInt x
theorem iI_s32 (z : Int) : iI (s32 z) = iI z := by rw [← iI_toInt, iI_eta]
theorem lI_s64 (z : Int) : lI (s64 z) = lI z := by rw [← lI_toInt, lI_eta]
theorem iI_add (a b : Int) : iI a + iI b = iI (a + b) := (Int32.ofInt_add a b).symm
theorem iI_sub (a b : Int) : iI a - iI b = iI (a - b) := (Int32.ofInt_sub a b).symm
theorem iI_mul (a b : Int) : iI a * iI b = iI (a * b) := (Int32.ofInt_mul a b).symm
theorem iI_neg (a : Int) : -iI a = iI (-a) := (Int32.ofInt_neg a).symm
theorem lI_add (a b : Int) : lI a + lI b = lI (a + b) := (Int64.ofInt_add a b).symm
theorem lI_sub (a b : Int) : lI a - lI b = lI (a - b) := (Int64.ofInt_sub a b).symm
theorem lI_mul (a b : Int) : lI a * lI b = lI (a * b) := (Int64.ofInt_mul a b).symm
theorem lI_neg (a : Int) : -lI a = lI (-a) := (Int64.ofInt_neg a).symm
theorem iI_lt (a b : Int) : iI a < iI b ↔ s32 a < s32 b := by rw [Int32.lt_iff_toInt_lt, iI_toInt, iI_toInt]
theorem iI_le (a b : Int) : iI a ≤ iI b ↔ s32 a ≤ s32 b := by rw [Int32.le_iff_toInt_le, iI_toInt, iI_toInt]
theorem iI_eq (a b : Int) : iI a = iI b ↔ s32 a = s32 b := by rw [← iI_toInt, ← iI_toInt, Int32.toInt_inj]
theorem lI_lt (a b : Int) : lI a < lI b ↔ s64 a < s64 b := by rw [Int64.lt_iff_toInt_lt, lI_toInt, lI_toInt]
theorem lI_le (a b : Int) : lI a ≤ lI b ↔ s64 a ≤ s64 b := by rw [Int64.le_iff_toInt_le, lI_toInt, lI_toInt]
theorem lI_eq (a b : Int) : lI a = lI b ↔ s64 a = s64 b := by rw [← lI_toInt, ← lI_toInt, Int64.toInt_inj]
theorem iI_div (a b : Int) : iI a / iI b = iI ((s32 a).tdiv (s32 b)) := by
  apply Int32.toInt_inj.mp
  rw [Int32.toInt_div, iI_toInt, iI_toInt, iI_toInt]
  rfl
theorem lI_div (a b : Int) : lI a / lI b = lI ((s64 a).tdiv (s64 b)) := by
  apply Int64.toInt_inj.mp
  rw [Int64.toInt_div, lI_toInt, lI_toInt, lI_toInt]
  rfl
theorem iI_rem (a b : Int) : iI a - iI a / iI b * iI b = iI ((s32 a).tmod (s32 b)) := by
  rw [iI_div, ← iI_s32 a, ← iI_s32 b, iI_mul, iI_sub, Int.tmod_def, Int.mul_comm]
theorem lI_rem (a b : Int) : lI a - lI a / lI b * lI b = lI ((s64 a).tmod (s64 b)) := by
  rw [lI_div, ← lI_s64 a, ← lI_s64 b, lI_mul, lI_sub, Int.tmod_def, Int.mul_comm]
theorem iI_i2l (a : Int) : (iI a).toInt64 = lI (s32 a) := by
  rw [← iI_toInt]
  apply Int64.toInt_inj.mp
  rw [Int32.toInt_toInt64, lI_toInt]
  unfold s64
  have h1 := Int32.le_toInt (iI a)
  have h2 := Int32.toInt_lt (iI a)
  rw [Int.bmod_eq_of_le] <;> omega
def shl32 (a b : Int) : Int := (iI a <<< (iI b &&& 31)).toInt
def shr32 (a b : Int) : Int := (iI a >>> (iI b &&& 31)).toInt
def and32 (a b : Int) : Int := (iI a &&& iI b).toInt
def or32 (a b : Int) : Int := (iI a ||| iI b).toInt
def ushr32 (a b : Int) : Int := ((iI a).toUInt32 >>> ((iI b).toUInt32 &&& Int32.toUInt32 31)).toInt32.toInt
def b8 (a : Int) : Int := ((iI a).toInt8.toInt32).toInt
def h16 (a : Int) : Int := ((iI a).toInt16.toInt32).toInt
/-- what an array or a field of the memory has become -/
abbrev Mem : Type := Int → Int → Int
def ups (σ : Mem) (a i v : Int) : Mem := fun x j => if x = a ∧ j = i then v else σ x j
def upr (r : Int → Int) (i v : Int) : Int → Int := fun j => if j = i then v else r j
theorem ups_self (σ : Mem) (a i v : Int) : ups σ a i v a = upr (σ a) i v := by
  funext j
  simp [ups, upr]
theorem ups_ne {σ : Mem} {a i v b : Int} (h : b ≠ a) : ups σ a i v b = σ b := by
  funext j
  simp [ups, h]
/-- results -/
def ob {β : Type} (o : Option (Int × Mem)) (f : Int → Mem → Option β) : Option β := match o with
  | none => none
  | some q => f q.1 q.2
theorem ob_inv {β : Type} {o : Option (Int × Mem)} {f : Int → Mem → Option β} {z : β} (h : ob o f = some z) : ∃ r σ, o = some (r, σ) ∧ f r σ = some z := by
  cases o with
  | none => cases h
  | some q => exact ⟨q.1, q.2, rfl, h⟩
theorem some_inv {r r' : Int} {σ σ' : Mem} (h : some (r, σ) = some (r', σ')) : r = r' ∧ σ = σ' := by
  cases h
  exact ⟨rfl, rfl⟩
/-- how long an int array is, what stands at an address -/
def al (a : Int) : Nat :=
  if a = 71 then 5 else if a = 121 ∨ a = 122 ∨ a = 123 then 39 else if a = 127 then 960
  else if a = 124 ∨ a = 125 ∨ a = 126 ∨ a = 128 ∨ a = 129 then 8
  else if a = 130 ∨ (81 ≤ a ∧ a ≤ 95) then 120 else 4
def kd (a : Int) : Nat :=
  if a = 0 then 0 else if a = 1 then 1
  else if a = 10 ∨ a = 30 ∨ a = 50 then 2
  else if a = 16 ∨ a = 36 ∨ a = 56 then 3
  else if a = 70 then 4 else if a = 72 then 5 else if a = 76 then 6
  else if a = 80 ∨ a = 82 ∨ a = 84 ∨ a = 86 ∨ a = 88 ∨ a = 90 ∨ a = 92 ∨ a = 94 then 7
  else if a = 120 then 8
  else if a = 74 ∨ a = 75 then 9
  else if a = 132 then 10
  else 11 + al a
def LL : List Int := [0, 1, 10, 11, 12, 13, 14, 15, 16, 17, 18, 19, 20, 30, 31, 32, 33, 34, 35, 36, 37, 38, 39, 40, 50, 51, 52, 53, 54, 55, 56, 57, 58, 59, 60, 70, 71, 72, 73, 74, 75, 76, 77, 78, 79, 80, 81, 82, 83, 84, 85, 86, 87, 88, 89, 90, 91, 92, 93, 94, 95, 120, 121, 122, 123, 124, 125, 126, 127, 128, 129, 130, 131, 132]
def SL : List Int := [80, 82, 84, 86, 88, 90, 92, 94]
/-- classes of arrays: of ints, of longs, of rows of ints, of shelves -/
abbrev Ca : Type := ClassId × ClassId × ClassId × ClassId
def ce (ca : Ca) (ad : Int → Nat) (fa : Int → Option Nat) (r : Int → Int) (a : Int) : va_E := match kd a with
  | 0 => .inr (11, [.ref (ad 10), .ref (ad 30), .ref (ad 70), .ref (ad 72), .ref (ad 76), .ref (ad 1), .int (iI (r 6)), .int (iI (r 7))])
  | 1 => .inl (ca.2.2.2, 8, .inr (.inr (.inr (.inr (fun j => some (ad (80 + 2 * (j : Int))))))))
  | 2 => .inr (4, [.int (iI (r 0)), .int (iI (r 1)), .int (iI (r 2)), .ref (ad (a + 1)), .ref (ad (a + 2)), .ref (ad (a + 3)), .ref (ad (a + 4)), .ref (ad (a + 5)), .ref (ad (a + 6))])
  | 3 => .inl (ca.2.2.1, 4, .inr (.inr (.inr (.inr (fun j => some (ad (a + 1 + (j : Int))))))))
  | 4 => .inr (6, [.ref (ad 50), .ref (ad 71), .int (iI (r 2)), .int (iI (r 3)), .int (iI (r 4)), .int (iI (r 5)), .int (iI (r 6)), .int (iI (r 7)), .int (iI (r 8))])
  | 5 => .inr (7, [.ref (ad 10), .ref (ad 73), .ref (ad 74), .ref (ad 75), .long (lI (r 4)), .long (lI (r 5)), .int (iI (r 6)), .int (iI (r 7)), .int (iI (r 8)), .int (iI (r 9)), .int (iI (r 10)), .long (lI (r 11)), .long (lI (r 12)), .long (lI (r 13))])
  | 6 => .inr (3, [.ref (ad 10), .ref (ad 77), .ref (ad 78), .ref (ad 79)])
  | 7 => .inr (8, [.ref (ad (a + 1)), .int (iI (r 1)), .int (iI (r 2)), va_rf (fa a)])
  | 8 => .inr (12, [.ref (ad 121), .ref (ad 122), .ref (ad 123), .ref (ad 124), .ref (ad 125), .ref (ad 126), .ref (ad 127), .ref (ad 128), .ref (ad 129), .int (iI (r 9)), .int (iI (r 10)), .int (iI (r 11)), .int (iI (r 12)), .int (iI (r 13)), .int (iI (r 14)), .int (iI (r 15)), .ref (ad 130), .int (iI (r 17)), .int (iI (r 18)), .int (iI (r 19)), .int (iI (r 20)), .long (lI (r 21)), .long (lI (r 22)), .ref (ad 131)])
  | 9 => .inl (ca.2.1, 4, .inr (.inl (fun j => lI (r (j : Int)))))
  | 10 => .inl (ca.2.1, 1, .inr (.inl (fun j => lI (r (j : Int)))))
  | n + 11 => .inl (ca.1, n, .inl (fun j => iI (r (j : Int))))
/-- a kept fit: its class by its kind -/
def kc (k : Int) : Nat := if k = 1 then 0 else if k = 2 then 9 else if k = 3 then 5 else if k = 4 then 10 else if k = 5 then 1 else 2
def fc (r : Int → Int) : va_E := .inr (kc (r 0), [.int (iI (r 1)), .int (iI (r 2)), .int (iI (r 3)), .int (iI (r 4))])
def wl (ca : Ca) (ad : Int → Nat) (fa : Int → Option Nat) (σ : Mem) : va_W :=
  LL.map (fun a => (ad a, ce ca ad fa (σ a) a)) ++ SL.filterMap (fun d => (fa d).map (fun q => (q, fc (σ (d + 20)))))
def fok (fa : Int → Option Nat) (σ : Mem) : Prop := ∀ d ∈ SL, (σ d 3 = 0 ∧ fa d = none) ∨ (σ d 3 = 1 ∧ ∃ q, fa d = some q)
def Wr (D : va_G) (ca : Ca) (ad : Int → Nat) (A : Nat → Prop) (σ : Mem) (H : Heap) : Prop :=
  ∃ fa, va_P D vwCl (wl ca ad fa σ) H ∧ va_D A (wl ca ad fa σ) ∧ fok fa σ
def tysOf (ca : Ca) : List (ClassId × FieldType) := [(ca.1, .int), (ca.2.1, .long), (ca.2.2.1, .array .int), (ca.2.2.2, .object "FurrowFair$Shelf")]
/-- the locals: a list, by place; none: unknown -/
def lh (ls : Array Slot) (nL : Nat) (lv : List (Option Value)) : Prop := ls.size = nL ∧ lv_wf ls ∧ ∀ (i : Nat) (v : Value), lv[i]? = some (some v) → ls[i]? = some (Slot.val v)
def lp (lv : List (Option Value)) : List (Nat × Value) := (List.range lv.length).filterMap (fun i => (lv.getD i none).map (fun v => (i, v)))
theorem lp_mem {lv : List (Option Value)} {i : Nat} {v : Value} : (i, v) ∈ lp lv ↔ lv[i]? = some (some v) := by
  unfold lp
  rw [List.mem_filterMap]
  constructor
  · rintro ⟨j, hj, h⟩
    rw [List.mem_range] at hj
    rw [List.getD_eq_getElem?_getD, List.getElem?_eq_getElem hj] at h
    simp only [Option.getD_some, Option.map_eq_some_iff, Prod.mk.injEq] at h
    obtain ⟨w, h1, rfl, rfl⟩ := h
    rw [List.getElem?_eq_getElem hj, h1]
  · intro h
    have hj := (List.getElem?_eq_some_iff.mp h).1
    refine ⟨i, List.mem_range.mpr hj, ?_⟩
    rw [List.getD_eq_getElem?_getD, h]
    rfl
theorem lh_has {ls : Array Slot} {nL : Nat} {lv : List (Option Value)} (h : lh ls nL lv) : lv_has ls nL (lp lv) := ⟨h.1, h.2.1, fun q hq => h.2.2 q.1 q.2 (lp_mem.mp hq)⟩
theorem lh_of {ls : Array Slot} {nL : Nat} {lv : List (Option Value)} {l : List (Nat × Value)} (h : lv_has ls nL l) (hm : ∀ i v, lv[i]? = some (some v) → (i, v) ∈ l) : lh ls nL lv := ⟨h.1, h.2.1, fun i v hv => h.2.2 (i, v) (hm i v hv)⟩
/-- no long lies across place i -/
def nl (lv : List (Option Value)) (i : Nat) : Bool := match i with
  | 0 => true
  | j + 1 => match lv[j]? with
    | some (some w) => w.category == 1
    | _ => true
theorem lh_store1 {lv : List (Option Value)} {i : Nat} {v : Value} (hk : nl lv i = true) : ∀ j w, (lv.set i (some v))[j]? = some (some w) → (j, w) ∈ ((i, v) :: (lp lv).filter (fun q => !(q.1 == i) && !(q.1 + 1 == i && q.2.category == 2))) := by
  intro j w h
  rw [List.getElem?_set] at h
  by_cases e : i = j
  · subst e
    rw [if_pos rfl] at h
    split at h
    · cases h
      exact List.mem_cons_self
    · cases h
  · rw [if_neg e] at h
    refine List.mem_cons_of_mem _ (List.mem_filter.mpr ⟨lp_mem.mpr h, ?_⟩)
    have e2 : ¬ j = i := fun z => e z.symm
    by_cases e3 : j + 1 = i
    · subst e3
      have h4 : (w.category == 1) = true := by simpa [nl, h] using hk
      have h5 : w.category = 1 := by simpa using h4
      simp [h5]
    · simp [e2, e3]
theorem lh_store2 {lv : List (Option Value)} {i : Nat} {v : Value} (hk : nl lv i = true) : ∀ j w, ((lv.set i (some v)).set (i + 1) none)[j]? = some (some w) → (j, w) ∈ ((i, v) :: (lp lv).filter (fun q => !(q.1 == i) && (!(q.1 == i + 1) && !(q.1 + 1 == i && q.2.category == 2)))) := by
  intro j w h
  rw [List.getElem?_set] at h
  by_cases e0 : i + 1 = j
  · rw [if_pos e0] at h
    split at h <;> cases h
  · rw [if_neg e0] at h
    rw [List.getElem?_set] at h
    by_cases e : i = j
    · subst e
      rw [if_pos rfl] at h
      split at h
      · cases h
        exact List.mem_cons_self
      · cases h
    · rw [if_neg e] at h
      refine List.mem_cons_of_mem _ (List.mem_filter.mpr ⟨lp_mem.mpr h, ?_⟩)
      have e2 : ¬ j = i := fun z => e z.symm
      have e5 : ¬ j = i + 1 := fun z => e0 z.symm
      by_cases e3 : j + 1 = i
      · subst e3
        have h4 : (w.category == 1) = true := by simpa [nl, h] using hk
        have h5 : w.category = 1 := by simpa using h4
        simp [h5]
        omega
      · simp [e2, e3, e5]
