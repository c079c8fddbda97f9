/-! BY HAND 22: the start: what the constructors made is the memory st0 -/
def LC : List Int := [0, 1, 10, 11, 12, 13, 14, 15, 16, 17, 18, 19, 20, 30, 31, 32, 33, 34, 35, 36, 37, 38, 39, 40, 70, 50, 51, 52, 53, 54, 55, 56, 57, 58, 59, 60, 71, 72, 73, 74, 75, 76, 77, 78, 79, 80, 81, 82, 83, 84, 85, 86, 87, 88, 89, 90, 91, 92, 93, 94, 95, 120, 121, 122, 123, 124, 125, 126, 127, 128, 129, 130, 131, 132]
def adS (q0 : Nat) (r : Nat → Nat → Nat) (qm : Nat) (rm : Nat → Nat) (qo : Nat) : Int → Nat := fun a => if a = 0 then q0 else if a = 1 then r 0 0 else if 10 ≤ a ∧ a ≤ 20 then r 1 (a - 10).toNat else if 30 ≤ a ∧ a ≤ 40 then r 2 (a - 30).toNat else if 50 ≤ a ∧ a ≤ 60 then r 3 (a - 50).toNat else if a = 70 then r 3 20 else if a = 71 then r 3 11 else if 72 ≤ a ∧ a ≤ 75 then r 4 (a - 72).toNat else if 76 ≤ a ∧ a ≤ 79 then r 5 (a - 76).toNat else if 80 ≤ a ∧ a ≤ 95 then r (6 + ((a - 80) / 2).toNat) ((a - 80) % 2).toNat else if a = 120 then qm else if 121 ≤ a ∧ a ≤ 131 then rm (a - 120).toNat else qo
theorem lc_perm : LL.Perm LC := by decide +kernel
theorem st0_z {a : Int} (h : ¬ (a = 80 ∨ a = 82 ∨ a = 84 ∨ a = 86 ∨ a = 88 ∨ a = 90 ∨ a = 92 ∨ a = 94) ∧ ¬ a = 120 ∧ ¬ a = 72) : st0 a = fun _ => 0 := by
  funext i
  unfold st0
  rw [if_neg (fun z => h.1 z.2), if_neg (fun z => h.2.1 z.1), if_neg (fun z => h.2.2 z.1)]
section Gs0
variable {D : va_G} {ca : Ca} {A : Nat → Prop} {q0 qm qo : Nat} {r : Nat → Nat → Nat} {rm : Nat → Nat} {H : Heap}
abbrev wS (ca : Ca) (q0 : Nat) (r : Nat → Nat → Nat) (qm : Nat) (rm : Nat → Nat) (qo : Nat) : va_W := mkFF ca q0 r ++ mkMod ca qm rm ++ [(qo, L4 ca 1)]
theorem cvO {cA : ClassId} {N q : Nat} {f g : Nat → Option Nat} (h : ∀ j, j < N → f j = g j) (h2 : va_at D vwCl (q, .inl (cA, N, .inr (.inr (.inr (.inr f))))) H) : va_at D vwCl (q, .inl (cA, N, .inr (.inr (.inr (.inr g))))) H := by
  have h3 : H[q]? = some (vp_cell cA (N, .inr (.inr (.inr (.inr f))))) := h2
  refine (show H[q]? = some (vp_cell cA (N, .inr (.inr (.inr (.inr g))))) from ?_)
  rw [h3, vp_cell_q, vp_cell_q]
  exact congrArg some (arrV_ext (fun j hj => by rw [h j hj]))
theorem adS_0 : adS q0 r qm rm qo 0 = q0 := by simp [adS]
theorem adS_1 : adS q0 r qm rm qo 1 = r 0 0 := by simp [adS]
theorem adS_10 : adS q0 r qm rm qo 10 = r 1 0 := by simp [adS]
theorem adS_11 : adS q0 r qm rm qo 11 = r 1 1 := by simp [adS]
theorem adS_12 : adS q0 r qm rm qo 12 = r 1 2 := by simp [adS]
theorem adS_13 : adS q0 r qm rm qo 13 = r 1 3 := by simp [adS]
theorem adS_14 : adS q0 r qm rm qo 14 = r 1 4 := by simp [adS]
theorem adS_15 : adS q0 r qm rm qo 15 = r 1 5 := by simp [adS]
theorem adS_16 : adS q0 r qm rm qo 16 = r 1 6 := by simp [adS]
theorem adS_17 : adS q0 r qm rm qo 17 = r 1 7 := by simp [adS]
theorem adS_18 : adS q0 r qm rm qo 18 = r 1 8 := by simp [adS]
theorem adS_19 : adS q0 r qm rm qo 19 = r 1 9 := by simp [adS]
theorem adS_20 : adS q0 r qm rm qo 20 = r 1 10 := by simp [adS]
theorem adS_30 : adS q0 r qm rm qo 30 = r 2 0 := by simp [adS]
theorem adS_31 : adS q0 r qm rm qo 31 = r 2 1 := by simp [adS]
theorem adS_32 : adS q0 r qm rm qo 32 = r 2 2 := by simp [adS]
theorem adS_33 : adS q0 r qm rm qo 33 = r 2 3 := by simp [adS]
theorem adS_34 : adS q0 r qm rm qo 34 = r 2 4 := by simp [adS]
theorem adS_35 : adS q0 r qm rm qo 35 = r 2 5 := by simp [adS]
theorem adS_36 : adS q0 r qm rm qo 36 = r 2 6 := by simp [adS]
theorem adS_37 : adS q0 r qm rm qo 37 = r 2 7 := by simp [adS]
theorem adS_38 : adS q0 r qm rm qo 38 = r 2 8 := by simp [adS]
theorem adS_39 : adS q0 r qm rm qo 39 = r 2 9 := by simp [adS]
theorem adS_40 : adS q0 r qm rm qo 40 = r 2 10 := by simp [adS]
theorem adS_70 : adS q0 r qm rm qo 70 = r 3 20 := by simp [adS]
theorem adS_50 : adS q0 r qm rm qo 50 = r 3 0 := by simp [adS]
theorem adS_51 : adS q0 r qm rm qo 51 = r 3 1 := by simp [adS]
theorem adS_52 : adS q0 r qm rm qo 52 = r 3 2 := by simp [adS]
theorem adS_53 : adS q0 r qm rm qo 53 = r 3 3 := by simp [adS]
theorem adS_54 : adS q0 r qm rm qo 54 = r 3 4 := by simp [adS]
theorem adS_55 : adS q0 r qm rm qo 55 = r 3 5 := by simp [adS]
theorem adS_56 : adS q0 r qm rm qo 56 = r 3 6 := by simp [adS]
theorem adS_57 : adS q0 r qm rm qo 57 = r 3 7 := by simp [adS]
theorem adS_58 : adS q0 r qm rm qo 58 = r 3 8 := by simp [adS]
theorem adS_59 : adS q0 r qm rm qo 59 = r 3 9 := by simp [adS]
theorem adS_60 : adS q0 r qm rm qo 60 = r 3 10 := by simp [adS]
theorem adS_71 : adS q0 r qm rm qo 71 = r 3 11 := by simp [adS]
theorem adS_72 : adS q0 r qm rm qo 72 = r 4 0 := by simp [adS]
theorem adS_73 : adS q0 r qm rm qo 73 = r 4 1 := by simp [adS]
theorem adS_74 : adS q0 r qm rm qo 74 = r 4 2 := by simp [adS]
theorem adS_75 : adS q0 r qm rm qo 75 = r 4 3 := by simp [adS]
theorem adS_76 : adS q0 r qm rm qo 76 = r 5 0 := by simp [adS]
theorem adS_77 : adS q0 r qm rm qo 77 = r 5 1 := by simp [adS]
theorem adS_78 : adS q0 r qm rm qo 78 = r 5 2 := by simp [adS]
theorem adS_79 : adS q0 r qm rm qo 79 = r 5 3 := by simp [adS]
theorem adS_80 : adS q0 r qm rm qo 80 = r 6 0 := by simp [adS]
theorem adS_81 : adS q0 r qm rm qo 81 = r 6 1 := by simp [adS]
theorem adS_82 : adS q0 r qm rm qo 82 = r 7 0 := by simp [adS]
theorem adS_83 : adS q0 r qm rm qo 83 = r 7 1 := by simp [adS]
theorem adS_84 : adS q0 r qm rm qo 84 = r 8 0 := by simp [adS]
theorem adS_85 : adS q0 r qm rm qo 85 = r 8 1 := by simp [adS]
theorem adS_86 : adS q0 r qm rm qo 86 = r 9 0 := by simp [adS]
theorem adS_87 : adS q0 r qm rm qo 87 = r 9 1 := by simp [adS]
theorem adS_88 : adS q0 r qm rm qo 88 = r 10 0 := by simp [adS]
theorem adS_89 : adS q0 r qm rm qo 89 = r 10 1 := by simp [adS]
theorem adS_90 : adS q0 r qm rm qo 90 = r 11 0 := by simp [adS]
theorem adS_91 : adS q0 r qm rm qo 91 = r 11 1 := by simp [adS]
theorem adS_92 : adS q0 r qm rm qo 92 = r 12 0 := by simp [adS]
theorem adS_93 : adS q0 r qm rm qo 93 = r 12 1 := by simp [adS]
theorem adS_94 : adS q0 r qm rm qo 94 = r 13 0 := by simp [adS]
theorem adS_95 : adS q0 r qm rm qo 95 = r 13 1 := by simp [adS]
theorem adS_120 : adS q0 r qm rm qo 120 = qm := by simp [adS]
theorem adS_121 : adS q0 r qm rm qo 121 = rm 1 := by simp [adS]
theorem adS_122 : adS q0 r qm rm qo 122 = rm 2 := by simp [adS]
theorem adS_123 : adS q0 r qm rm qo 123 = rm 3 := by simp [adS]
theorem adS_124 : adS q0 r qm rm qo 124 = rm 4 := by simp [adS]
theorem adS_125 : adS q0 r qm rm qo 125 = rm 5 := by simp [adS]
theorem adS_126 : adS q0 r qm rm qo 126 = rm 6 := by simp [adS]
theorem adS_127 : adS q0 r qm rm qo 127 = rm 7 := by simp [adS]
theorem adS_128 : adS q0 r qm rm qo 128 = rm 8 := by simp [adS]
theorem adS_129 : adS q0 r qm rm qo 129 = rm 9 := by simp [adS]
theorem adS_130 : adS q0 r qm rm qo 130 = rm 10 := by simp [adS]
theorem adS_131 : adS q0 r qm rm qo 131 = rm 11 := by simp [adS]
theorem adS_132 : adS q0 r qm rm qo 132 = qo := by simp [adS]
def wX (ca : Ca) (q0 : Nat) (r : Nat → Nat → Nat) (qm : Nat) (rm : Nat → Nat) (qo : Nat) : va_W := [(q0, .inr (11, [.ref (r 1 0), .ref (r 2 0), .ref (r 3 20), .ref (r 4 0), .ref (r 5 0), .ref (r 0 0), .int (iI 0), .int (iI 0)])), (r 0 0, O4 ca.2.2.2 8 [some (r 6 0), some (r 7 0), some (r 8 0), some (r 9 0), some (r 10 0), some (r 11 0), some (r 12 0), some (r 13 0)]), (r 1 0, .inr (4, [.int (iI 0), .int (iI 0), .int (iI 0), .ref (r 1 1), .ref (r 1 2), .ref (r 1 3), .ref (r 1 4), .ref (r 1 5), .ref (r 1 6)])), (r 1 1, I4 ca 4), (r 1 2, I4 ca 4), (r 1 3, I4 ca 4), (r 1 4, I4 ca 4), (r 1 5, I4 ca 4), (r 1 6, O4 ca.2.2.1 4 [some (r 1 7), some (r 1 8), some (r 1 9), some (r 1 10)]), (r 1 7, I4 ca 4), (r 1 8, I4 ca 4), (r 1 9, I4 ca 4), (r 1 10, I4 ca 4), (r 2 0, .inr (4, [.int (iI 0), .int (iI 0), .int (iI 0), .ref (r 2 1), .ref (r 2 2), .ref (r 2 3), .ref (r 2 4), .ref (r 2 5), .ref (r 2 6)])), (r 2 1, I4 ca 4), (r 2 2, I4 ca 4), (r 2 3, I4 ca 4), (r 2 4, I4 ca 4), (r 2 5, I4 ca 4), (r 2 6, O4 ca.2.2.1 4 [some (r 2 7), some (r 2 8), some (r 2 9), some (r 2 10)]), (r 2 7, I4 ca 4), (r 2 8, I4 ca 4), (r 2 9, I4 ca 4), (r 2 10, I4 ca 4), (r 3 20, .inr (6, [.ref (r 3 0), .ref (r 3 11), .int (iI 0), .int (iI 0), .int (iI 0), .int (iI 0), .int (iI 0), .int (iI 0), .int (iI 0)])), (r 3 0, .inr (4, [.int (iI 0), .int (iI 0), .int (iI 0), .ref (r 3 1), .ref (r 3 2), .ref (r 3 3), .ref (r 3 4), .ref (r 3 5), .ref (r 3 6)])), (r 3 1, I4 ca 4), (r 3 2, I4 ca 4), (r 3 3, I4 ca 4), (r 3 4, I4 ca 4), (r 3 5, I4 ca 4), (r 3 6, O4 ca.2.2.1 4 [some (r 3 7), some (r 3 8), some (r 3 9), some (r 3 10)]), (r 3 7, I4 ca 4), (r 3 8, I4 ca 4), (r 3 9, I4 ca 4), (r 3 10, I4 ca 4), (r 3 11, I4 ca 5), (r 4 0, .inr (7, [.ref (r 1 0), .ref (r 4 1), .ref (r 4 2), .ref (r 4 3), .long (lI 0), .long (lI 0), .int (iI 0), .int (iI 0), .int (iI 0), .int (iI 0), .int (iI 0), .long (lI 1), .long (lI 1), .long (lI 0)])), (r 4 1, I4 ca 4), (r 4 2, L4 ca 4), (r 4 3, L4 ca 4), (r 5 0, .inr (3, [.ref (r 1 0), .ref (r 5 1), .ref (r 5 2), .ref (r 5 3)])), (r 5 1, I4 ca 4), (r 5 2, I4 ca 4), (r 5 3, I4 ca 4), (r 6 0, .inr (8, [.ref (r 6 1), .int (iI (-1)), .int (iI 0), .null])), (r 6 1, I4 ca 120), (r 7 0, .inr (8, [.ref (r 7 1), .int (iI (-1)), .int (iI 0), .null])), (r 7 1, I4 ca 120), (r 8 0, .inr (8, [.ref (r 8 1), .int (iI (-1)), .int (iI 0), .null])), (r 8 1, I4 ca 120), (r 9 0, .inr (8, [.ref (r 9 1), .int (iI (-1)), .int (iI 0), .null])), (r 9 1, I4 ca 120), (r 10 0, .inr (8, [.ref (r 10 1), .int (iI (-1)), .int (iI 0), .null])), (r 10 1, I4 ca 120), (r 11 0, .inr (8, [.ref (r 11 1), .int (iI (-1)), .int (iI 0), .null])), (r 11 1, I4 ca 120), (r 12 0, .inr (8, [.ref (r 12 1), .int (iI (-1)), .int (iI 0), .null])), (r 12 1, I4 ca 120), (r 13 0, .inr (8, [.ref (r 13 1), .int (iI (-1)), .int (iI 0), .null])), (r 13 1, I4 ca 120), (qm, .inr (12, [.ref (rm 1), .ref (rm 2), .ref (rm 3), .ref (rm 4), .ref (rm 5), .ref (rm 6), .ref (rm 7), .ref (rm 8), .ref (rm 9), .int (iI 0), .int (iI 0), .int (iI 0), .int (iI 0), .int (iI 0), .int (iI 0), .int (iI 0), .ref (rm 10), .int (iI 0), .int (iI 0), .int (iI 1), .int (iI 0), .long (lI 0), .long (lI 0), .ref (rm 11)])), (rm 1, I4 ca 39), (rm 2, I4 ca 39), (rm 3, I4 ca 39), (rm 4, I4 ca 8), (rm 5, I4 ca 8), (rm 6, I4 ca 8), (rm 7, I4 ca 960), (rm 8, I4 ca 8), (rm 9, I4 ca 8), (rm 10, I4 ca 120), (rm 11, I4 ca 4), (qo, L4 ca 1)]
theorem wS_eq : wS ca q0 r qm rm qo = wX ca q0 r qm rm qo := by
  unfold wS mkFF mkR mkMod mkM mkSc mkL mkS wX
  simp only [List.cons_append, List.nil_append, List.append_assoc]
theorem wS_fst : (wS ca q0 r qm rm qo).map (fun x => x.1) = LC.map (adS q0 r qm rm qo) := by
  unfold LC
  rw [wS_eq]
  unfold wX
  simp only [List.map_cons, List.map_nil, adS_0, adS_1, adS_10, adS_11, adS_12, adS_13, adS_14, adS_15, adS_16, adS_17, adS_18, adS_19, adS_20, adS_30, adS_31, adS_32, adS_33, adS_34, adS_35, adS_36, adS_37, adS_38, adS_39, adS_40, adS_70, adS_50, adS_51, adS_52, adS_53, adS_54, adS_55, adS_56, adS_57, adS_58, adS_59, adS_60, adS_71, adS_72, adS_73, adS_74, adS_75, adS_76, adS_77, adS_78, adS_79, adS_80, adS_81, adS_82, adS_83, adS_84, adS_85, adS_86, adS_87, adS_88, adS_89, adS_90, adS_91, adS_92, adS_93, adS_94, adS_95, adS_120, adS_121, adS_122, adS_123, adS_124, adS_125, adS_126, adS_127, adS_128, adS_129, adS_130, adS_131, adS_132]
def okS (D : va_G) (ca : Ca) (q0 : Nat) (r : Nat → Nat → Nat) (qm : Nat) (rm : Nat → Nat) (qo : Nat) (H : Heap) (a : Int) : Prop := va_at D vwCl (adS q0 r qm rm qo a, ce ca (adS q0 r qm rm qo) (fun _ => none) (st0 a) a) H
theorem ce_16 {ad : Int → Nat} {fa : Int → Option Nat} {r : Int → Int} : ce ca ad fa r 16 = .inl (ca.2.2.1, 4, .inr (.inr (.inr (.inr (fun j => some (ad (16 + 1 + (j : Int)))))))) := rfl
theorem ce_36 {ad : Int → Nat} {fa : Int → Option Nat} {r : Int → Int} : ce ca ad fa r 36 = .inl (ca.2.2.1, 4, .inr (.inr (.inr (.inr (fun j => some (ad (36 + 1 + (j : Int)))))))) := rfl
theorem ce_56 {ad : Int → Nat} {fa : Int → Option Nat} {r : Int → Int} : ce ca ad fa r 56 = .inl (ca.2.2.1, 4, .inr (.inr (.inr (.inr (fun j => some (ad (56 + 1 + (j : Int)))))))) := rfl
theorem ce_1 {ad : Int → Nat} {fa : Int → Option Nat} {r : Int → Int} : ce ca ad fa r 1 = .inl (ca.2.2.2, 8, .inr (.inr (.inr (.inr (fun j => some (ad (80 + 2 * (j : Int)))))))) := rfl
theorem okS_0 (h : va_P D vwCl (wX ca q0 r qm rm qo) H) : okS D ca q0 r qm rm qo H 0 := by
  have e : ce ca (adS q0 r qm rm qo) (fun _ => none) (st0 0) 0 = .inr (11, [.ref (r 1 0), .ref (r 2 0), .ref (r 3 20), .ref (r 4 0), .ref (r 5 0), .ref (r 0 0), .int (iI 0), .int (iI 0)]) := by
    rw [ob_X11.2]
    simp [fsX11, adS_10, adS_30, adS_70, adS_72, adS_76, adS_1, st0, va_rf]
  unfold okS
  rw [e, adS_0]
  exact h 0 _ rfl
theorem okS_1 (h : va_P D vwCl (wX ca q0 r qm rm qo) H) : okS D ca q0 r qm rm qo H 1 := by
  unfold okS
  rw [ce_1, adS_1]
  exact cvO (fun j hj => by
    match j, hj with
    | 0, _ => simp [adS_80]
    | 1, _ => simp [adS_82]
    | 2, _ => simp [adS_84]
    | 3, _ => simp [adS_86]
    | 4, _ => simp [adS_88]
    | 5, _ => simp [adS_90]
    | 6, _ => simp [adS_92]
    | 7, _ => simp [adS_94]
    | j + 8, h9 => exact absurd h9 (by omega)) (h 1 _ rfl)
theorem okS_10 (h : va_P D vwCl (wX ca q0 r qm rm qo) H) : okS D ca q0 r qm rm qo H 10 := by
  have e : ce ca (adS q0 r qm rm qo) (fun _ => none) (st0 10) 10 = .inr (4, [.int (iI 0), .int (iI 0), .int (iI 0), .ref (r 1 1), .ref (r 1 2), .ref (r 1 3), .ref (r 1 4), .ref (r 1 5), .ref (r 1 6)]) := by
    rw [(ob_X4 (by decide)).2]
    simp [fsX4, adS_11, adS_12, adS_13, adS_14, adS_15, adS_16, st0, va_rf]
  unfold okS
  rw [e, adS_10]
  exact h 2 _ rfl
theorem okS_11 (h : va_P D vwCl (wX ca q0 r qm rm qo) H) : okS D ca q0 r qm rm qo H 11 := by
  unfold okS
  rw [ce_I (N := 4) ⟨by decide, by decide⟩, st0_z (by decide), adS_11]
  exact h 3 _ rfl
theorem okS_12 (h : va_P D vwCl (wX ca q0 r qm rm qo) H) : okS D ca q0 r qm rm qo H 12 := by
  unfold okS
  rw [ce_I (N := 4) ⟨by decide, by decide⟩, st0_z (by decide), adS_12]
  exact h 4 _ rfl
theorem okS_13 (h : va_P D vwCl (wX ca q0 r qm rm qo) H) : okS D ca q0 r qm rm qo H 13 := by
  unfold okS
  rw [ce_I (N := 4) ⟨by decide, by decide⟩, st0_z (by decide), adS_13]
  exact h 5 _ rfl
theorem okS_14 (h : va_P D vwCl (wX ca q0 r qm rm qo) H) : okS D ca q0 r qm rm qo H 14 := by
  unfold okS
  rw [ce_I (N := 4) ⟨by decide, by decide⟩, st0_z (by decide), adS_14]
  exact h 6 _ rfl
theorem okS_15 (h : va_P D vwCl (wX ca q0 r qm rm qo) H) : okS D ca q0 r qm rm qo H 15 := by
  unfold okS
  rw [ce_I (N := 4) ⟨by decide, by decide⟩, st0_z (by decide), adS_15]
  exact h 7 _ rfl
theorem okS_16 (h : va_P D vwCl (wX ca q0 r qm rm qo) H) : okS D ca q0 r qm rm qo H 16 := by
  unfold okS
  rw [ce_16, adS_16]
  exact cvO (fun j hj => by
    match j, hj with
    | 0, _ => simp [adS_17]
    | 1, _ => simp [adS_18]
    | 2, _ => simp [adS_19]
    | 3, _ => simp [adS_20]
    | j + 4, h9 => exact absurd h9 (by omega)) (h 8 _ rfl)
theorem okS_17 (h : va_P D vwCl (wX ca q0 r qm rm qo) H) : okS D ca q0 r qm rm qo H 17 := by
  unfold okS
  rw [ce_I (N := 4) ⟨by decide, by decide⟩, st0_z (by decide), adS_17]
  exact h 9 _ rfl
theorem okS_18 (h : va_P D vwCl (wX ca q0 r qm rm qo) H) : okS D ca q0 r qm rm qo H 18 := by
  unfold okS
  rw [ce_I (N := 4) ⟨by decide, by decide⟩, st0_z (by decide), adS_18]
  exact h 10 _ rfl
theorem okS_19 (h : va_P D vwCl (wX ca q0 r qm rm qo) H) : okS D ca q0 r qm rm qo H 19 := by
  unfold okS
  rw [ce_I (N := 4) ⟨by decide, by decide⟩, st0_z (by decide), adS_19]
  exact h 11 _ rfl
theorem okS_20 (h : va_P D vwCl (wX ca q0 r qm rm qo) H) : okS D ca q0 r qm rm qo H 20 := by
  unfold okS
  rw [ce_I (N := 4) ⟨by decide, by decide⟩, st0_z (by decide), adS_20]
  exact h 12 _ rfl
theorem okS_30 (h : va_P D vwCl (wX ca q0 r qm rm qo) H) : okS D ca q0 r qm rm qo H 30 := by
  have e : ce ca (adS q0 r qm rm qo) (fun _ => none) (st0 30) 30 = .inr (4, [.int (iI 0), .int (iI 0), .int (iI 0), .ref (r 2 1), .ref (r 2 2), .ref (r 2 3), .ref (r 2 4), .ref (r 2 5), .ref (r 2 6)]) := by
    rw [(ob_X4 (by decide)).2]
    simp [fsX4, adS_31, adS_32, adS_33, adS_34, adS_35, adS_36, st0, va_rf]
  unfold okS
  rw [e, adS_30]
  exact h 13 _ rfl
theorem okS_31 (h : va_P D vwCl (wX ca q0 r qm rm qo) H) : okS D ca q0 r qm rm qo H 31 := by
  unfold okS
  rw [ce_I (N := 4) ⟨by decide, by decide⟩, st0_z (by decide), adS_31]
  exact h 14 _ rfl
theorem okS_32 (h : va_P D vwCl (wX ca q0 r qm rm qo) H) : okS D ca q0 r qm rm qo H 32 := by
  unfold okS
  rw [ce_I (N := 4) ⟨by decide, by decide⟩, st0_z (by decide), adS_32]
  exact h 15 _ rfl
theorem okS_33 (h : va_P D vwCl (wX ca q0 r qm rm qo) H) : okS D ca q0 r qm rm qo H 33 := by
  unfold okS
  rw [ce_I (N := 4) ⟨by decide, by decide⟩, st0_z (by decide), adS_33]
  exact h 16 _ rfl
theorem okS_34 (h : va_P D vwCl (wX ca q0 r qm rm qo) H) : okS D ca q0 r qm rm qo H 34 := by
  unfold okS
  rw [ce_I (N := 4) ⟨by decide, by decide⟩, st0_z (by decide), adS_34]
  exact h 17 _ rfl
theorem okS_35 (h : va_P D vwCl (wX ca q0 r qm rm qo) H) : okS D ca q0 r qm rm qo H 35 := by
  unfold okS
  rw [ce_I (N := 4) ⟨by decide, by decide⟩, st0_z (by decide), adS_35]
  exact h 18 _ rfl
theorem okS_36 (h : va_P D vwCl (wX ca q0 r qm rm qo) H) : okS D ca q0 r qm rm qo H 36 := by
  unfold okS
  rw [ce_36, adS_36]
  exact cvO (fun j hj => by
    match j, hj with
    | 0, _ => simp [adS_37]
    | 1, _ => simp [adS_38]
    | 2, _ => simp [adS_39]
    | 3, _ => simp [adS_40]
    | j + 4, h9 => exact absurd h9 (by omega)) (h 19 _ rfl)
theorem okS_37 (h : va_P D vwCl (wX ca q0 r qm rm qo) H) : okS D ca q0 r qm rm qo H 37 := by
  unfold okS
  rw [ce_I (N := 4) ⟨by decide, by decide⟩, st0_z (by decide), adS_37]
  exact h 20 _ rfl
theorem okS_38 (h : va_P D vwCl (wX ca q0 r qm rm qo) H) : okS D ca q0 r qm rm qo H 38 := by
  unfold okS
  rw [ce_I (N := 4) ⟨by decide, by decide⟩, st0_z (by decide), adS_38]
  exact h 21 _ rfl
theorem okS_39 (h : va_P D vwCl (wX ca q0 r qm rm qo) H) : okS D ca q0 r qm rm qo H 39 := by
  unfold okS
  rw [ce_I (N := 4) ⟨by decide, by decide⟩, st0_z (by decide), adS_39]
  exact h 22 _ rfl
theorem okS_40 (h : va_P D vwCl (wX ca q0 r qm rm qo) H) : okS D ca q0 r qm rm qo H 40 := by
  unfold okS
  rw [ce_I (N := 4) ⟨by decide, by decide⟩, st0_z (by decide), adS_40]
  exact h 23 _ rfl
theorem okS_70 (h : va_P D vwCl (wX ca q0 r qm rm qo) H) : okS D ca q0 r qm rm qo H 70 := by
  have e : ce ca (adS q0 r qm rm qo) (fun _ => none) (st0 70) 70 = .inr (6, [.ref (r 3 0), .ref (r 3 11), .int (iI 0), .int (iI 0), .int (iI 0), .int (iI 0), .int (iI 0), .int (iI 0), .int (iI 0)]) := by
    rw [ob_X6.2]
    simp [fsX6, adS_50, adS_71, st0, va_rf]
  unfold okS
  rw [e, adS_70]
  exact h 24 _ rfl
theorem okS_50 (h : va_P D vwCl (wX ca q0 r qm rm qo) H) : okS D ca q0 r qm rm qo H 50 := by
  have e : ce ca (adS q0 r qm rm qo) (fun _ => none) (st0 50) 50 = .inr (4, [.int (iI 0), .int (iI 0), .int (iI 0), .ref (r 3 1), .ref (r 3 2), .ref (r 3 3), .ref (r 3 4), .ref (r 3 5), .ref (r 3 6)]) := by
    rw [(ob_X4 (by decide)).2]
    simp [fsX4, adS_51, adS_52, adS_53, adS_54, adS_55, adS_56, st0, va_rf]
  unfold okS
  rw [e, adS_50]
  exact h 25 _ rfl
theorem okS_51 (h : va_P D vwCl (wX ca q0 r qm rm qo) H) : okS D ca q0 r qm rm qo H 51 := by
  unfold okS
  rw [ce_I (N := 4) ⟨by decide, by decide⟩, st0_z (by decide), adS_51]
  exact h 26 _ rfl
theorem okS_52 (h : va_P D vwCl (wX ca q0 r qm rm qo) H) : okS D ca q0 r qm rm qo H 52 := by
  unfold okS
  rw [ce_I (N := 4) ⟨by decide, by decide⟩, st0_z (by decide), adS_52]
  exact h 27 _ rfl
theorem okS_53 (h : va_P D vwCl (wX ca q0 r qm rm qo) H) : okS D ca q0 r qm rm qo H 53 := by
  unfold okS
  rw [ce_I (N := 4) ⟨by decide, by decide⟩, st0_z (by decide), adS_53]
  exact h 28 _ rfl
theorem okS_54 (h : va_P D vwCl (wX ca q0 r qm rm qo) H) : okS D ca q0 r qm rm qo H 54 := by
  unfold okS
  rw [ce_I (N := 4) ⟨by decide, by decide⟩, st0_z (by decide), adS_54]
  exact h 29 _ rfl
theorem okS_55 (h : va_P D vwCl (wX ca q0 r qm rm qo) H) : okS D ca q0 r qm rm qo H 55 := by
  unfold okS
  rw [ce_I (N := 4) ⟨by decide, by decide⟩, st0_z (by decide), adS_55]
  exact h 30 _ rfl
theorem okS_56 (h : va_P D vwCl (wX ca q0 r qm rm qo) H) : okS D ca q0 r qm rm qo H 56 := by
  unfold okS
  rw [ce_56, adS_56]
  exact cvO (fun j hj => by
    match j, hj with
    | 0, _ => simp [adS_57]
    | 1, _ => simp [adS_58]
    | 2, _ => simp [adS_59]
    | 3, _ => simp [adS_60]
    | j + 4, h9 => exact absurd h9 (by omega)) (h 31 _ rfl)
theorem okS_57 (h : va_P D vwCl (wX ca q0 r qm rm qo) H) : okS D ca q0 r qm rm qo H 57 := by
  unfold okS
  rw [ce_I (N := 4) ⟨by decide, by decide⟩, st0_z (by decide), adS_57]
  exact h 32 _ rfl
theorem okS_58 (h : va_P D vwCl (wX ca q0 r qm rm qo) H) : okS D ca q0 r qm rm qo H 58 := by
  unfold okS
  rw [ce_I (N := 4) ⟨by decide, by decide⟩, st0_z (by decide), adS_58]
  exact h 33 _ rfl
theorem okS_59 (h : va_P D vwCl (wX ca q0 r qm rm qo) H) : okS D ca q0 r qm rm qo H 59 := by
  unfold okS
  rw [ce_I (N := 4) ⟨by decide, by decide⟩, st0_z (by decide), adS_59]
  exact h 34 _ rfl
theorem okS_60 (h : va_P D vwCl (wX ca q0 r qm rm qo) H) : okS D ca q0 r qm rm qo H 60 := by
  unfold okS
  rw [ce_I (N := 4) ⟨by decide, by decide⟩, st0_z (by decide), adS_60]
  exact h 35 _ rfl
theorem okS_71 (h : va_P D vwCl (wX ca q0 r qm rm qo) H) : okS D ca q0 r qm rm qo H 71 := by
  unfold okS
  rw [ce_I (N := 5) ⟨by decide, by decide⟩, st0_z (by decide), adS_71]
  exact h 36 _ rfl
theorem okS_72 (h : va_P D vwCl (wX ca q0 r qm rm qo) H) : okS D ca q0 r qm rm qo H 72 := by
  have e : ce ca (adS q0 r qm rm qo) (fun _ => none) (st0 72) 72 = .inr (7, [.ref (r 1 0), .ref (r 4 1), .ref (r 4 2), .ref (r 4 3), .long (lI 0), .long (lI 0), .int (iI 0), .int (iI 0), .int (iI 0), .int (iI 0), .int (iI 0), .long (lI 1), .long (lI 1), .long (lI 0)]) := by
    rw [ob_X7.2]
    simp [fsX7, adS_10, adS_73, adS_74, adS_75, st0, va_rf]
  unfold okS
  rw [e, adS_72]
  exact h 37 _ rfl
theorem okS_73 (h : va_P D vwCl (wX ca q0 r qm rm qo) H) : okS D ca q0 r qm rm qo H 73 := by
  unfold okS
  rw [ce_I (N := 4) ⟨by decide, by decide⟩, st0_z (by decide), adS_73]
  exact h 38 _ rfl
theorem okS_74 (h : va_P D vwCl (wX ca q0 r qm rm qo) H) : okS D ca q0 r qm rm qo H 74 := by
  unfold okS
  rw [ce_L (N := 4) ⟨by decide, by decide⟩, st0_z (by decide), adS_74]
  exact h 39 _ rfl
theorem okS_75 (h : va_P D vwCl (wX ca q0 r qm rm qo) H) : okS D ca q0 r qm rm qo H 75 := by
  unfold okS
  rw [ce_L (N := 4) ⟨by decide, by decide⟩, st0_z (by decide), adS_75]
  exact h 40 _ rfl
theorem okS_76 (h : va_P D vwCl (wX ca q0 r qm rm qo) H) : okS D ca q0 r qm rm qo H 76 := by
  have e : ce ca (adS q0 r qm rm qo) (fun _ => none) (st0 76) 76 = .inr (3, [.ref (r 1 0), .ref (r 5 1), .ref (r 5 2), .ref (r 5 3)]) := by
    rw [ob_X3.2]
    simp [fsX3, adS_10, adS_77, adS_78, adS_79, st0, va_rf]
  unfold okS
  rw [e, adS_76]
  exact h 41 _ rfl
theorem okS_77 (h : va_P D vwCl (wX ca q0 r qm rm qo) H) : okS D ca q0 r qm rm qo H 77 := by
  unfold okS
  rw [ce_I (N := 4) ⟨by decide, by decide⟩, st0_z (by decide), adS_77]
  exact h 42 _ rfl
theorem okS_78 (h : va_P D vwCl (wX ca q0 r qm rm qo) H) : okS D ca q0 r qm rm qo H 78 := by
  unfold okS
  rw [ce_I (N := 4) ⟨by decide, by decide⟩, st0_z (by decide), adS_78]
  exact h 43 _ rfl
theorem okS_79 (h : va_P D vwCl (wX ca q0 r qm rm qo) H) : okS D ca q0 r qm rm qo H 79 := by
  unfold okS
  rw [ce_I (N := 4) ⟨by decide, by decide⟩, st0_z (by decide), adS_79]
  exact h 44 _ rfl
theorem okS_80 (h : va_P D vwCl (wX ca q0 r qm rm qo) H) : okS D ca q0 r qm rm qo H 80 := by
  have e : ce ca (adS q0 r qm rm qo) (fun _ => none) (st0 80) 80 = .inr (8, [.ref (r 6 1), .int (iI (-1)), .int (iI 0), .null]) := by
    rw [(ob_X8 (show isShf 80 from shf_of (j := 0) (by decide))).2]
    simp [fsX8, adS_81, st0, va_rf]
  unfold okS
  rw [e, adS_80]
  exact h 45 _ rfl
theorem okS_81 (h : va_P D vwCl (wX ca q0 r qm rm qo) H) : okS D ca q0 r qm rm qo H 81 := by
  unfold okS
  rw [ce_I (N := 120) ⟨by decide, by decide⟩, st0_z (by decide), adS_81]
  exact h 46 _ rfl
theorem okS_82 (h : va_P D vwCl (wX ca q0 r qm rm qo) H) : okS D ca q0 r qm rm qo H 82 := by
  have e : ce ca (adS q0 r qm rm qo) (fun _ => none) (st0 82) 82 = .inr (8, [.ref (r 7 1), .int (iI (-1)), .int (iI 0), .null]) := by
    rw [(ob_X8 (show isShf 82 from shf_of (j := 1) (by decide))).2]
    simp [fsX8, adS_83, st0, va_rf]
  unfold okS
  rw [e, adS_82]
  exact h 47 _ rfl
theorem okS_83 (h : va_P D vwCl (wX ca q0 r qm rm qo) H) : okS D ca q0 r qm rm qo H 83 := by
  unfold okS
  rw [ce_I (N := 120) ⟨by decide, by decide⟩, st0_z (by decide), adS_83]
  exact h 48 _ rfl
theorem okS_84 (h : va_P D vwCl (wX ca q0 r qm rm qo) H) : okS D ca q0 r qm rm qo H 84 := by
  have e : ce ca (adS q0 r qm rm qo) (fun _ => none) (st0 84) 84 = .inr (8, [.ref (r 8 1), .int (iI (-1)), .int (iI 0), .null]) := by
    rw [(ob_X8 (show isShf 84 from shf_of (j := 2) (by decide))).2]
    simp [fsX8, adS_85, st0, va_rf]
  unfold okS
  rw [e, adS_84]
  exact h 49 _ rfl
theorem okS_85 (h : va_P D vwCl (wX ca q0 r qm rm qo) H) : okS D ca q0 r qm rm qo H 85 := by
  unfold okS
  rw [ce_I (N := 120) ⟨by decide, by decide⟩, st0_z (by decide), adS_85]
  exact h 50 _ rfl
theorem okS_86 (h : va_P D vwCl (wX ca q0 r qm rm qo) H) : okS D ca q0 r qm rm qo H 86 := by
  have e : ce ca (adS q0 r qm rm qo) (fun _ => none) (st0 86) 86 = .inr (8, [.ref (r 9 1), .int (iI (-1)), .int (iI 0), .null]) := by
    rw [(ob_X8 (show isShf 86 from shf_of (j := 3) (by decide))).2]
    simp [fsX8, adS_87, st0, va_rf]
  unfold okS
  rw [e, adS_86]
  exact h 51 _ rfl
theorem okS_87 (h : va_P D vwCl (wX ca q0 r qm rm qo) H) : okS D ca q0 r qm rm qo H 87 := by
  unfold okS
  rw [ce_I (N := 120) ⟨by decide, by decide⟩, st0_z (by decide), adS_87]
  exact h 52 _ rfl
theorem okS_88 (h : va_P D vwCl (wX ca q0 r qm rm qo) H) : okS D ca q0 r qm rm qo H 88 := by
  have e : ce ca (adS q0 r qm rm qo) (fun _ => none) (st0 88) 88 = .inr (8, [.ref (r 10 1), .int (iI (-1)), .int (iI 0), .null]) := by
    rw [(ob_X8 (show isShf 88 from shf_of (j := 4) (by decide))).2]
    simp [fsX8, adS_89, st0, va_rf]
  unfold okS
  rw [e, adS_88]
  exact h 53 _ rfl
theorem okS_89 (h : va_P D vwCl (wX ca q0 r qm rm qo) H) : okS D ca q0 r qm rm qo H 89 := by
  unfold okS
  rw [ce_I (N := 120) ⟨by decide, by decide⟩, st0_z (by decide), adS_89]
  exact h 54 _ rfl
theorem okS_90 (h : va_P D vwCl (wX ca q0 r qm rm qo) H) : okS D ca q0 r qm rm qo H 90 := by
  have e : ce ca (adS q0 r qm rm qo) (fun _ => none) (st0 90) 90 = .inr (8, [.ref (r 11 1), .int (iI (-1)), .int (iI 0), .null]) := by
    rw [(ob_X8 (show isShf 90 from shf_of (j := 5) (by decide))).2]
    simp [fsX8, adS_91, st0, va_rf]
  unfold okS
  rw [e, adS_90]
  exact h 55 _ rfl
theorem okS_91 (h : va_P D vwCl (wX ca q0 r qm rm qo) H) : okS D ca q0 r qm rm qo H 91 := by
  unfold okS
  rw [ce_I (N := 120) ⟨by decide, by decide⟩, st0_z (by decide), adS_91]
  exact h 56 _ rfl
theorem okS_92 (h : va_P D vwCl (wX ca q0 r qm rm qo) H) : okS D ca q0 r qm rm qo H 92 := by
  have e : ce ca (adS q0 r qm rm qo) (fun _ => none) (st0 92) 92 = .inr (8, [.ref (r 12 1), .int (iI (-1)), .int (iI 0), .null]) := by
    rw [(ob_X8 (show isShf 92 from shf_of (j := 6) (by decide))).2]
    simp [fsX8, adS_93, st0, va_rf]
  unfold okS
  rw [e, adS_92]
  exact h 57 _ rfl
theorem okS_93 (h : va_P D vwCl (wX ca q0 r qm rm qo) H) : okS D ca q0 r qm rm qo H 93 := by
  unfold okS
  rw [ce_I (N := 120) ⟨by decide, by decide⟩, st0_z (by decide), adS_93]
  exact h 58 _ rfl
theorem okS_94 (h : va_P D vwCl (wX ca q0 r qm rm qo) H) : okS D ca q0 r qm rm qo H 94 := by
  have e : ce ca (adS q0 r qm rm qo) (fun _ => none) (st0 94) 94 = .inr (8, [.ref (r 13 1), .int (iI (-1)), .int (iI 0), .null]) := by
    rw [(ob_X8 (show isShf 94 from shf_of (j := 7) (by decide))).2]
    simp [fsX8, adS_95, st0, va_rf]
  unfold okS
  rw [e, adS_94]
  exact h 59 _ rfl
theorem okS_95 (h : va_P D vwCl (wX ca q0 r qm rm qo) H) : okS D ca q0 r qm rm qo H 95 := by
  unfold okS
  rw [ce_I (N := 120) ⟨by decide, by decide⟩, st0_z (by decide), adS_95]
  exact h 60 _ rfl
theorem okS_120 (h : va_P D vwCl (wX ca q0 r qm rm qo) H) : okS D ca q0 r qm rm qo H 120 := by
  have e : ce ca (adS q0 r qm rm qo) (fun _ => none) (st0 120) 120 = .inr (12, [.ref (rm 1), .ref (rm 2), .ref (rm 3), .ref (rm 4), .ref (rm 5), .ref (rm 6), .ref (rm 7), .ref (rm 8), .ref (rm 9), .int (iI 0), .int (iI 0), .int (iI 0), .int (iI 0), .int (iI 0), .int (iI 0), .int (iI 0), .ref (rm 10), .int (iI 0), .int (iI 0), .int (iI 1), .int (iI 0), .long (lI 0), .long (lI 0), .ref (rm 11)]) := by
    rw [ob_X12.2]
    simp [fsX12, adS_121, adS_122, adS_123, adS_124, adS_125, adS_126, adS_127, adS_128, adS_129, adS_130, adS_131, st0, va_rf]
  unfold okS
  rw [e, adS_120]
  exact h 61 _ rfl
theorem okS_121 (h : va_P D vwCl (wX ca q0 r qm rm qo) H) : okS D ca q0 r qm rm qo H 121 := by
  unfold okS
  rw [ce_I (N := 39) ⟨by decide, by decide⟩, st0_z (by decide), adS_121]
  exact h 62 _ rfl
theorem okS_122 (h : va_P D vwCl (wX ca q0 r qm rm qo) H) : okS D ca q0 r qm rm qo H 122 := by
  unfold okS
  rw [ce_I (N := 39) ⟨by decide, by decide⟩, st0_z (by decide), adS_122]
  exact h 63 _ rfl
theorem okS_123 (h : va_P D vwCl (wX ca q0 r qm rm qo) H) : okS D ca q0 r qm rm qo H 123 := by
  unfold okS
  rw [ce_I (N := 39) ⟨by decide, by decide⟩, st0_z (by decide), adS_123]
  exact h 64 _ rfl
theorem okS_124 (h : va_P D vwCl (wX ca q0 r qm rm qo) H) : okS D ca q0 r qm rm qo H 124 := by
  unfold okS
  rw [ce_I (N := 8) ⟨by decide, by decide⟩, st0_z (by decide), adS_124]
  exact h 65 _ rfl
theorem okS_125 (h : va_P D vwCl (wX ca q0 r qm rm qo) H) : okS D ca q0 r qm rm qo H 125 := by
  unfold okS
  rw [ce_I (N := 8) ⟨by decide, by decide⟩, st0_z (by decide), adS_125]
  exact h 66 _ rfl
theorem okS_126 (h : va_P D vwCl (wX ca q0 r qm rm qo) H) : okS D ca q0 r qm rm qo H 126 := by
  unfold okS
  rw [ce_I (N := 8) ⟨by decide, by decide⟩, st0_z (by decide), adS_126]
  exact h 67 _ rfl
theorem okS_127 (h : va_P D vwCl (wX ca q0 r qm rm qo) H) : okS D ca q0 r qm rm qo H 127 := by
  unfold okS
  rw [ce_I (N := 960) ⟨by decide, by decide⟩, st0_z (by decide), adS_127]
  exact h 68 _ rfl
theorem okS_128 (h : va_P D vwCl (wX ca q0 r qm rm qo) H) : okS D ca q0 r qm rm qo H 128 := by
  unfold okS
  rw [ce_I (N := 8) ⟨by decide, by decide⟩, st0_z (by decide), adS_128]
  exact h 69 _ rfl
theorem okS_129 (h : va_P D vwCl (wX ca q0 r qm rm qo) H) : okS D ca q0 r qm rm qo H 129 := by
  unfold okS
  rw [ce_I (N := 8) ⟨by decide, by decide⟩, st0_z (by decide), adS_129]
  exact h 70 _ rfl
theorem okS_130 (h : va_P D vwCl (wX ca q0 r qm rm qo) H) : okS D ca q0 r qm rm qo H 130 := by
  unfold okS
  rw [ce_I (N := 120) ⟨by decide, by decide⟩, st0_z (by decide), adS_130]
  exact h 71 _ rfl
theorem okS_131 (h : va_P D vwCl (wX ca q0 r qm rm qo) H) : okS D ca q0 r qm rm qo H 131 := by
  unfold okS
  rw [ce_I (N := 4) ⟨by decide, by decide⟩, st0_z (by decide), adS_131]
  exact h 72 _ rfl
theorem okS_132 (h : va_P D vwCl (wX ca q0 r qm rm qo) H) : okS D ca q0 r qm rm qo H 132 := by
  unfold okS
  rw [ce_L (N := 1) ⟨by decide, by decide⟩, st0_z (by decide), adS_132]
  exact h 73 _ rfl
theorem okS_all (h : va_P D vwCl (wX ca q0 r qm rm qo) H) : ∀ a ∈ LC, okS D ca q0 r qm rm qo H a := by
  unfold LC
  refine List.forall_mem_cons.mpr ⟨okS_0 h, List.forall_mem_cons.mpr ⟨okS_1 h, List.forall_mem_cons.mpr ⟨okS_10 h, List.forall_mem_cons.mpr ⟨okS_11 h, List.forall_mem_cons.mpr ⟨okS_12 h, List.forall_mem_cons.mpr ⟨okS_13 h, List.forall_mem_cons.mpr ⟨okS_14 h, List.forall_mem_cons.mpr ⟨okS_15 h, List.forall_mem_cons.mpr ⟨okS_16 h, List.forall_mem_cons.mpr ⟨okS_17 h, List.forall_mem_cons.mpr ⟨okS_18 h, List.forall_mem_cons.mpr ⟨okS_19 h, List.forall_mem_cons.mpr ⟨okS_20 h, List.forall_mem_cons.mpr ⟨okS_30 h, List.forall_mem_cons.mpr ⟨okS_31 h, List.forall_mem_cons.mpr ⟨okS_32 h, List.forall_mem_cons.mpr ⟨okS_33 h, List.forall_mem_cons.mpr ⟨okS_34 h, List.forall_mem_cons.mpr ⟨okS_35 h, List.forall_mem_cons.mpr ⟨okS_36 h, List.forall_mem_cons.mpr ⟨okS_37 h, List.forall_mem_cons.mpr ⟨okS_38 h, List.forall_mem_cons.mpr ⟨okS_39 h, List.forall_mem_cons.mpr ⟨okS_40 h, List.forall_mem_cons.mpr ⟨okS_70 h, List.forall_mem_cons.mpr ⟨okS_50 h, List.forall_mem_cons.mpr ⟨okS_51 h, List.forall_mem_cons.mpr ⟨okS_52 h, List.forall_mem_cons.mpr ⟨okS_53 h, List.forall_mem_cons.mpr ⟨okS_54 h, List.forall_mem_cons.mpr ⟨okS_55 h, List.forall_mem_cons.mpr ⟨okS_56 h, List.forall_mem_cons.mpr ⟨okS_57 h, List.forall_mem_cons.mpr ⟨okS_58 h, List.forall_mem_cons.mpr ⟨okS_59 h, List.forall_mem_cons.mpr ⟨okS_60 h, List.forall_mem_cons.mpr ⟨okS_71 h, List.forall_mem_cons.mpr ⟨okS_72 h, List.forall_mem_cons.mpr ⟨okS_73 h, List.forall_mem_cons.mpr ⟨okS_74 h, List.forall_mem_cons.mpr ⟨okS_75 h, List.forall_mem_cons.mpr ⟨okS_76 h, List.forall_mem_cons.mpr ⟨okS_77 h, List.forall_mem_cons.mpr ⟨okS_78 h, List.forall_mem_cons.mpr ⟨okS_79 h, List.forall_mem_cons.mpr ⟨okS_80 h, List.forall_mem_cons.mpr ⟨okS_81 h, List.forall_mem_cons.mpr ⟨okS_82 h, List.forall_mem_cons.mpr ⟨okS_83 h, List.forall_mem_cons.mpr ⟨okS_84 h, List.forall_mem_cons.mpr ⟨okS_85 h, List.forall_mem_cons.mpr ⟨okS_86 h, List.forall_mem_cons.mpr ⟨okS_87 h, List.forall_mem_cons.mpr ⟨okS_88 h, List.forall_mem_cons.mpr ⟨okS_89 h, List.forall_mem_cons.mpr ⟨okS_90 h, List.forall_mem_cons.mpr ⟨okS_91 h, List.forall_mem_cons.mpr ⟨okS_92 h, List.forall_mem_cons.mpr ⟨okS_93 h, List.forall_mem_cons.mpr ⟨okS_94 h, List.forall_mem_cons.mpr ⟨okS_95 h, List.forall_mem_cons.mpr ⟨okS_120 h, List.forall_mem_cons.mpr ⟨okS_121 h, List.forall_mem_cons.mpr ⟨okS_122 h, List.forall_mem_cons.mpr ⟨okS_123 h, List.forall_mem_cons.mpr ⟨okS_124 h, List.forall_mem_cons.mpr ⟨okS_125 h, List.forall_mem_cons.mpr ⟨okS_126 h, List.forall_mem_cons.mpr ⟨okS_127 h, List.forall_mem_cons.mpr ⟨okS_128 h, List.forall_mem_cons.mpr ⟨okS_129 h, List.forall_mem_cons.mpr ⟨okS_130 h, List.forall_mem_cons.mpr ⟨okS_131 h, List.forall_mem_cons.mpr ⟨okS_132 h, fun _ h9 => absurd h9 List.not_mem_nil⟩⟩⟩⟩⟩⟩⟩⟩⟩⟩⟩⟩⟩⟩⟩⟩⟩⟩⟩⟩⟩⟩⟩⟩⟩⟩⟩⟩⟩⟩⟩⟩⟩⟩⟩⟩⟩⟩⟩⟩⟩⟩⟩⟩⟩⟩⟩⟩⟩⟩⟩⟩⟩⟩⟩⟩⟩⟩⟩⟩⟩⟩⟩⟩⟩⟩⟩⟩⟩⟩⟩⟩⟩⟩
theorem wl_0 {ad : Int → Nat} : wl ca ad (fun _ => none) st0 = LL.map (fun a => (ad a, ce ca ad (fun _ => none) (st0 a) a)) := by
  unfold wl
  rw [show (SL.filterMap (fun d => ((none : Option Nat)).map (fun q => (q, fc (st0 (d + 20)))))) = [] from rfl, List.append_nil]
theorem wr_start (h : WL D A (wS ca q0 r qm rm qo) H) : Wr D ca (adS q0 r qm rm qo) A st0 H := by
  obtain ⟨hP, hD⟩ := h
  refine ⟨fun _ => none, ?_, ?_, fun d hd => Or.inl ⟨?_, rfl⟩⟩
  · rw [wl_0]
    intro k x hx
    obtain ⟨a, ha, rfl⟩ := List.mem_map.mp (List.mem_of_getElem? hx)
    exact okS_all (wS_eq ▸ hP) a (lc_perm.subset ha)
  · rw [wl_0]
    have e1 : ((LC.map (adS q0 r qm rm qo)).Pairwise (· ≠ ·)) := by
      rw [← wS_fst (ca := ca), List.pairwise_map]
      exact hD.pw
    have e2 : ((LL.map (adS q0 r qm rm qo)).Pairwise (· ≠ ·)) := (((lc_perm.map (adS q0 r qm rm qo))).pairwise_iff (fun {x y} hxy => Ne.symm hxy)).mpr e1
    rw [List.pairwise_map] at e2
    refine va_D.of (List.pairwise_map.mpr e2) (fun x hx => ?_)
    obtain ⟨a, ha, rfl⟩ := List.mem_map.mp hx
    have h9 : adS q0 r qm rm qo a ∈ (wS ca q0 r qm rm qo).map (fun x => x.1) := by
      rw [wS_fst]
      exact List.mem_map.mpr ⟨a, lc_perm.subset ha, rfl⟩
    obtain ⟨y, hy, e⟩ := List.mem_map.mp h9
    obtain ⟨j, hj⟩ := List.getElem?_of_mem hy
    show A (adS q0 r qm rm qo a)
    rw [← e]
    exact hD.2 j y hj
  · have h9 : ∀ x ∈ SL, st0 x 3 = 0 := by decide
    exact h9 d hd
end Gs0
