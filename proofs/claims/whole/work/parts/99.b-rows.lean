/-! BY HAND 4: the rows, over a world of any kind -/
section Gw2
variable {p : Program} {l : Launch} {e : Env} {R : Room} {s : State} {m : MethodId} {args : Array Value} {below : List Frame} {meth : Method} {c : Code} {cells slots : Nat} {Q : State → Prop}
variable {cc : ByteArray} {own : String} {ws : List Cond} {nL : Nat} {D : va_G} {ca : Ca} {ad : Int → Nat} {A : Nat → Prop} {WR : Heap → Prop}
variable {pc : Nat} {lv : List (Option Value)} {st : List Value}
theorem gw_lconst (C : Cx p s m args c cc nL own ws D ca A) {n : Fin 2} {z : Int} (hd : decode cc pc = .ok (.lconst n, 1)) (hv : Int64.ofNat (n : Nat) = lI z) (k : GW WR p l e R s m args below meth c nL A cells slots Q (pc + 1) lv (.long (lI z) :: st)) : GW WR p l e R s m args below meth c nL A cells slots Q pc lv st :=
  fun H locs ls hw hS hl => lv_lconst C.1 C.2.1 hd hv (k H locs ls hw hS hl)
theorem gw_ldc (C : Cx p s m args c cc nL own ws D ca A) {i x : Nat} {v : Int32} {z : Int} (hd : decode cc pc = .ok (.ldc x, 2)) (hi : ws[i]? = some (.constant own x v)) (hv : v = iI z) (k : GW WR p l e R s m args below meth c nL A cells slots Q (pc + 2) lv (.int (iI z) :: st)) : GW WR p l e R s m args below meth c nL A cells slots Q pc lv st :=
  fun H locs ls hw hS hl => lv_ldc C.1 C.2.1 C.2.2.2.1 (C.wd hi) hd (hv ▸ (k H locs ls hw hS hl))
theorem gw_ldcw (C : Cx p s m args c cc nL own ws D ca A) {i x : Nat} {v : Int32} {z : Int} (hd : decode cc pc = .ok (.ldc_w x, 3)) (hi : ws[i]? = some (.constant own x v)) (hv : v = iI z) (k : GW WR p l e R s m args below meth c nL A cells slots Q (pc + 3) lv (.int (iI z) :: st)) : GW WR p l e R s m args below meth c nL A cells slots Q pc lv st :=
  fun H locs ls hw hS hl => lv_ldcw C.1 C.2.1 C.2.2.2.1 (C.wd hi) hd (hv ▸ (k H locs ls hw hS hl))
theorem gw_ldc2 (C : Cx p s m args c cc nL own ws D ca A) {i x : Nat} {v : Int64} {z : Int} (hd : decode cc pc = .ok (.ldc2_w x, 3)) (hi : ws[i]? = some (.constantLong own x v)) (hv : v = lI z) (k : GW WR p l e R s m args below meth c nL A cells slots Q (pc + 3) lv (.long (lI z) :: st)) : GW WR p l e R s m args below meth c nL A cells slots Q pc lv st :=
  fun H locs ls hw hS hl => lv_ldc2 C.1 C.2.1 C.2.2.2.1 (C.wd hi) hd (hv ▸ (k H locs ls hw hS hl))
theorem gw_iload_n (C : Cx p s m args c cc nL own ws D ca A) {i : Nat} {j : Fin 4} {z : Int} (hd : decode cc pc = .ok (.iload_n j, 1)) (hj : (j : Nat) = i) (hz : lv[i]? = some (some (.int (iI z)))) (k : GW WR p l e R s m args below meth c nL A cells slots Q (pc + 1) lv (.int (iI z) :: st)) : GW WR p l e R s m args below meth c nL A cells slots Q pc lv st :=
  fun H locs ls hw hS hl => lv_iload_n C.1 C.2.1 hd hj (hl.2.2 _ _ hz) (k H locs ls hw hS hl)
theorem gw_iload (C : Cx p s m args c cc nL own ws D ca A) {i : Nat} {z : Int} (hd : decode cc pc = .ok (.iload i, 2)) (hz : lv[i]? = some (some (.int (iI z)))) (k : GW WR p l e R s m args below meth c nL A cells slots Q (pc + 2) lv (.int (iI z) :: st)) : GW WR p l e R s m args below meth c nL A cells slots Q pc lv st :=
  fun H locs ls hw hS hl => lv_iload C.1 C.2.1 hd (hl.2.2 _ _ hz) (k H locs ls hw hS hl)
theorem gw_istore_n (C : Cx p s m args c cc nL own ws D ca A) {i : Nat} {j : Fin 4} {z : Int} (hd : decode cc pc = .ok (.istore_n j, 1)) (hj : (j : Nat) = i) (hn : i < nL) (hk : nl lv i = true) (k : GW WR p l e R s m args below meth c nL A cells slots Q (pc + 1) (lv.set i (some (.int (iI z)))) st) : GW WR p l e R s m args below meth c nL A cells slots Q pc lv (.int (iI z) :: st) :=
  fun H locs ls hw hS hl => lv_istore_n C.1 C.2.1 hd hj (lh_has hl) hn rfl (fun ls' hl' => k H locs ls' hw hS (lh_of hl' (lh_store1 hk)))
theorem gw_istore (C : Cx p s m args c cc nL own ws D ca A) {i : Nat} {z : Int} (hd : decode cc pc = .ok (.istore i, 2)) (hn : i < nL) (hk : nl lv i = true) (k : GW WR p l e R s m args below meth c nL A cells slots Q (pc + 2) (lv.set i (some (.int (iI z)))) st) : GW WR p l e R s m args below meth c nL A cells slots Q pc lv (.int (iI z) :: st) :=
  fun H locs ls hw hS hl => lv_istore C.1 C.2.1 hd (lh_has hl) hn rfl (fun ls' hl' => k H locs ls' hw hS (lh_of hl' (lh_store1 hk)))
theorem gw_lload_n (C : Cx p s m args c cc nL own ws D ca A) {i : Nat} {j : Fin 4} {z : Int} (hd : decode cc pc = .ok (.lload_n j, 1)) (hj : (j : Nat) = i) (hz : lv[i]? = some (some (.long (lI z)))) (k : GW WR p l e R s m args below meth c nL A cells slots Q (pc + 1) lv (.long (lI z) :: st)) : GW WR p l e R s m args below meth c nL A cells slots Q pc lv st :=
  fun H locs ls hw hS hl => lv_lload_n C.1 C.2.1 hd hj (hl.2.2 _ _ hz) (k H locs ls hw hS hl)
theorem gw_lload (C : Cx p s m args c cc nL own ws D ca A) {i : Nat} {z : Int} (hd : decode cc pc = .ok (.lload i, 2)) (hz : lv[i]? = some (some (.long (lI z)))) (k : GW WR p l e R s m args below meth c nL A cells slots Q (pc + 2) lv (.long (lI z) :: st)) : GW WR p l e R s m args below meth c nL A cells slots Q pc lv st :=
  fun H locs ls hw hS hl => lv_lload C.1 C.2.1 hd (hl.2.2 _ _ hz) (k H locs ls hw hS hl)
theorem gw_lstore_n (C : Cx p s m args c cc nL own ws D ca A) {i : Nat} {j : Fin 4} {z : Int} (hd : decode cc pc = .ok (.lstore_n j, 1)) (hj : (j : Nat) = i) (hn : i + 1 < nL) (hk : nl lv i = true) (k : GW WR p l e R s m args below meth c nL A cells slots Q (pc + 1) ((lv.set i (some (.long (lI z)))).set (i + 1) none) st) : GW WR p l e R s m args below meth c nL A cells slots Q pc lv (.long (lI z) :: st) :=
  fun H locs ls hw hS hl => lv_lstore_n C.1 C.2.1 hd hj (lh_has hl) hn rfl (fun ls' hl' => k H locs ls' hw hS (lh_of hl' (lh_store2 hk)))
theorem gw_lstore (C : Cx p s m args c cc nL own ws D ca A) {i : Nat} {z : Int} (hd : decode cc pc = .ok (.lstore i, 2)) (hn : i + 1 < nL) (hk : nl lv i = true) (k : GW WR p l e R s m args below meth c nL A cells slots Q (pc + 2) ((lv.set i (some (.long (lI z)))).set (i + 1) none) st) : GW WR p l e R s m args below meth c nL A cells slots Q pc lv (.long (lI z) :: st) :=
  fun H locs ls hw hS hl => lv_lstore C.1 C.2.1 hd (lh_has hl) hn rfl (fun ls' hl' => k H locs ls' hw hS (lh_of hl' (lh_store2 hk)))
theorem gw_aload (C : Cx p s m args c cc nL own ws D ca A) {i : Nat} {z : Nat} (hd : decode cc pc = .ok (.aload i, 2)) (hz : lv[i]? = some (some (.ref z))) (k : GW WR p l e R s m args below meth c nL A cells slots Q (pc + 2) lv (.ref z :: st)) : GW WR p l e R s m args below meth c nL A cells slots Q pc lv st :=
  fun H locs ls hw hS hl => lv_aload C.1 C.2.1 hd (hl.2.2 _ _ hz) (k H locs ls hw hS hl)
theorem gw_astore_n (C : Cx p s m args c cc nL own ws D ca A) {i : Nat} {j : Fin 4} {z : Nat} (hd : decode cc pc = .ok (.astore_n j, 1)) (hj : (j : Nat) = i) (hn : i < nL) (hk : nl lv i = true) (k : GW WR p l e R s m args below meth c nL A cells slots Q (pc + 1) (lv.set i (some (.ref z))) st) : GW WR p l e R s m args below meth c nL A cells slots Q pc lv (.ref z :: st) :=
  fun H locs ls hw hS hl => lv_astore_n C.1 C.2.1 hd hj (lh_has hl) hn rfl (fun ls' hl' => k H locs ls' hw hS (lh_of hl' (lh_store1 hk)))
theorem gw_astore (C : Cx p s m args c cc nL own ws D ca A) {i : Nat} {z : Nat} (hd : decode cc pc = .ok (.astore i, 2)) (hn : i < nL) (hk : nl lv i = true) (k : GW WR p l e R s m args below meth c nL A cells slots Q (pc + 2) (lv.set i (some (.ref z))) st) : GW WR p l e R s m args below meth c nL A cells slots Q pc lv (.ref z :: st) :=
  fun H locs ls hw hS hl => lv_astore C.1 C.2.1 hd (lh_has hl) hn rfl (fun ls' hl' => k H locs ls' hw hS (lh_of hl' (lh_store1 hk)))
theorem gw_iinc (C : Cx p s m args c cc nL own ws D ca A) {i : Nat} {n z : Int} (hd : decode cc pc = .ok (.iinc i n, 3)) (hz : lv[i]? = some (some (.int (iI z)))) (hn : i < nL) (hk : nl lv i = true) (k : GW WR p l e R s m args below meth c nL A cells slots Q (pc + 3) (lv.set i (some (.int (iI (z + n))))) st) : GW WR p l e R s m args below meth c nL A cells slots Q pc lv st := by
  intro H locs ls hw hS hl
  obtain ⟨j, hj⟩ := List.getElem?_of_mem (lp_mem.mpr hz)
  exact lv_iinc C.1 C.2.1 hd (lh_has hl) hj (iI_add z n) hn rfl (fun ls' hl' => k H locs ls' hw hS (lh_of hl' (lh_store1 hk)))
theorem gw_ladd (C : Cx p s m args c cc nL own ws D ca A) {a b : Int} (hd : decode cc pc = .ok (.ladd, 1)) (k : GW WR p l e R s m args below meth c nL A cells slots Q (pc + 1) lv (.long (lI (a + b)) :: st)) : GW WR p l e R s m args below meth c nL A cells slots Q pc lv (.long (lI b) :: .long (lI a) :: st) :=
  fun H locs ls hw hS hl => lv_ladd C.1 C.2.1 hd ((lI_add a b).symm ▸ (k H locs ls hw hS hl))
theorem gw_isub (C : Cx p s m args c cc nL own ws D ca A) {a b : Int} (hd : decode cc pc = .ok (.isub, 1)) (k : GW WR p l e R s m args below meth c nL A cells slots Q (pc + 1) lv (.int (iI (a - b)) :: st)) : GW WR p l e R s m args below meth c nL A cells slots Q pc lv (.int (iI b) :: .int (iI a) :: st) :=
  fun H locs ls hw hS hl => lv_isub C.1 C.2.1 hd ((iI_sub a b).symm ▸ (k H locs ls hw hS hl))
theorem gw_lsub (C : Cx p s m args c cc nL own ws D ca A) {a b : Int} (hd : decode cc pc = .ok (.lsub, 1)) (k : GW WR p l e R s m args below meth c nL A cells slots Q (pc + 1) lv (.long (lI (a - b)) :: st)) : GW WR p l e R s m args below meth c nL A cells slots Q pc lv (.long (lI b) :: .long (lI a) :: st) :=
  fun H locs ls hw hS hl => lv_lsub C.1 C.2.1 hd ((lI_sub a b).symm ▸ (k H locs ls hw hS hl))
theorem gw_lmul (C : Cx p s m args c cc nL own ws D ca A) {a b : Int} (hd : decode cc pc = .ok (.lmul, 1)) (k : GW WR p l e R s m args below meth c nL A cells slots Q (pc + 1) lv (.long (lI (a * b)) :: st)) : GW WR p l e R s m args below meth c nL A cells slots Q pc lv (.long (lI b) :: .long (lI a) :: st) :=
  fun H locs ls hw hS hl => lv_lmul C.1 C.2.1 hd ((lI_mul a b).symm ▸ (k H locs ls hw hS hl))
theorem gw_iand (C : Cx p s m args c cc nL own ws D ca A) {a b : Int} (hd : decode cc pc = .ok (.iand, 1)) (k : GW WR p l e R s m args below meth c nL A cells slots Q (pc + 1) lv (.int (iI (and32 a b)) :: st)) : GW WR p l e R s m args below meth c nL A cells slots Q pc lv (.int (iI b) :: .int (iI a) :: st) :=
  fun H locs ls hw hS hl => lv_iand C.1 C.2.1 hd ((iI_eta (iI a &&& iI b)).symm.symm ▸ (k H locs ls hw hS hl))
theorem gw_ior (C : Cx p s m args c cc nL own ws D ca A) {a b : Int} (hd : decode cc pc = .ok (.ior, 1)) (k : GW WR p l e R s m args below meth c nL A cells slots Q (pc + 1) lv (.int (iI (or32 a b)) :: st)) : GW WR p l e R s m args below meth c nL A cells slots Q pc lv (.int (iI b) :: .int (iI a) :: st) :=
  fun H locs ls hw hS hl => lv_ior C.1 C.2.1 hd ((iI_eta (iI a ||| iI b)).symm.symm ▸ (k H locs ls hw hS hl))
theorem gw_ishl (C : Cx p s m args c cc nL own ws D ca A) {a b : Int} (hd : decode cc pc = .ok (.ishl, 1)) (k : GW WR p l e R s m args below meth c nL A cells slots Q (pc + 1) lv (.int (iI (shl32 a b)) :: st)) : GW WR p l e R s m args below meth c nL A cells slots Q pc lv (.int (iI b) :: .int (iI a) :: st) :=
  fun H locs ls hw hS hl => lv_ishl C.1 C.2.1 hd ((iI_eta (iI a <<< (iI b &&& 31))).symm.symm ▸ (k H locs ls hw hS hl))
theorem gw_ishr (C : Cx p s m args c cc nL own ws D ca A) {a b : Int} (hd : decode cc pc = .ok (.ishr, 1)) (k : GW WR p l e R s m args below meth c nL A cells slots Q (pc + 1) lv (.int (iI (shr32 a b)) :: st)) : GW WR p l e R s m args below meth c nL A cells slots Q pc lv (.int (iI b) :: .int (iI a) :: st) :=
  fun H locs ls hw hS hl => lv_ishr C.1 C.2.1 hd ((iI_eta (iI a >>> (iI b &&& 31))).symm.symm ▸ (k H locs ls hw hS hl))
theorem gw_iushr (C : Cx p s m args c cc nL own ws D ca A) {a b : Int} (hd : decode cc pc = .ok (.iushr, 1)) (k : GW WR p l e R s m args below meth c nL A cells slots Q (pc + 1) lv (.int (iI (ushr32 a b)) :: st)) : GW WR p l e R s m args below meth c nL A cells slots Q pc lv (.int (iI b) :: .int (iI a) :: st) :=
  fun H locs ls hw hS hl => lv_iushr C.1 C.2.1 hd (iI_eta _).symm (k H locs ls hw hS hl)
theorem gw_lneg (C : Cx p s m args c cc nL own ws D ca A) {a : Int} (hd : decode cc pc = .ok (.lneg, 1)) (k : GW WR p l e R s m args below meth c nL A cells slots Q (pc + 1) lv (.long (lI (-a)) :: st)) : GW WR p l e R s m args below meth c nL A cells slots Q pc lv (.long (lI a) :: st) :=
  fun H locs ls hw hS hl => lv_lneg C.1 C.2.1 hd ((lI_neg a).symm ▸ (k H locs ls hw hS hl))
theorem gw_ineg (C : Cx p s m args c cc nL own ws D ca A) {a : Int} (hd : decode cc pc = .ok (.ineg, 1)) (k : GW WR p l e R s m args below meth c nL A cells slots Q (pc + 1) lv (.int (iI (-a)) :: st)) : GW WR p l e R s m args below meth c nL A cells slots Q pc lv (.int (iI a) :: st) :=
  fun H locs ls hw hS hl => lv_ineg C.1 C.2.1 hd ((iI_neg a).symm ▸ (k H locs ls hw hS hl))
theorem gw_idiv (C : Cx p s m args c cc nL own ws D ca A) {a b a' b' : Int} (hd : decode cc pc = .ok (.idiv, 1)) (ha : s32 a = a') (hb : s32 b = b') (hne : ¬ b' = 0) (k : GW WR p l e R s m args below meth c nL A cells slots Q (pc + 1) lv (.int (iI (a'.tdiv b')) :: st)) : GW WR p l e R s m args below meth c nL A cells slots Q pc lv (.int (iI b) :: .int (iI a) :: st) := by
  intro H locs ls hw hS hl
  subst ha; subst hb
  refine lv_idiv C.1 C.2.1 hd (fun h => hne ?_) ?_
  · have h2 := congrArg (fun x => x.toInt) h
    simpa [iI_toInt] using h2
  · rw [iI_div]
    exact k H locs ls hw hS hl
theorem gw_ldiv (C : Cx p s m args c cc nL own ws D ca A) {a b a' b' : Int} (hd : decode cc pc = .ok (.ldiv, 1)) (ha : s64 a = a') (hb : s64 b = b') (hne : ¬ b' = 0) (k : GW WR p l e R s m args below meth c nL A cells slots Q (pc + 1) lv (.long (lI (a'.tdiv b')) :: st)) : GW WR p l e R s m args below meth c nL A cells slots Q pc lv (.long (lI b) :: .long (lI a) :: st) := by
  intro H locs ls hw hS hl
  subst ha; subst hb
  refine lv_ldiv C.1 C.2.1 hd (fun h => hne ?_) ?_
  · have h2 := congrArg (fun x => x.toInt) h
    simpa [lI_toInt] using h2
  · rw [lI_div]
    exact k H locs ls hw hS hl
theorem gw_irem (C : Cx p s m args c cc nL own ws D ca A) {a b a' b' : Int} (hd : decode cc pc = .ok (.irem, 1)) (ha : s32 a = a') (hb : s32 b = b') (hne : ¬ b' = 0) (k : GW WR p l e R s m args below meth c nL A cells slots Q (pc + 1) lv (.int (iI (a'.tmod b')) :: st)) : GW WR p l e R s m args below meth c nL A cells slots Q pc lv (.int (iI b) :: .int (iI a) :: st) := by
  intro H locs ls hw hS hl
  subst ha; subst hb
  refine lv_irem C.1 C.2.1 hd (fun h => hne ?_) ?_
  · have h2 := congrArg (fun x => x.toInt) h
    simpa [iI_toInt] using h2
  · rw [iI_rem]
    exact k H locs ls hw hS hl
theorem gw_lrem (C : Cx p s m args c cc nL own ws D ca A) {a b a' b' : Int} (hd : decode cc pc = .ok (.lrem, 1)) (ha : s64 a = a') (hb : s64 b = b') (hne : ¬ b' = 0) (k : GW WR p l e R s m args below meth c nL A cells slots Q (pc + 1) lv (.long (lI (a'.tmod b')) :: st)) : GW WR p l e R s m args below meth c nL A cells slots Q pc lv (.long (lI b) :: .long (lI a) :: st) := by
  intro H locs ls hw hS hl
  subst ha; subst hb
  refine lv_lrem C.1 C.2.1 hd (fun h => hne ?_) ?_
  · have h2 := congrArg (fun x => x.toInt) h
    simpa [lI_toInt] using h2
  · rw [lI_rem]
    exact k H locs ls hw hS hl
theorem gw_i2l (C : Cx p s m args c cc nL own ws D ca A) {a a' : Int} (hd : decode cc pc = .ok (.i2l, 1)) (ha : s32 a = a') (k : GW WR p l e R s m args below meth c nL A cells slots Q (pc + 1) lv (.long (lI a') :: st)) : GW WR p l e R s m args below meth c nL A cells slots Q pc lv (.int (iI a) :: st) :=
  fun H locs ls hw hS hl => lv_i2l C.1 C.2.1 hd (ha ▸ iI_i2l a) (k H locs ls hw hS hl)
theorem gw_i2b (C : Cx p s m args c cc nL own ws D ca A) {a : Int} (hd : decode cc pc = .ok (.i2b, 1)) (k : GW WR p l e R s m args below meth c nL A cells slots Q (pc + 1) lv (.int (iI (b8 a)) :: st)) : GW WR p l e R s m args below meth c nL A cells slots Q pc lv (.int (iI a) :: st) :=
  fun H locs ls hw hS hl => lv_i2b C.1 C.2.1 hd (iI_eta _).symm (k H locs ls hw hS hl)
theorem gw_i2s (C : Cx p s m args c cc nL own ws D ca A) {a : Int} (hd : decode cc pc = .ok (.i2s, 1)) (k : GW WR p l e R s m args below meth c nL A cells slots Q (pc + 1) lv (.int (iI (h16 a)) :: st)) : GW WR p l e R s m args below meth c nL A cells slots Q pc lv (.int (iI a) :: st) :=
  fun H locs ls hw hS hl => lv_i2s C.1 C.2.1 hd (iI_eta _).symm (k H locs ls hw hS hl)
theorem gw_dup (C : Cx p s m args c cc nL own ws D ca A) {v : Value} (hd : decode cc pc = .ok (.dup, 1)) (hv : v.category = 1) (k : GW WR p l e R s m args below meth c nL A cells slots Q (pc + 1) lv (v :: v :: st)) : GW WR p l e R s m args below meth c nL A cells slots Q pc lv (v :: st) :=
  fun H locs ls hw hS hl => lv_dup C.1 C.2.1 hd hv (k H locs ls hw hS hl)
theorem gw_dup2 (C : Cx p s m args c cc nL own ws D ca A) {v u : Value} (hd : decode cc pc = .ok (.dup2, 1)) (hv : v.category = 1) (hu : u.category = 1) (k : GW WR p l e R s m args below meth c nL A cells slots Q (pc + 1) lv (v :: u :: v :: u :: st)) : GW WR p l e R s m args below meth c nL A cells slots Q pc lv (v :: u :: st) :=
  fun H locs ls hw hS hl => lv_dup2_11 C.1 C.2.1 hd hv hu (k H locs ls hw hS hl)
theorem gw_pop (C : Cx p s m args c cc nL own ws D ca A) {v : Value} (hd : decode cc pc = .ok (.pop, 1)) (hv : v.category = 1) (k : GW WR p l e R s m args below meth c nL A cells slots Q (pc + 1) lv st) : GW WR p l e R s m args below meth c nL A cells slots Q pc lv (v :: st) :=
  fun H locs ls hw hS hl => lv_pop C.1 C.2.1 hd hv (k H locs ls hw hS hl)
theorem gw_null (C : Cx p s m args c cc nL own ws D ca A) (hd : decode cc pc = .ok (.aconst_null, 1)) (k : GW WR p l e R s m args below meth c nL A cells slots Q (pc + 1) lv (.null :: st)) : GW WR p l e R s m args below meth c nL A cells slots Q pc lv st :=
  fun H locs ls hw hS hl => lv_null C.1 C.2.1 hd (k H locs ls hw hS hl)
theorem gw_icmp_eq (C : Cx p s m args c cc nL own ws D ca A) {a b a' b' off : Int} {tgt : Nat} (hd : decode cc pc = .ok (.if_icmp .eq off, 3)) (ht : (pc : Int) + off = (tgt : Int)) (ha : s32 a = a') (hb : s32 b = b') (kt : a' = b' → GW WR p l e R s m args below meth c nL A cells slots Q tgt lv st) (kf : ¬ (a' = b') → GW WR p l e R s m args below meth c nL A cells slots Q (pc + 3) lv st) : GW WR p l e R s m args below meth c nL A cells slots Q pc lv (.int (iI b) :: .int (iI a) :: st) := by
  intro H locs ls hw hS hl
  subst ha; subst hb
  exact lv_icmp_eq C.1 C.2.1 hd ht (fun h => kt ((iI_eq a b).mp h) H locs ls hw hS hl) (fun h => kf (fun q => h ((iI_eq a b).mpr q)) H locs ls hw hS hl)
theorem gw_icmp_lt (C : Cx p s m args c cc nL own ws D ca A) {a b a' b' off : Int} {tgt : Nat} (hd : decode cc pc = .ok (.if_icmp .lt off, 3)) (ht : (pc : Int) + off = (tgt : Int)) (ha : s32 a = a') (hb : s32 b = b') (kt : a' < b' → GW WR p l e R s m args below meth c nL A cells slots Q tgt lv st) (kf : ¬ (a' < b') → GW WR p l e R s m args below meth c nL A cells slots Q (pc + 3) lv st) : GW WR p l e R s m args below meth c nL A cells slots Q pc lv (.int (iI b) :: .int (iI a) :: st) := by
  intro H locs ls hw hS hl
  subst ha; subst hb
  exact lv_icmp_lt C.1 C.2.1 hd ht (fun h => kt ((iI_lt a b).mp h) H locs ls hw hS hl) (fun h => kf (fun q => h ((iI_lt a b).mpr q)) H locs ls hw hS hl)
theorem gw_if_lt (C : Cx p s m args c cc nL own ws D ca A) {a a' off : Int} {tgt : Nat} (hd : decode cc pc = .ok (.ifCond .lt off, 3)) (ht : (pc : Int) + off = (tgt : Int)) (ha : s32 a = a') (kt : a' < 0 → GW WR p l e R s m args below meth c nL A cells slots Q tgt lv st) (kf : ¬ (a' < 0) → GW WR p l e R s m args below meth c nL A cells slots Q (pc + 3) lv st) : GW WR p l e R s m args below meth c nL A cells slots Q pc lv (.int (iI a) :: st) := by
  intro H locs ls hw hS hl
  subst ha
  have hi := iI_lt a 0
  rw [s32_0, iI_0] at hi
  exact lv_if_lt C.1 C.2.1 hd ht (fun h => kt (hi.mp h) H locs ls hw hS hl) (fun h => kf (fun q => h (hi.mpr q)) H locs ls hw hS hl)
theorem gw_if_ge (C : Cx p s m args c cc nL own ws D ca A) {a a' off : Int} {tgt : Nat} (hd : decode cc pc = .ok (.ifCond .ge off, 3)) (ht : (pc : Int) + off = (tgt : Int)) (ha : s32 a = a') (kt : 0 ≤ a' → GW WR p l e R s m args below meth c nL A cells slots Q tgt lv st) (kf : ¬ (0 ≤ a') → GW WR p l e R s m args below meth c nL A cells slots Q (pc + 3) lv st) : GW WR p l e R s m args below meth c nL A cells slots Q pc lv (.int (iI a) :: st) := by
  intro H locs ls hw hS hl
  subst ha
  have hi := iI_le 0 a
  rw [s32_0, iI_0] at hi
  exact lv_if_ge C.1 C.2.1 hd ht (fun h => kt (hi.mp h) H locs ls hw hS hl) (fun h => kf (fun q => h (hi.mpr q)) H locs ls hw hS hl)
theorem gw_icmp_gt (C : Cx p s m args c cc nL own ws D ca A) {a b a' b' off : Int} {tgt : Nat} (hd : decode cc pc = .ok (.if_icmp .gt off, 3)) (ht : (pc : Int) + off = (tgt : Int)) (ha : s32 a = a') (hb : s32 b = b') (kt : b' < a' → GW WR p l e R s m args below meth c nL A cells slots Q tgt lv st) (kf : ¬ (b' < a') → GW WR p l e R s m args below meth c nL A cells slots Q (pc + 3) lv st) : GW WR p l e R s m args below meth c nL A cells slots Q pc lv (.int (iI b) :: .int (iI a) :: st) := by
  intro H locs ls hw hS hl
  subst ha; subst hb
  exact lv_icmp_gt C.1 C.2.1 hd ht (fun h => kt ((iI_lt b a).mp h) H locs ls hw hS hl) (fun h => kf (fun q => h ((iI_lt b a).mpr q)) H locs ls hw hS hl)
theorem gw_if_gt (C : Cx p s m args c cc nL own ws D ca A) {a a' off : Int} {tgt : Nat} (hd : decode cc pc = .ok (.ifCond .gt off, 3)) (ht : (pc : Int) + off = (tgt : Int)) (ha : s32 a = a') (kt : 0 < a' → GW WR p l e R s m args below meth c nL A cells slots Q tgt lv st) (kf : ¬ (0 < a') → GW WR p l e R s m args below meth c nL A cells slots Q (pc + 3) lv st) : GW WR p l e R s m args below meth c nL A cells slots Q pc lv (.int (iI a) :: st) := by
  intro H locs ls hw hS hl
  subst ha
  have hi := iI_lt 0 a
  rw [s32_0, iI_0] at hi
  exact lv_if_gt C.1 C.2.1 hd ht (fun h => kt (hi.mp h) H locs ls hw hS hl) (fun h => kf (fun q => h (hi.mpr q)) H locs ls hw hS hl)
theorem gw_icmp_le (C : Cx p s m args c cc nL own ws D ca A) {a b a' b' off : Int} {tgt : Nat} (hd : decode cc pc = .ok (.if_icmp .le off, 3)) (ht : (pc : Int) + off = (tgt : Int)) (ha : s32 a = a') (hb : s32 b = b') (kt : a' ≤ b' → GW WR p l e R s m args below meth c nL A cells slots Q tgt lv st) (kf : ¬ (a' ≤ b') → GW WR p l e R s m args below meth c nL A cells slots Q (pc + 3) lv st) : GW WR p l e R s m args below meth c nL A cells slots Q pc lv (.int (iI b) :: .int (iI a) :: st) := by
  intro H locs ls hw hS hl
  subst ha; subst hb
  exact lv_icmp_le C.1 C.2.1 hd ht (fun h => kt ((iI_le a b).mp h) H locs ls hw hS hl) (fun h => kf (fun q => h ((iI_le a b).mpr q)) H locs ls hw hS hl)
theorem gw_if_le (C : Cx p s m args c cc nL own ws D ca A) {a a' off : Int} {tgt : Nat} (hd : decode cc pc = .ok (.ifCond .le off, 3)) (ht : (pc : Int) + off = (tgt : Int)) (ha : s32 a = a') (kt : a' ≤ 0 → GW WR p l e R s m args below meth c nL A cells slots Q tgt lv st) (kf : ¬ (a' ≤ 0) → GW WR p l e R s m args below meth c nL A cells slots Q (pc + 3) lv st) : GW WR p l e R s m args below meth c nL A cells slots Q pc lv (.int (iI a) :: st) := by
  intro H locs ls hw hS hl
  subst ha
  have hi := iI_le a 0
  rw [s32_0, iI_0] at hi
  exact lv_if_le C.1 C.2.1 hd ht (fun h => kt (hi.mp h) H locs ls hw hS hl) (fun h => kf (fun q => h (hi.mpr q)) H locs ls hw hS hl)
theorem gw_icmp_ne (C : Cx p s m args c cc nL own ws D ca A) {a b a' b' off : Int} {tgt : Nat} (hd : decode cc pc = .ok (.if_icmp .ne off, 3)) (ht : (pc : Int) + off = (tgt : Int)) (ha : s32 a = a') (hb : s32 b = b') (kt : ¬ (a' = b') → GW WR p l e R s m args below meth c nL A cells slots Q tgt lv st) (kf : a' = b' → GW WR p l e R s m args below meth c nL A cells slots Q (pc + 3) lv st) : GW WR p l e R s m args below meth c nL A cells slots Q pc lv (.int (iI b) :: .int (iI a) :: st) := by
  intro H locs ls hw hS hl
  subst ha; subst hb
  exact lv_icmp_ne C.1 C.2.1 hd ht (fun h => kt (fun q => h ((iI_eq a b).mpr q)) H locs ls hw hS hl) (fun h => kf ((iI_eq a b).mp h) H locs ls hw hS hl)
theorem gw_if_ne (C : Cx p s m args c cc nL own ws D ca A) {a a' off : Int} {tgt : Nat} (hd : decode cc pc = .ok (.ifCond .ne off, 3)) (ht : (pc : Int) + off = (tgt : Int)) (ha : s32 a = a') (kt : ¬ (a' = 0) → GW WR p l e R s m args below meth c nL A cells slots Q tgt lv st) (kf : a' = 0 → GW WR p l e R s m args below meth c nL A cells slots Q (pc + 3) lv st) : GW WR p l e R s m args below meth c nL A cells slots Q pc lv (.int (iI a) :: st) := by
  intro H locs ls hw hS hl
  subst ha
  have hi := iI_eq a 0
  rw [s32_0, iI_0] at hi
  exact lv_if_ne C.1 C.2.1 hd ht (fun h => kt (fun q => h (hi.mpr q)) H locs ls hw hS hl) (fun h => kf (hi.mp h) H locs ls hw hS hl)
theorem gw_lcmp_lt (C : Cx p s m args c cc nL own ws D ca A) {a b a' b' off : Int} {tgt : Nat} (hd : decode cc pc = .ok (.lcmp, 1)) (hd2 : decode cc (pc + 1) = .ok (.ifCond .lt off, 3)) (ht : ((pc + 1 : Nat) : Int) + off = (tgt : Int)) (ha : s64 a = a') (hb : s64 b = b') (kt : a' < b' → GW WR p l e R s m args below meth c nL A cells slots Q tgt lv st) (kf : ¬ (a' < b') → GW WR p l e R s m args below meth c nL A cells slots Q (pc + 4) lv st) : GW WR p l e R s m args below meth c nL A cells slots Q pc lv (.long (lI b) :: .long (lI a) :: st) := by
  intro H locs ls hw hS hl
  subst ha; subst hb
  refine W.lcmp C.1 C.2.1 hd (lv_if_lt C.1 C.2.1 hd2 ht (fun h => kt ?_ H locs ls hw hS hl) (fun h => kf ?_ H locs ls hw hS hl))
  · rw [cmp_t] at h
    split at h
    · first | omega | exact absurd h (by decide)
    · split at h
      · first | omega | exact absurd h (by decide)
      · first | omega | exact absurd h (by decide)
  · intro q
    apply h
    rw [cmp_t]
    split
    · first | decide | (exfalso; omega)
    · first | decide | (exfalso; omega) | (split <;> first | decide | (exfalso; omega))
theorem gw_lcmp_ge (C : Cx p s m args c cc nL own ws D ca A) {a b a' b' off : Int} {tgt : Nat} (hd : decode cc pc = .ok (.lcmp, 1)) (hd2 : decode cc (pc + 1) = .ok (.ifCond .ge off, 3)) (ht : ((pc + 1 : Nat) : Int) + off = (tgt : Int)) (ha : s64 a = a') (hb : s64 b = b') (kt : b' ≤ a' → GW WR p l e R s m args below meth c nL A cells slots Q tgt lv st) (kf : ¬ (b' ≤ a') → GW WR p l e R s m args below meth c nL A cells slots Q (pc + 4) lv st) : GW WR p l e R s m args below meth c nL A cells slots Q pc lv (.long (lI b) :: .long (lI a) :: st) := by
  intro H locs ls hw hS hl
  subst ha; subst hb
  refine W.lcmp C.1 C.2.1 hd (lv_if_ge C.1 C.2.1 hd2 ht (fun h => kt ?_ H locs ls hw hS hl) (fun h => kf ?_ H locs ls hw hS hl))
  · rw [cmp_t] at h
    split at h
    · first | omega | exact absurd h (by decide)
    · split at h
      · first | omega | exact absurd h (by decide)
      · first | omega | exact absurd h (by decide)
  · intro q
    apply h
    rw [cmp_t]
    split
    · first | decide | (exfalso; omega)
    · first | decide | (exfalso; omega) | (split <;> first | decide | (exfalso; omega))
theorem gw_lcmp_gt (C : Cx p s m args c cc nL own ws D ca A) {a b a' b' off : Int} {tgt : Nat} (hd : decode cc pc = .ok (.lcmp, 1)) (hd2 : decode cc (pc + 1) = .ok (.ifCond .gt off, 3)) (ht : ((pc + 1 : Nat) : Int) + off = (tgt : Int)) (ha : s64 a = a') (hb : s64 b = b') (kt : b' < a' → GW WR p l e R s m args below meth c nL A cells slots Q tgt lv st) (kf : ¬ (b' < a') → GW WR p l e R s m args below meth c nL A cells slots Q (pc + 4) lv st) : GW WR p l e R s m args below meth c nL A cells slots Q pc lv (.long (lI b) :: .long (lI a) :: st) := by
  intro H locs ls hw hS hl
  subst ha; subst hb
  refine W.lcmp C.1 C.2.1 hd (lv_if_gt C.1 C.2.1 hd2 ht (fun h => kt ?_ H locs ls hw hS hl) (fun h => kf ?_ H locs ls hw hS hl))
  · rw [cmp_t] at h
    split at h
    · first | omega | exact absurd h (by decide)
    · split at h
      · first | omega | exact absurd h (by decide)
      · first | omega | exact absurd h (by decide)
  · intro q
    apply h
    rw [cmp_t]
    split
    · first | decide | (exfalso; omega)
    · first | decide | (exfalso; omega) | (split <;> first | decide | (exfalso; omega))
theorem gw_lcmp_le (C : Cx p s m args c cc nL own ws D ca A) {a b a' b' off : Int} {tgt : Nat} (hd : decode cc pc = .ok (.lcmp, 1)) (hd2 : decode cc (pc + 1) = .ok (.ifCond .le off, 3)) (ht : ((pc + 1 : Nat) : Int) + off = (tgt : Int)) (ha : s64 a = a') (hb : s64 b = b') (kt : a' ≤ b' → GW WR p l e R s m args below meth c nL A cells slots Q tgt lv st) (kf : ¬ (a' ≤ b') → GW WR p l e R s m args below meth c nL A cells slots Q (pc + 4) lv st) : GW WR p l e R s m args below meth c nL A cells slots Q pc lv (.long (lI b) :: .long (lI a) :: st) := by
  intro H locs ls hw hS hl
  subst ha; subst hb
  refine W.lcmp C.1 C.2.1 hd (lv_if_le C.1 C.2.1 hd2 ht (fun h => kt ?_ H locs ls hw hS hl) (fun h => kf ?_ H locs ls hw hS hl))
  · rw [cmp_t] at h
    split at h
    · first | omega | exact absurd h (by decide)
    · split at h
      · first | omega | exact absurd h (by decide)
      · first | omega | exact absurd h (by decide)
  · intro q
    apply h
    rw [cmp_t]
    split
    · first | decide | (exfalso; omega)
    · first | decide | (exfalso; omega) | (split <;> first | decide | (exfalso; omega))
theorem gw_lcmp_eq (C : Cx p s m args c cc nL own ws D ca A) {a b a' b' off : Int} {tgt : Nat} (hd : decode cc pc = .ok (.lcmp, 1)) (hd2 : decode cc (pc + 1) = .ok (.ifCond .eq off, 3)) (ht : ((pc + 1 : Nat) : Int) + off = (tgt : Int)) (ha : s64 a = a') (hb : s64 b = b') (kt : a' = b' → GW WR p l e R s m args below meth c nL A cells slots Q tgt lv st) (kf : ¬ (a' = b') → GW WR p l e R s m args below meth c nL A cells slots Q (pc + 4) lv st) : GW WR p l e R s m args below meth c nL A cells slots Q pc lv (.long (lI b) :: .long (lI a) :: st) := by
  intro H locs ls hw hS hl
  subst ha; subst hb
  refine W.lcmp C.1 C.2.1 hd (lv_if_eq C.1 C.2.1 hd2 ht (fun h => kt ?_ H locs ls hw hS hl) (fun h => kf ?_ H locs ls hw hS hl))
  · rw [cmp_t] at h
    split at h
    · first | omega | exact absurd h (by decide)
    · split at h
      · first | omega | exact absurd h (by decide)
      · first | omega | exact absurd h (by decide)
  · intro q
    apply h
    rw [cmp_t]
    split
    · first | decide | (exfalso; omega)
    · first | decide | (exfalso; omega) | (split <;> first | decide | (exfalso; omega))
theorem gw_lcmp_ne (C : Cx p s m args c cc nL own ws D ca A) {a b a' b' off : Int} {tgt : Nat} (hd : decode cc pc = .ok (.lcmp, 1)) (hd2 : decode cc (pc + 1) = .ok (.ifCond .ne off, 3)) (ht : ((pc + 1 : Nat) : Int) + off = (tgt : Int)) (ha : s64 a = a') (hb : s64 b = b') (kt : ¬ (a' = b') → GW WR p l e R s m args below meth c nL A cells slots Q tgt lv st) (kf : a' = b' → GW WR p l e R s m args below meth c nL A cells slots Q (pc + 4) lv st) : GW WR p l e R s m args below meth c nL A cells slots Q pc lv (.long (lI b) :: .long (lI a) :: st) := by
  intro H locs ls hw hS hl
  subst ha; subst hb
  refine W.lcmp C.1 C.2.1 hd (lv_if_ne C.1 C.2.1 hd2 ht (fun h => kt (fun q => h ?_) H locs ls hw hS hl) (fun h => kf ?_ H locs ls hw hS hl))
  · rw [cmp_t, if_neg (by omega), if_pos q]
  · rw [cmp_t] at h
    split at h
    · exact absurd h (by decide)
    · split at h
      · assumption
      · exact absurd h (by decide)
theorem gw_mask (bs : List Bool) (k : GW WR p l e R s m args below meth c nL A cells slots Q pc (mk bs lv) st) : GW WR p l e R s m args below meth c nL A cells slots Q pc lv st :=
  fun H locs ls hw hS hl => k H locs ls hw hS ⟨hl.1, hl.2.1, fun i v h => hl.2.2 i v (mk_at bs lv i v h)⟩
theorem gw_tsIn (C : Cx p s m args c cc nL own ws D ca A) {dflt lo hi z j off : Int} {offs : Array Int} {len tgt : Nat} (hd : decode cc pc = .ok (.tableswitch dflt lo hi offs, len)) (hz : s32 z = j) (h1 : ¬ j < lo) (h2 : ¬ hi < j) (ho : offs[(j - lo).toNat]? = some off) (ht : (pc : Int) + off = (tgt : Int)) (k : GW WR p l e R s m args below meth c nL A cells slots Q tgt lv st) : GW WR p l e R s m args below meth c nL A cells slots Q pc lv (.int (iI z) :: st) :=
  fun H locs ls hw hS hl => lv_tableIn C.1 C.2.1 hd (by rw [iI_toInt, hz]; exact h1) (by rw [iI_toInt, hz]; exact h2) (by rw [iI_toInt, hz]; exact ho) ht (k H locs ls hw hS hl)
theorem gw_tsOut (C : Cx p s m args c cc nL own ws D ca A) {dflt lo hi z : Int} {offs : Array Int} {len tgt : Nat} (hd : decode cc pc = .ok (.tableswitch dflt lo hi offs, len)) (hz : s32 z < lo ∨ hi < s32 z) (ht : (pc : Int) + dflt = (tgt : Int)) (k : GW WR p l e R s m args below meth c nL A cells slots Q tgt lv st) : GW WR p l e R s m args below meth c nL A cells slots Q pc lv (.int (iI z) :: st) :=
  fun H locs ls hw hS hl => lv_tableOut C.1 C.2.1 hd (by rw [iI_toInt]; exact hz) ht (k H locs ls hw hS hl)
theorem gw_lsw (C : Cx p s m args c cc nL own ws D ca A) {dflt z off : Int} {ps : Array (Int × Int)} {len tgt : Nat} (hd : decode cc pc = .ok (.lookupswitch dflt ps, len)) (hp : (ps.toList.zip (ps.toList.drop 1)).all (fun (a, next) => a.1 < next.1) = true) (ho : Op.lookupswitch.offset ps.toList dflt (s32 z) = off) (ht : (pc : Int) + off = (tgt : Int)) (k : GW WR p l e R s m args below meth c nL A cells slots Q tgt lv st) : GW WR p l e R s m args below meth c nL A cells slots Q pc lv (.int (iI z) :: st) :=
  fun H locs ls hw hS hl => lv_lookup C.1 C.2.1 hd hp (by rw [iI_toInt]; exact ho) ht (k H locs ls hw hS hl)
end Gw2
