/-! PURE 49: a statement, the class's reading -/
def Bad (u : Int) (N : Nat) (τ0 : Mem) (p : Nat) (τ : Mem) (q : Nat) : Prop := ∃ τ', p ≤ q ∧ Go (rfc u) (q - p) ((p : Int), τ) ((q : Int), τ') ∧ FRM τ0 τ' ∧ ((q < N ∧ rfc u ((q : Int), τ') = some (.inr (.inl (-1000 - (q : Int), τ')))) ∨ (q = N ∧ L3 (τ' 70 2)))
theorem Bad.pre {u : Int} {N : Nat} {τ0 τ τ1 : Mem} {p p1 q : Nat} (h : Bad u N τ0 p1 τ1 q) (hp : p ≤ p1) (g : Go (rfc u) (p1 - p) ((p : Int), τ) ((p1 : Int), τ1)) : Bad u N τ0 p τ q := by
  obtain ⟨τ', h1, h2, h3, h4⟩ := h
  exact ⟨τ', by omega, (g.tr h2).cast (by omega), h3, h4⟩
theorem c_badAt {τ0 τ : Mem} {u : Int} {t : Nat → Int} {N p : Nat} {c p0 v : Int} {k dg : Nat} {nums : Nat → Int} (hT : CT τ0 u t N) (h : IS τ0 τ c p0 k dg v nums) (hc : L3 c) (hp : p ≤ N) (w : p < N → f_X6_goesOn (t p) p τ = some (0, τ)) : Bad u N τ0 p τ p := by
  refine ⟨τ, Nat.le_refl _, by rw [Nat.sub_self]; exact Go.rf, h.1, ?_⟩
  rcases Nat.lt_or_ge p N with z | z
  · left
    refine ⟨z, ?_⟩
    rw [rfc_step (hT.fr h.1) z (w z), if_pos s32_0]
  · right
    exact ⟨by omega, by rw [h.2.1]; exact hc⟩
theorem c_digit1 {τ0 τ : Mem} {u : Int} {t : Nat → Int} {N p : Nat} {c p0 v : Int} {k dg : Nat} {nums : Nat → Int} (hT : CT τ0 u t N) (h : IS τ0 τ c p0 k dg v nums) (hc : L3 c) (hp : p < N) (hd : dg ≤ 3) (hv : 0 ≤ v ∧ v ≤ 999) (hx : dgt (t p)) (w : ¬ (dg = 3 ∨ (0 < dg ∧ v = 0))) : ∃ τ1, Go (rfc u) 1 ((p : Int), τ) (((p + 1 : Nat) : Int), τ1) ∧ IS τ0 τ1 c p0 k (dg + 1) (10 * v + t p - 48) nums := by
  have g := g_digit (i := (p : Int)) h hc hd hv hx
  rw [if_neg w] at g
  have s := rfc_step (hT.fr h.1) hp g
  rw [if_neg (by decide)] at s
  obtain ⟨h1, h2, h3, h4, h5, h6, h7⟩ := h
  refine ⟨_, Go.one s, (h1.up (by omega)).up (by omega), ?_, ?_, ?_, ?_, ?_, fun j hj hj5 => ?_⟩
  · rw [ups_ni (by decide), ups_ni (by decide)]; exact h2
  · rw [ups_ni (by decide), ups_ni (by decide)]; exact h3
  · rw [ups_ni (by decide), ups_ni (by decide)]; exact h4
  · rw [ups_at]
  · rw [ups_ni (by decide), ups_at]
  · rw [ups_ne (by decide), ups_ne (by decide)]
    exact h7 j hj hj5
theorem TX.lt {t : Nat → Int} {N : Nat} (h : TX t N) {p : Nat} (q : ¬ t p = -1000) : p < N := by
  rcases Nat.lt_or_ge p N with z | z
  · exact z
  · exact absurd (h.2.2 p z) q
theorem c_number {τ0 τ : Mem} {u : Int} {t : Nat → Int} {N p : Nat} {c p0 : Int} {k : Nat} {nums : Nat → Int} (hT : CT τ0 u t N) (h : IS τ0 τ c p0 k 0 0 nums) (hc : L3 c) (w : (nmb t p).1 = true) : ∃ τ' dg, Go (rfc u) ((nmb t p).2.1 - p) ((p : Int), τ) (((nmb t p).2.1 : Nat), τ') ∧ IS τ0 τ' c p0 k dg (nmb t p).2.2 nums ∧ (1 ≤ dg ∧ dg ≤ 3) ∧ (dgt (t (nmb t p).2.1) → dg = 3 ∨ (nmb t p).2.2 = 0) := by
  have b := nmb_t hT.1 w
  have l1 := hT.1.lt (p := p) (by have := b.1.1; omega)
  obtain ⟨τ1, g1, i1⟩ := c_digit1 hT h hc l1 (by omega) (by omega) b.1 (by omega)
  have v1 : 10 * (0 : Int) + t p - 48 = t p - 48 := by omega
  rw [v1] at i1
  have d1 := b.1
  clear b w
  unfold nmb
  rw [if_pos d1]
  by_cases c2 : 0 < t p - 48 ∧ dgt (t (p + 1))
  · rw [if_pos c2]
    have l2 := hT.1.lt (p := p + 1) (by have := c2.2.1; omega)
    obtain ⟨τ2, g2, i2⟩ := c_digit1 hT i1 hc l2 (by omega) (by omega) c2.2 (by omega)
    by_cases c3 : dgt (t (p + 2))
    · rw [if_pos c3]
      have l3 := hT.1.lt (p := p + 2) (by have := c3.1; omega)
      obtain ⟨τ3, g3, i3⟩ := c_digit1 (p := p + 2) hT i2 hc l3 (by omega) (by have := c2.2; omega) c3 (by omega)
      exact ⟨τ3, 3, ((g1.tr g2).tr g3).cast (by dsimp only; omega), i3, by omega, fun _ => Or.inl rfl⟩
    · rw [if_neg c3]
      exact ⟨τ2, 2, (g1.tr g2).cast (by dsimp only; omega), i2, by omega, fun z => absurd z c3⟩
  · rw [if_neg c2]
    refine ⟨τ1, 1, g1.cast (by dsimp only; omega), i1, by omega, fun z => Or.inr ?_⟩
    have z' : dgt (t (p + 1)) := z
    dsimp only
    omega
theorem IS.ext {τ0 τ : Mem} {c p0 v : Int} {k dg : Nat} {nums nums' : Nat → Int} (h : IS τ0 τ c p0 k dg v nums) (e : ∀ j, j < k → nums' j = nums j) : IS τ0 τ c p0 k dg v nums' :=
  ⟨h.1, h.2.1, h.2.2.1, h.2.2.2.1, h.2.2.2.2.1, h.2.2.2.2.2.1, fun j hj hj5 => (h.2.2.2.2.2.2 j hj hj5).trans (e j hj).symm⟩
/-- the class stands before the sign that ends a statement -/
def FinS (u : Int) (t : Nat → Int) (τ0 : Mem) (c p0 : Int) (p : Nat) (τ : Mem) (q k : Nat) (nums : Nat → Int) : Prop := ∃ (e : Nat) (τ' : Mem) (dg : Nat), k = e + 1 ∧ p < q ∧ Go (rfc u) (q - 1 - p) ((p : Int), τ) (((q - 1 : Nat) : Int), τ') ∧ IS τ0 τ' c p0 e dg (nums e) nums ∧ (1 ≤ dg ∧ dg ≤ 3) ∧ t (q - 1) = 59
theorem FinS.pre {u : Int} {t : Nat → Int} {τ0 : Mem} {c p0 : Int} {p p1 q k : Nat} {τ τ1 : Mem} {nums : Nat → Int} (h : FinS u t τ0 c p0 p1 τ1 q k nums) (hp : p ≤ p1) (g : Go (rfc u) (p1 - p) ((p : Int), τ) ((p1 : Int), τ1)) : FinS u t τ0 c p0 p τ q k nums := by
  obtain ⟨e, τ', dg, h1, h2, h3, h4⟩ := h
  exact ⟨e, τ', dg, h1, by omega, (g.tr h3).cast (by omega), h4⟩
theorem c_rest {τ0 : Mem} {u : Int} {t : Nat → Int} {N : Nat} {c p0 : Int} (hT : CT τ0 u t N) (hc : L3 c) : ∀ (g p e : Nat) (dg : Nat) (nums : Nat → Int) (τ : Mem), IS τ0 τ c p0 e dg (nums e) nums → (1 ≤ dg ∧ dg ≤ 3) → (0 ≤ nums e ∧ nums e ≤ 999) → (dgt (t p) → dg = 3 ∨ nums e = 0) → p ≤ N → N - p < g → e < 120 → if (prs t (mst c) (lst c) g p (e + 1) nums).1 = true then FinS u t τ0 c p0 p τ (prs t (mst c) (lst c) g p (e + 1) nums).2.1 (prs t (mst c) (lst c) g p (e + 1) nums).2.2.1 (prs t (mst c) (lst c) g p (e + 1) nums).2.2.2 else Bad u N τ0 p τ (prs t (mst c) (lst c) g p (e + 1) nums).2.1
  | 0, p, e, dg, nums, τ, _, _, _, _, _, hg, _ => absurd hg (Nat.not_lt_zero _)
  | g + 1, p, e, dg, nums, τ, h, hd, hv, hz, hp, hg, he => by
    have hb := lst_b c
    unfold prs
    by_cases c1 : ((e + 1 : Nat) : Int) < mst c ∧ (((e + 1 : Nat) : Int) < lst c ∨ t p = 32)
    · rw [if_pos c1]
      by_cases c2 : t p = 32
      · rw [if_pos c2]
        have l := hT.1.lt (p := p) (by rw [c2]; decide)
        have gb := g_blank (i := (p : Int)) h hc hd.2 hd.1 (by omega) rfl (by omega)
        rw [← c2] at gb
        have s := rfc_step (hT.fr h.1) l gb
        rw [if_neg (by decide)] at s
        have i1 := (c_endNumber h (by omega) rfl).2
        have g1 : Go (rfc u) (p + 1 - p) ((p : Int), τ) (((p + 1 : Nat) : Int), edN τ e (nums e)) := (Go.one s).cast (by omega)
        by_cases c3 : (nmb t (p + 1)).1 = true
        · rw [if_pos c3]
          have b := nmb_t hT.1 c3
          obtain ⟨τ2, dg2, g2, i2, hd2, hz2⟩ := c_number hT i1 hc c3
          have i3 : IS τ0 τ2 c p0 (e + 1) dg2 ((fun j => if j = e + 1 then (nmb t (p + 1)).2.2 else nums j) (e + 1)) (fun j => if j = e + 1 then (nmb t (p + 1)).2.2 else nums j) := by
            have w := i2.ext (nums' := fun j => if j = e + 1 then (nmb t (p + 1)).2.2 else nums j) (fun j hj => if_neg (by omega))
            rw [show (fun j => if j = e + 1 then (nmb t (p + 1)).2.2 else nums j) (e + 1) = (nmb t (p + 1)).2.2 from if_pos rfl]
            exact w
          have ev : (fun j => if j = e + 1 then (nmb t (p + 1)).2.2 else nums j) (e + 1) = (nmb t (p + 1)).2.2 := if_pos rfl
          have r := c_rest hT hc g (nmb t (p + 1)).2.1 (e + 1) dg2 (fun j => if j = e + 1 then (nmb t (p + 1)).2.2 else nums j) τ2 i3 hd2 (by rw [if_pos rfl]; exact b.2.2) (by rw [if_pos rfl]; exact hz2) b.2.1.2 (by omega) (by omega)
          have gg : Go (rfc u) ((nmb t (p + 1)).2.1 - p) ((p : Int), τ) (((nmb t (p + 1)).2.1 : Nat), τ2) := (g1.tr g2).cast (by omega)
          split
          · rename_i c4
            rw [if_pos c4] at r
            exact r.pre (by omega) gg
          · rename_i c4
            rw [if_neg c4] at r
            exact r.pre (by omega) gg
        · rw [if_neg c3, if_neg (fun w => by cases w)]
          have b := nmb_f c3
          dsimp only
          rw [b.2]
          exact (c_badAt hT i1 hc (by omega) (fun w => g_other i1 hc (by omega) (by omega) b.1 (hT.1.inI (p + 1)) (Or.inl rfl))).pre (by omega) g1
      · rw [if_neg c2, if_neg (fun w => by cases w)]
        refine c_badAt hT h hc hp (fun w => ?_)
        by_cases c3 : dgt (t p)
        · have z := hz c3
          rw [g_digit h hc hd.2 hv c3, if_pos (by omega)]
        · exact g_other h hc hd.2 (by omega) c3 (hT.1.inI p) (Or.inr ⟨fun z => absurd z c2, fun _ => by omega⟩)
    · rw [if_neg c1]
      by_cases c2 : t p = 59
      · rw [if_pos c2, if_pos rfl]
        exact ⟨e, τ, dg, rfl, by dsimp only; omega, by rw [show (p + 1) - 1 - p = 0 by omega]; exact Go.rf, h, hd, c2⟩
      · rw [if_neg c2, if_neg (fun w => by cases w)]
        refine c_badAt hT h hc hp (fun w => ?_)
        by_cases c3 : dgt (t p)
        · have z := hz c3
          rw [g_digit h hc hd.2 hv c3, if_pos (by omega)]
        · exact g_other h hc hd.2 (by omega) c3 (hT.1.inI p) (Or.inr ⟨fun z => by omega, fun z => absurd z c2⟩)
theorem c_stmt {τ0 : Mem} {u : Int} {t : Nat → Int} {N p : Nat} (hT : CT τ0 u t N) (h0 : τ0 70 2 = 0) (hp : p < N) : if (psm t p).1 = true then FinS u t τ0 (t p) p p τ0 (psm t p).2.1 (psm t p).2.2.1 (psm t p).2.2.2 else Bad u N τ0 p τ0 (psm t p).2.1 := by
  have hN := hT.1.1
  have gb := g_begin (i := (p : Int)) h0 (hT.1.inI p)
  unfold psm
  by_cases c : t p = 115 ∨ t p = 109 ∨ t p = 116
  · rw [if_pos c]
    rw [if_pos c] at gb
    have s := rfc_step hT hp gb
    rw [if_neg (by decide)] at s
    obtain ⟨τ1, e1⟩ : ∃ τ1, τ1 = ups (ups (ups (ups (ups τ0 70 2 (t p)) 70 3 p) 70 4 0) 70 5 0) 70 6 0 := ⟨_, rfl⟩
    rw [← e1] at s
    have i1 : IS τ0 τ1 (t p) p 0 0 0 (fun _ => 0) := by
      rw [e1]
      have f0 : FRM τ0 τ0 := fun _ _ _ => rfl
      refine ⟨((((f0.up (by omega)).up (by omega)).up (by omega)).up (by omega)).up (by omega), ?_, ?_, ?_, ?_, ?_, fun j hj => absurd hj (Nat.not_lt_zero _)⟩
      · rw [ups_ni (by decide), ups_ni (by decide), ups_ni (by decide), ups_ni (by decide), ups_at]
      · rw [ups_ni (by decide), ups_ni (by decide), ups_ni (by decide), ups_at]
      · rw [ups_ni (by decide), ups_ni (by decide), ups_at]; rfl
      · rw [ups_ni (by decide), ups_at]; rfl
      · rw [ups_at]
    have g1 : Go (rfc u) (p + 1 - p) ((p : Int), τ0) (((p + 1 : Nat) : Int), τ1) := (Go.one s).cast (by omega)
    by_cases c3 : (nmb t (p + 1)).1 = true
    · rw [if_pos c3]
      have b := nmb_t hT.1 c3
      obtain ⟨τ2, dg2, g2, i2, hd2, hz2⟩ := c_number hT i1 c c3
      have i3 : IS τ0 τ2 (t p) p 0 dg2 ((fun _ : Nat => (nmb t (p + 1)).2.2) 0) (fun _ => (nmb t (p + 1)).2.2) := i2.ext (fun j hj => absurd hj (Nat.not_lt_zero _))
      have r := c_rest hT c 200 (nmb t (p + 1)).2.1 0 dg2 (fun _ => (nmb t (p + 1)).2.2) τ2 i3 hd2 b.2.2 hz2 b.2.1.2 (by omega) (by omega)
      have gg : Go (rfc u) ((nmb t (p + 1)).2.1 - p) ((p : Int), τ0) (((nmb t (p + 1)).2.1 : Nat), τ2) := (g1.tr g2).cast (by omega)
      split
      · rename_i c4
        rw [if_pos c4] at r
        exact r.pre (by omega) gg
      · rename_i c4
        rw [if_neg c4] at r
        exact r.pre (by omega) gg
    · rw [if_neg c3, if_neg (fun w => by cases w)]
      have b := nmb_f c3
      dsimp only
      rw [b.2]
      exact (c_badAt hT i1 c (by omega) (fun w => g_other i1 c (by omega) (by omega) b.1 (hT.1.inI (p + 1)) (Or.inl rfl))).pre (by omega) g1
  · rw [if_neg c, if_neg (fun w => by cases w)]
    rw [if_neg c] at gb
    refine ⟨τ0, Nat.le_refl _, by rw [Nat.sub_self]; exact Go.rf, fun _ _ _ => rfl, Or.inl ⟨hp, ?_⟩⟩
    rw [rfc_step hT hp gb, if_pos s32_0]
