/-! PURE 34: edge -/
theorem upr_eq (s : Int → Int) {p v i : Int} (h : i ≠ p) : upr s p v i = s i := upr_ne h
theorem pU_co {n : Nat} {s s' : Int → Int} (e : ∀ k : Nat, k < n → s' (3 + k) = s (3 + k)) (fit a : Int) : pU s' fit a n = pU s fit a n := by
  unfold pU
  exact sumI_congr (fun k hk => by rw [e k hk])
theorem pT_co {n : Nat} {s s' : Int → Int} (e : ∀ k : Nat, k < n → s' (3 + k) = s (3 + k)) (e2 : ∀ k : Nat, k < n → s' (7 + k) = s (7 + k)) (fit a : Int) : pT s' fit a n = pT s fit a n := by
  unfold pT
  exact sumI_congr (fun k hk => by rw [e k hk, e2 k hk])
theorem lwS_co {s s' : Int → Int} : ∀ {n : Nat}, (∀ k : Nat, k < n → s' (7 + k) = s (7 + k)) → lwS s' n = lwS s n
  | 0, _ => rfl
  | n + 1, e => by
    unfold lwS
    rw [lwS_co (fun k hk => e k (by omega)), e n (by omega)]
/-- two rows that differ in costs alone -/
def cstEq (n m : Nat) (s s' : Int → Int) : Prop := (∀ k : Nat, k < n → s' (3 + k) = s (3 + k) ∧ s' (7 + k) = s (7 + k) ∧ s' (11 + k) = s (11 + k)) ∧ ∀ j : Nat, j < m → s' (15 + j) = s (15 + j) ∧ s' (35 + j) = s (35 + j)
theorem pyU_cst {n m : Nat} {s s' : Int → Int} (e : cstEq n m s s') (fit a : Int) : pyU s' fit a n = pyU s fit a n := by
  unfold pyU
  rw [pU_co (fun k hk => (e.1 k hk).1)]
theorem pyT_cst {n m : Nat} {s s' : Int → Int} (h : Okm n m s) (e : cstEq n m s s') (op fit : Int) {j : Nat} (hj : j < m) : pyT s' op fit j n = pyT s op fit j n := by
  have q := (h.2.2.2.2.2.2 j hj).2.1
  unfold pyT thW
  rw [pU_co (fun k hk => (e.1 k hk).1), pT_co (fun k hk => (e.1 k hk).1) (fun k hk => (e.1 k hk).2.1), pyU_cst e, lwS_co (fun k hk => (e.1 k hk).2.1), (e.2 j hj).1, (e.2 j hj).2]
  by_cases c : s (35 + (j : Int)) ≤ 0
  · rw [if_pos c, if_pos c]
  · obtain ⟨i, hi, ei⟩ : ∃ i : Nat, i < n ∧ s (35 + (j : Int)) - 1 = i := ⟨(s (35 + (j : Int)) - 1).toNat, by omega, by omega⟩
    have e7 : 7 + s (35 + (j : Int)) - 1 = 7 + (i : Int) := by omega
    rw [e7, (e.1 i hi).2.1]
theorem gun_cst {n m : Nat} {s s' : Int → Int} (e : cstEq n m s s') (W fit a : Int) : gun W s' fit a n = gun W s fit a n := by
  unfold gun
  rw [pyU_cst e]
theorem gtp_cst {n m : Nat} {s s' : Int → Int} (h : Okm n m s) (e : cstEq n m s s') (W S K op fit : Int) {k : Nat} (hk : k < n) {a : Int} (ha : a = 4 ∨ (0 ≤ a ∧ a < (m : Int))) (hc : a = 4 ∨ s' (19 + 4 * a + k) = s (19 + 4 * a + k)) : gtp W S K s' op fit k a n = gtp W S K s op fit k a n := by
  unfold gtp
  by_cases c : a = 4
  · rw [if_pos c, if_pos c, (e.1 k hk).2.2]
  · obtain ⟨j, hj, rfl⟩ : ∃ j : Nat, j < m ∧ a = j := ⟨a.toNat, by omega, by omega⟩
    have hc' : s' (19 + 4 * (j : Int) + k) = s (19 + 4 * (j : Int) + k) := by
      rcases hc with q | q
      · exact absurd q c
      · exact q
    rw [if_neg c, if_neg c, pyT_cst h e op fit hj, pyU_cst e, (e.1 k hk).2.1, (e.2 j hj).1, hc']
theorem lur_cst {n m : Nat} {s s' : Int → Int} (h : Okm n m s) (e : cstEq n m s s') (op bars : Int) {fit : Int} (hF : isF n m fit) {k : Nat} (hk : k < n) (hc : ∀ j : Nat, j < m → s' (19 + 4 * j + k) = s (19 + 4 * j + k)) : lur 1 1 0 s' op bars fit n m k = lur 1 1 0 s op bars fit n m k := by
  have hd := isF_dg hF hk
  have ca : ∀ a : Int, a = 4 ∨ (0 ≤ a ∧ a < (m : Int)) → (a = 4 ∨ s' (19 + 4 * a + k) = s (19 + 4 * a + k)) := fun a ha => by
    rcases ha with q | q
    · exact Or.inl q
    · obtain ⟨j, hj, rfl⟩ : ∃ j : Nat, j < m ∧ a = j := ⟨a.toNat, by omega, by omega⟩
      exact Or.inr (hc j hj)
  have g : ∀ a : Int, a = 4 ∨ (0 ≤ a ∧ a < (m : Int)) → gtp 1 1 0 s' op fit k a n = gtp 1 1 0 s op fit k a n := fun a ha => gtp_cst h e 1 1 0 op fit hk ha (ca a ha)
  unfold lur
  rw [g _ hd, g 4 (Or.inl rfl), gun_cst e]
  rw [fst?_congr (Q := fun j => decide (bt bars j = 0 ∧ ¬ gtp 1 1 0 s op fit k j n * gun 1 s fit (dg fit k) n ≤ gtp 1 1 0 s op fit k (dg fit k) n * gun 1 s fit j n)) (fun j h1 h2 => by rw [g j (by omega), gun_cst e])]
/-- a cost of one sort, tried -/
theorem cst_upr {n m : Nat} {s : Int → Int} (hn : n ≤ 4) (hm : m ≤ 4) {p v : Int} (hp : 19 ≤ p ∧ p < 35) : cstEq n m s (upr s p v) :=
  ⟨fun k hk => ⟨upr_ne (by omega), upr_ne (by omega), upr_ne (by omega)⟩, fun j hj => ⟨upr_ne (by omega), upr_ne (by omega)⟩⟩
/-- all but one are content -/
def ctb (s : Int → Int) (fit : Int) (n m k0 : Nat) (k : Nat) : Bool := decide (¬ k = k0 ∧ ¬ lur 1 1 0 s 0 0 fit n m k = -4)
def edP (s : Int → Int) (fit p : Int) (n m k0 : Nat) (t : Nat) : Bool := decide (lur 1 1 0 (upr s p (t : Int)) 0 0 fit n m k0 = -4)
theorem rth_none {W S K : Int} {s : Int → Int} {op bars fit : Int} {n m : Nat} (hm : m ≤ 4) : rth W S K s op bars fit n m = -4 ↔ ∀ k, k < n → lur W S K s op bars fit n m k = -4 := by
  unfold rth
  cases hf : fst? (fun k => decide (¬ lur W S K s op bars fit n m k = -4)) 0 n with
  | some k =>
    obtain ⟨h1, h2, h3⟩ := fst?_some hf
    have h4 := dd_t h3
    have h5 := lur_in W S K s op bars fit n m hm k
    constructor
    · intro z
      have z' : 10 * (k : Int) + lur W S K s op bars fit n m k = -4 := z
      omega
    · intro z
      exact absurd (z k (by omega)) h4
  | none =>
    rw [fst?_none] at hf
    constructor
    · intro _ k hk
      exact Decidable.not_not.mp (dd_f (hf k (by omega) (by omega)))
    · intro _
      rfl
theorem sur0 {n : Nat} {fit : Int} : ∀ k, k < n → dg fit k = 4 ∨ bt 0 (dg fit k) = 0 := by
  intro k hk
  have hz : ∀ j : Nat, j < 5 → bt 0 j = 0 := by decide +kernel
  have a := dg_in fit k
  obtain ⟨j, hj, ej⟩ : ∃ j : Nat, j < 5 ∧ dg fit k = j := ⟨(dg fit k).toNat, by omega, by omega⟩
  right
  rw [ej]
  exact hz j hj
theorem edge_SU {n m : Nat} {s : Int → Int} (h : Okm n m s) {fit : Int} (hF : isF n m fit) {j k0 : Nat} (hj : j < m) (hk : k0 < n) (t : Int) : SU 1 1 0 (upr s (19 + 4 * j + k0) t) 0 0 fit n m ↔ (fst? (ctb s fit n m k0) 0 n = none ∧ lur 1 1 0 (upr s (19 + 4 * j + k0) t) 0 0 fit n m k0 = -4) := by
  have hn := h.1
  have hm := h.2.1
  have hl : ∀ k, k < n → ¬ k = k0 → lur 1 1 0 (upr s (19 + 4 * j + k0) t) 0 0 fit n m k = lur 1 1 0 s 0 0 fit n m k := fun k hk' hne =>
    lur_cst h (cst_upr hn.2 hm.2 (by omega)) 0 0 hF hk' (fun i hi => upr_ne (by omega))
  rw [fst?_none]
  constructor
  · intro z
    have z2 := (rth_none hm.2).mp z.2.2
    refine ⟨fun k _ hk' => ?_, z2 k0 hk⟩
    refine decide_eq_false (fun y => y.2 ?_)
    rw [← hl k (by omega) y.1]
    exact z2 k (by omega)
  · intro z
    refine ⟨hF, sur0, (rth_none hm.2).mpr (fun k hk' => ?_)⟩
    by_cases e : k = k0
    · rw [e]
      exact z.2
    · rw [hl k hk' e]
      have := of_decide_eq_false (z.1 k (by omega) (by omega))
      exact Decidable.not_not.mp (fun y => this ⟨e, y⟩)
theorem c_isContentBut {σ : Mem} {n m : Nat} {s : Int → Int} {fit : Int} (h : Okm n m s) (hg : CG σ n m s 0 fit 1 1 0) (hF : isF n m fit) (h7 : σ 72 7 = 0) {k0 : Nat} (hk0 : k0 < n) : f_X7_isContentBut k0 σ = some (if fst? (ctb s fit n m k0) 0 n = none then 1 else 0, σ) := by
  have hn := h.1
  have hm := h.2.1
  have hl : itr (fun z => f_X7_isContentBut_2 k0 z.1 z.2) FU (0, σ) = some (match fst? (ctb s fit n m k0) 0 n with | some k => Sum.inl (0, σ) | none => Sum.inr σ) := by
    have body : ∀ k : Nat, k < n → f_X7_isContentBut_2 k0 (k : Int) σ = (if ctb s fit n m k0 k = true then some (.inr (.inl (0, σ))) else some (.inl ((k : Int) + 1, σ))) := by
      intro k hk
      have hi := lur_in 1 1 0 s 0 0 fit n m hm.2 k
      have el := c_firstLure h hg hF (by rw [h7]; decide) hk
      rw [h7] at el
      unfold f_X7_isContentBut_2
      rw [hg.1.1, s32_of (z := (n : Int)) (by omega) (by omega), s32_of (z := (k : Int)) (by omega) (by omega), if_neg (by omega), s32_of (z := (k0 : Int)) (by omega) (by omega)]
      by_cases e : k = k0
      · rw [if_pos (by omega), if_neg (show ¬ ctb s fit n m k0 k = true from fun z => (of_decide_eq_true z).1 e)]
      · rw [if_neg (by omega), el, ob_some, s32_of (z := lur 1 1 0 s 0 0 fit n m k) (by omega) (by omega)]
        by_cases e2 : lur 1 1 0 s 0 0 fit n m k = -4
        · rw [if_pos e2, if_neg (show ¬ ctb s fit n m k0 k = true from fun z => (of_decide_eq_true z).2 e2)]
        · rw [if_neg e2, if_pos (show ctb s fit n m k0 k = true from decide_eq_true ⟨e, e2⟩)]
    exact itr_fst0 (f := fun z : Int × Mem => f_X7_isContentBut_2 k0 z.1 z.2) (ctb s fit n m k0) (fun k => ((k : Int), σ)) n (fun _ => Sum.inl (0, σ)) (Sum.inr σ) (by omega) (fun k hk hp => by
      show f_X7_isContentBut_2 k0 (k : Int) σ = _
      rw [body k hk, if_neg (by rw [hp]; decide)]
      rfl) (fun k hk hp => by
      show f_X7_isContentBut_2 k0 (k : Int) σ = _
      rw [body k hk, if_pos hp]) (by
      show f_X7_isContentBut_2 k0 (n : Int) σ = _
      unfold f_X7_isContentBut_2
      rw [hg.1.1, if_pos (Int.le_refl _)])
  unfold f_X7_isContentBut
  cases hf : fst? (ctb s fit n m k0) 0 n with
  | some k =>
    rw [hf] at hl
    rw [show itr (fun z => f_X7_isContentBut_2 k0 z.1 z.2) FU (0, σ) = some (Sum.inl (0, σ)) from hl, lb_some, Sum.elim_inl, if_neg (by simp)]
  | none =>
    rw [hf] at hl
    rw [show itr (fun z => f_X7_isContentBut_2 k0 z.1 z.2) FU (0, σ) = some (Sum.inr σ) from hl, lb_some, Sum.elim_inr, if_pos rfl]
/-- what a search of 0 .. N-1 gives -/
def res? (o : Option Nat) : Int := match o with | some t => (t : Int) | none => -4
/-- a search that ends one turn behind its find -/
theorem itr_find {α : Type} {f : Int × Int × α → Option ((Int × Int × α) ⊕ (Int × α))} (P : Nat → Bool) (J : α → Prop) (N : Nat) (hN : N < 99999) (hs : ∀ t : Nat, t < N → ∀ x, J x → ∃ y, f (-4, (t : Int), x) = some (.inl (if P t = true then (t : Int) else -4, (t : Int) + 1, y)) ∧ J y) (hx : ∀ x, J x → f (-4, (N : Int), x) = some (.inr (-4, x))) (hf : ∀ t : Nat, t < N → ∀ x, J x → f ((t : Int), (t : Int) + 1, x) = some (.inr ((t : Int), x))) {x : α} (h0 : J x) : ∃ y, itr f FU (-4, 0, x) = some (res? (fst? P 0 N), y) ∧ J y := by
  have h := itr_tot (f := f) (fun z : Int × Int × α => J z.2.2 ∧ ((z.1 = -4 ∧ ∃ t : Nat, t ≤ N ∧ z.2.1 = t ∧ ∀ i, i < t → P i = false) ∨ (∃ t : Nat, t < N ∧ z.1 = t ∧ z.2.1 = (t : Int) + 1 ∧ P t = true ∧ ∀ i, i < t → P i = false))) (fun z => N + 1 - z.2.1.toNat) (fun b => b.1 = res? (fst? P 0 N) ∧ J b.2) (by
    rintro ⟨a, b, x⟩ ⟨hJ, hc⟩
    simp only at hJ hc
    rcases hc with ⟨rfl, t, ht, rfl, hi⟩ | ⟨t, ht, rfl, rfl, hp, hi⟩
    · by_cases e : t < N
      · left
        obtain ⟨y, e1, hy⟩ := hs t e x hJ
        refine ⟨_, e1, ⟨hy, ?_⟩, ?_⟩
        · by_cases hp : P t = true
          · right
            refine ⟨t, e, ?_, rfl, hp, hi⟩
            show (if P t = true then (t : Int) else -4) = t
            rw [if_pos hp]
          · left
            refine ⟨?_, t + 1, by omega, rfl, fun i h1 => ?_⟩
            · show (if P t = true then (t : Int) else -4) = -4
              rw [if_neg hp]
            · by_cases e3 : i = t
              · rw [e3]
                simpa using hp
              · exact hi i (by omega)
        · show N + 1 - ((t : Int) + 1).toNat < N + 1 - (t : Int).toNat
          omega
      · right
        have e2 : t = N := by omega
        subst e2
        refine ⟨_, hx x hJ, ?_, hJ⟩
        show (-4 : Int) = _
        rw [fst?_none.mpr (fun j h1 h2 => hi j (by omega))]
        rfl
    · right
      refine ⟨_, hf t ht x hJ, ?_, hJ⟩
      show (t : Int) = _
      rw [fst?_eq (Nat.zero_le t) (by omega) hp (fun i _ h2 => hi i h2)]
      rfl) FU (-4, 0, x) ⟨h0, Or.inl ⟨rfl, 0, Nat.zero_le _, rfl, fun i hi => absurd hi (Nat.not_lt_zero _)⟩⟩ (FU_lt (by show N + 1 - Int.toNat 0 < 100000; omega))
  obtain ⟨b, e, h1, h2⟩ := h
  exact ⟨b.2, by rw [e, ← h1], h2⟩
theorem upr_upr (r : Int → Int) (i u v : Int) : upr (upr r i u) i v = upr r i v := by
  funext j
  unfold upr
  split <;> rfl
theorem ups_same {σ : Mem} {a i v : Int} (h : σ a i = v) : ups σ a i v = σ := by
  funext x j
  unfold ups
  by_cases e : x = a ∧ j = i
  · rw [if_pos e, e.1, e.2, h]
  · rw [if_neg e]
theorem CG.cost {σ : Mem} {n m : Nat} {s : Int → Int} {fit : Int} (h : Okm n m s) (hg : CG σ n m s 0 fit 1 1 0) (h9 : σ 72 9 = 0) {j k : Nat} (hj : j < m) (hk : k < n) (t : Int) : CG (ups σ (16 + 1 + j) k t) n m (upr s (19 + 4 * j + k) t) 0 fit 1 1 0 := by
  have hn := h.1
  have hm := h.2.1
  obtain ⟨hc, hw, h8, h11, h12, h13, hwk⟩ := hg
  have r : ∀ a : Int, a ≠ 16 + 1 + j → ups σ (16 + 1 + j) k t a = σ a := fun a q => ups_ne q
  have e := cst_upr (s := s) (v := t) hn.2 hm.2 (p := 19 + 4 * j + k) (by omega)
  refine ⟨⟨?_, ?_, ?_, fun i hi => ?_, fun i hi => ?_⟩, ⟨⟨fun i hi => ?_, ?_, fun i hi => ?_⟩, fun i hi => ?_⟩, ?_, ?_, ?_, ?_, hwk⟩
  · rw [r 10 (by omega)]; exact hc.1
  · rw [r 10 (by omega)]; exact hc.2.1
  · rw [r 10 (by omega), upr_ne (by omega)]; exact hc.2.2.1
  · rw [r 11 (by omega), r 12 (by omega), r 13 (by omega), (e.1 i hi).1, (e.1 i hi).2.1, (e.1 i hi).2.2]
    exact hc.2.2.2.1 i hi
  · rw [r 14 (by omega), r 15 (by omega), (e.2 i hi).1, (e.2 i hi).2, r 72 (by omega), h9]
    refine ⟨(hc.2.2.2.2 i hi).1, (hc.2.2.2.2 i hi).2.1, fun k' hk' => ?_⟩
    have q := hc.cost h9 hi hk'
    by_cases c : i = j ∧ k' = k
    · rw [c.1, c.2, ups_at, upr_at]
      split <;> omega
    · rw [upr_ne (by omega)]
      have q2 : ups σ (16 + 1 + j) k t (16 + 1 + i) k' = σ (16 + 1 + i) k' := by
        unfold ups
        rw [if_neg (by omega)]
      rw [q2, q]
      split <;> omega
  · rw [r 73 (by omega)]
    exact hw.1.1 i hi
  · rw [r 72 (by omega)]
    exact hw.1.2.1
  · rw [r 72 (by omega)]
    exact hw.1.2.2 i hi
  · rw [r 74 (by omega), r 75 (by omega), pyT_cst h e 0 fit hi, pyU_cst e]
    exact hw.2 i hi
  · rw [r 72 (by omega)]; exact h8
  · rw [r 72 (by omega)]; exact h11
  · rw [r 72 (by omega)]; exact h12
  · rw [r 72 (by omega)]; exact h13
theorem op_edge {σ : Mem} (h : Rel σ) {v w x : Int} (hv : s32 v = v) (hw : s32 w = w) (hx : s32 x = x) : Op σ (f_X11_edge v w x) (f_X12_edge v w x) := by
  unfold Op f_X11_edge f_X12_edge
  by_cases q : σ 0 6 = 0
  · refine ⟨-3, σ, σ, ?_, ?_, h⟩
    · rw [q, if_pos s32_0]
    · rw [m_closed h q, ob_some, if_pos s32_0]
  · obtain ⟨e1, n, m, hO, hB, hM, e6, e7⟩ := h.mk2 q
    have hn := hO.1.1
    have hm := hO.1.2.1
    have h9 := h.1.2.2.2.2.1.2.2
    rw [e1, if_neg (by decide), c_fitAt hO.1 hB hv, ob_some]
    by_cases c1 : isF n m v
    · rw [bi_t c1, if_neg (by decide), c_markAt hO.1 hB hw, ob_some]
      by_cases c2 : 0 ≤ w ∧ w < (m : Int)
      · rw [bi_t c2, if_neg (by decide), c_sortAt hO.1 hB hx, ob_some]
        by_cases c3 : 0 ≤ x ∧ x < (n : Int)
        · rw [bi_t c3, if_neg (by decide)]
          obtain ⟨σ1, ew, hg, hB1, hC⟩ := c_weighed hO.1 hB c1
          rw [e6, s32_0] at hg
          have hM1 := hM.co hC.co
          have e121 : σ1 121 = σ 121 := hC.co.row 121 (fun i => by unfold scr; omega)
          have h77 : σ1 72 7 = 0 := (hC.at 72 7 (by clear hv hw hx; omega)).trans e7
          have h99 : σ1 72 9 = 0 := (hC.at 72 9 (by clear hv hw hx; omega)).trans h9
          obtain ⟨j, hj, rfl⟩ : ∃ j : Nat, j < m ∧ w = j := ⟨w.toNat, by clear hv hw hx; omega, by clear hv hw hx; omega⟩
          obtain ⟨k, hk, rfl⟩ : ∃ k : Nat, k < n ∧ x = k := ⟨x.toNat, by clear hv hw hx; omega, by clear hv hw hx; omega⟩
          have j4 := fin4 hj hm.2
          have k4 := fin4 hk hn.2
          have t5 : 0 ≤ 19 + 4 * (j : Int) + (k : Int) ∧ 19 + 4 * (j : Int) + (k : Int) < 39 := by clear hv hw hx; omega
          have u5 : s32 (19 + 4 * (j : Int) + (k : Int)) = 19 + 4 * (j : Int) + (k : Int) := s32_of (by clear hv hw hx; omega) (by clear hv hw hx; omega)
          have hOt : ∀ t : Nat, t < 1000 → Okm n m (upr (σ 121) (19 + 4 * j + k) t) := fun t ht => (hO.up (Or.inr (Or.inr (Or.inr ⟨j, k, hj, hk, rfl, by clear hv hw hx u5; omega, by clear hv hw hx u5; omega⟩)))).1
          -- the model's search
          have lm : ∃ y, itr (fun z => f_X12_edge_58 v j k (σ 121 (19 + 4 * j + k)) z.1 z.2.1 z.2.2) FU (-4, 0, σ1) = some (res? (fst? (fun t => decide (SU 1 1 0 (upr (σ 121) (19 + 4 * j + k) (t : Int)) 0 0 v n m)) 0 1000), y) ∧ ∃ t x y', y = ab (ups σ1 121 (19 + 4 * j + k) t) x y' := by
            refine itr_find (fun t => decide (SU 1 1 0 (upr (σ 121) (19 + 4 * j + k) (t : Int)) 0 0 v n m)) (fun y => ∃ t x y', y = ab (ups σ1 121 (19 + 4 * j + k) t) x y') 1000 (by decide) (fun t ht y hy => ?_) (fun y hy => ?_) (fun t ht y hy => ?_) ⟨σ 121 (19 + 4 * j + k), σ1 120 21, σ1 120 22, by
              rw [ups_same (by rw [e121]), ab_of]⟩
            · obtain ⟨t0, x, y', rfl⟩ := hy
              have ht' : s32 (t : Int) = t := s32_of (by clear hv hw hx u5; omega) (by clear hv hw hx u5; omega)
              have hs : ups (ab (ups σ1 121 (19 + 4 * j + k) t0) x y') 121 (19 + 4 * j + k) t = ab (ups σ1 121 (19 + 4 * j + k) t) x y' := by
                funext a i
                unfold ups ab
                try dsimp only
                by_cases z1 : a = 121 ∧ i = 19 + 4 * (j : Int) + k
                · rw [if_pos z1, if_neg (by have := z1.1; clear hv hw hx u5; omega), if_neg (by have := z1.1; clear hv hw hx u5; omega), if_pos z1]
                · rw [if_neg z1, if_neg z1, if_neg z1]
              have r121 : ups σ1 121 (19 + 4 * j + k) t 121 = upr (σ 121) (19 + 4 * j + k) t := by rw [ups_self, e121]
              have hX : MSx (ab (ups σ1 121 (19 + 4 * j + k) t) x y') n m 0 0 := by
                refine MSx.ab ⟨by rw [r121]; exact hOt t ht, Or.inl ⟨?_, ?_, rfl, rfl, rfl⟩, ?_, ?_⟩
                · rw [ups_ne (by decide)]; exact hM1.md.1
                · rw [ups_ne (by decide)]; exact hM1.md.2
                · rw [ups_ne (by decide)]; exact hM1.2.2.1
                · rw [ups_ne (by decide)]; exact hM1.2.2.2
              obtain ⟨u, z, e⟩ := m_sureX hX (by decide) hv
              rw [s32_0, ab_s, r121, ab_ab] at e
              refine ⟨ab (ups σ1 121 (19 + 4 * j + k) t) u z, ?_, t, u, z, rfl⟩
              show f_X12_edge_58 v j k (σ 121 (19 + 4 * j + k)) (-4) (t : Int) (ab (ups σ1 121 (19 + 4 * j + k) t0) x y') = _
              unfold f_X12_edge_58
              rw [ht', if_neg (by clear hv hw hx u5 ht'; omega), if_neg (by decide), u5, if_pos t5]
              simp only [stp]
              rw [hs, e, ob_some]
              by_cases c : SU 1 1 0 (upr (σ 121) (19 + 4 * j + k) (t : Int)) 0 0 v n m
              · rw [bi_t c, if_neg (by decide), if_pos (decide_eq_true c)]
              · rw [bi_f c, if_pos s32_0, if_neg (fun z => c (of_decide_eq_true z))]
            · show f_X12_edge_58 v j k (σ 121 (19 + 4 * j + k)) (-4) ((1000 : Nat) : Int) y = _
              unfold f_X12_edge_58
              rw [if_pos (by decide)]
            · have ht' : s32 (t : Int) = t := s32_of (by clear hv hw hx u5; omega) (by clear hv hw hx u5; omega)
              show f_X12_edge_58 v j k (σ 121 (19 + 4 * j + k)) (t : Int) ((t : Int) + 1) y = _
              unfold f_X12_edge_58
              rw [ht', if_pos (show 0 ≤ (t : Int) by clear hv hw hx u5 ht'; omega)]
              split <;> rfl
          obtain ⟨y, em, t1, x1, y1, rfl⟩ := lm
          have back : ups (ab (ups σ1 121 (19 + 4 * j + k) t1) x1 y1) 121 (19 + 4 * j + k) (σ 121 (19 + 4 * j + k)) = ab σ1 x1 y1 := by
            funext a i
            unfold ups ab
            try dsimp only
            by_cases z1 : a = 121 ∧ i = 19 + 4 * (j : Int) + k
            · rw [if_pos z1, if_neg (by have := z1.1; clear hv hw hx u5; omega), if_neg (by have := z1.1; clear hv hw hx u5; omega), z1.1, z1.2, e121]
            · rw [if_neg z1, if_neg z1]
          have hmod : ∀ r : Int, res? (fst? (fun t => decide (SU 1 1 0 (upr (σ 121) (19 + 4 * j + k) (t : Int)) 0 0 v n m)) 0 1000) = r → (ob (f_X12_isOpen σ1) fun r2 σ1 => if (s32 r2) = 0 then (some ((-3), σ1)) else (ob (f_X12_isFit v σ1) fun r6 σ5 => if (s32 r6) = 0 then (some ((-1), σ5)) else (ob (f_X12_isMark j σ5) fun r10 σ9 => if (s32 r10) = 0 then (some ((-1), σ9)) else (ob (f_X12_isSort k σ9) fun r14 σ13 => if (s32 r14) = 0 then (some ((-1), σ13)) else (if 0 ≤ (s32 ((19 + (4 * (j : Int))) + k)) ∧ (s32 ((19 + (4 * (j : Int))) + k)) < 39 then vl (σ13 121 (s32 ((19 + (4 * (j : Int))) + k))) fun w18 => lb (itr (fun z => f_X12_edge_58 v j k w18 z.1 z.2.1 z.2.2) FU ((-4), 0, σ13)) (fun q27 => (fun (y29 : Int) (σ30 : Mem) => if 0 ≤ (s32 ((19 + (4 * (j : Int))) + k)) ∧ (s32 ((19 + (4 * (j : Int))) + k)) < 39 then stp (ups σ30 121 (s32 ((19 + (4 * (j : Int))) + k)) w18) fun σ32 => some (y29, σ32) else none) q27.1 q27.2) else none))))) = some (r, ab σ1 x1 y1) := by
            rintro r rfl
            rw [m_openAt hM1, ob_some, if_neg (by decide), m_fitAt hM1 hv, ob_some, bi_t c1, if_neg (by decide), m_markAt hM1 hw, ob_some, bi_t c2, if_neg (by decide), m_sortAt hM1 hx, ob_some, bi_t c3, if_neg (by decide), u5, if_pos t5, e121]
            simp only [vl]
            rw [em, lb_some]
            simp only [stp]
            rw [if_pos t5, back]
          have hct := c_isContentBut hO.1 hg c1 h77 hk
          by_cases c4 : fst? (ctb (σ 121) v n m k) 0 n = none
          · -- the class's search
            have lc : ∃ y, itr (fun z => f_X11_edge_87 j k (σ 121 (19 + 4 * j + k)) z.1 z.2.1 z.2.2) FU (-4, 0, σ1) = some (res? (fst? (edP (σ 121) v (19 + 4 * j + k) n m k) 0 1000), y) ∧ ∃ t, y = ups σ1 (16 + 1 + j) k t := by
              refine itr_find (edP (σ 121) v (19 + 4 * j + k) n m k) (fun y => ∃ t, y = ups σ1 (16 + 1 + j) k t) 1000 (by decide) (fun t ht y hy => ?_) (fun y hy => ?_) (fun t ht y hy => ?_) ⟨σ1 (16 + 1 + j) k, (ups_same rfl).symm⟩
              · obtain ⟨t0, rfl⟩ := hy
                have ht' : s32 (t : Int) = t := s32_of (by clear hv hw hx u5; omega) (by clear hv hw hx u5; omega)
                have hg2 := hg.cost hO.1 h99 hj hk (t : Int)
                have el := c_firstLure (hOt t ht) hg2 c1 (by rw [ups_ne (by clear hv hw hx u5 ht'; omega), h77]; decide) hk
                rw [ups_ne (show (72 : Int) ≠ 16 + 1 + j by clear hv hw hx u5 ht'; omega), h77] at el
                have hi := lur_in 1 1 0 (upr (σ 121) (19 + 4 * j + k) t) 0 0 v n m hm.2 k
                refine ⟨ups σ1 (16 + 1 + j) k t, ?_, t, rfl⟩
                show f_X11_edge_87 j k (σ 121 (19 + 4 * j + k)) (-4) (t : Int) (ups σ1 (16 + 1 + j) k t0) = _
                unfold f_X11_edge_87
                rw [ht', if_neg (by clear hv hw hx u5 ht'; omega), if_pos (by decide), hw, if_pos j4, hx, if_pos k4]
                simp only [stp]
                rw [ups_ups, el, ob_some, s32_of (z := lur 1 1 0 (upr (σ 121) (19 + 4 * j + k) t) 0 0 v n m k) (by clear hv hw hx u5 ht'; omega) (by clear hv hw hx u5 ht'; omega)]
                by_cases c : lur 1 1 0 (upr (σ 121) (19 + 4 * j + k) (t : Int)) 0 0 v n m k = -4
                · rw [if_pos c, if_pos (show edP (σ 121) v (19 + 4 * j + k) n m k t = true from decide_eq_true c)]
                · rw [if_neg c, if_neg (show ¬ edP (σ 121) v (19 + 4 * j + k) n m k t = true from fun z => c (of_decide_eq_true z))]
              · show f_X11_edge_87 j k (σ 121 (19 + 4 * j + k)) (-4) ((1000 : Nat) : Int) y = _
                unfold f_X11_edge_87
                rw [if_pos (by decide)]
              · have ht' : s32 (t : Int) = t := s32_of (by clear hv hw hx u5; omega) (by clear hv hw hx u5; omega)
                show f_X11_edge_87 j k (σ 121 (19 + 4 * j + k)) (t : Int) ((t : Int) + 1) y = _
                unfold f_X11_edge_87
                rw [ht', if_neg (show ¬ (t : Int) = -4 by clear hv hw hx u5 ht'; omega)]
                split <;> rfl
            obtain ⟨y, ec, t2, rfl⟩ := lc
            have er : res? (fst? (fun t => decide (SU 1 1 0 (upr (σ 121) (19 + 4 * j + k) (t : Int)) 0 0 v n m)) 0 1000) = res? (fst? (edP (σ 121) v (19 + 4 * j + k) n m k) 0 1000) := by
              rw [fst?_congr (fun t _ _ => decide_eq_decide.mpr ((edge_SU hO.1 c1 hj hk (t : Int)).trans ⟨fun z => z.2, fun z => ⟨c4, z⟩⟩))]
              rfl
            refine ⟨res? (fst? (edP (σ 121) v (19 + 4 * j + k) n m k) 0 1000), σ1, ab σ1 x1 y1, ?_, hmod _ er, (h.co hC.co).co ab_co⟩
            have back2 : ups (ups σ1 (16 + 1 + j) k t2) (16 + 1 + j) k (σ 121 (19 + 4 * j + k)) = σ1 := by
              rw [ups_ups]
              refine ups_same ?_
              rw [hC.at (16 + 1 + j) k (by clear hv hw hx u5; omega)]
              exact hB.1.cost h9 hj hk
            have e17 : σ1 (16 + 1 + j) k = σ 121 (19 + 4 * j + k) := (hC.at (16 + 1 + j) k (by clear hv hw hx u5; omega)).trans (hB.1.cost h9 hj hk)
            rw [ew, ob_some, hct, if_pos c4, ob_some, if_neg (by decide), hw, if_pos j4, hx, if_pos k4]
            simp only [vl]
            rw [e17, ec, lb_some, if_pos j4, if_pos k4]
            simp only [stp]
            rw [back2]
          · refine ⟨-4, σ1, ab σ1 x1 y1, ?_, hmod _ ?_, (h.co hC.co).co ab_co⟩
            · rw [ew, ob_some, hct, if_neg c4, ob_some, if_pos s32_0]
            · rw [fst?_none.mpr (fun t _ _ => decide_eq_false (fun z => c4 ((edge_SU hO.1 c1 hj hk (t : Int)).mp z).1))]
              rfl
        · refine ⟨-1, σ, σ, by rw [bi_f c3, if_pos s32_0], ?_, h⟩
          rw [m_openAt hM, ob_some, if_neg (by decide), m_fitAt hM hv, ob_some, bi_t c1, if_neg (by decide), m_markAt hM hw, ob_some, bi_t c2, if_neg (by decide), m_sortAt hM hx, ob_some, bi_f c3, if_pos s32_0]
      · refine ⟨-1, σ, σ, by rw [bi_f c2, if_pos s32_0], ?_, h⟩
        rw [m_openAt hM, ob_some, if_neg (by decide), m_fitAt hM hv, ob_some, bi_t c1, if_neg (by decide), m_markAt hM hw, ob_some, bi_f c2, if_pos s32_0]
    · refine ⟨-1, σ, σ, by rw [bi_f c1, if_pos s32_0], ?_, h⟩
      rw [m_openAt hM, ob_some, if_neg (by decide), m_fitAt hM hv, ob_some, bi_f c1, if_pos s32_0]
