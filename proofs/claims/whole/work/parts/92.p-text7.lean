/-! PURE 52: one statement on both sides -/
theorem two_asTold {τ μ : Mem} {n m k : Nat} {c : Int} {nums : Nat → Int} (hF : FMk τ n m (μ 123)) (hO : OkR n m (μ 123)) (hN : NB τ μ k nums) (hc : L3 c) (h2 : τ 70 2 = c) (hk : lst c ≤ (k : Int)) (h4 : τ 70 4 = k) (h15 : μ 120 15 = k) : ∃ r τ' μ', f_X6_isAsTold τ = some (r, τ') ∧ f_X12_comes c μ = some (r, μ') ∧ Cm τ μ τ' μ' r := by
  unfold f_X6_isAsTold
  rw [h2]
  rcases hc with rfl | rfl | rfl
  · obtain ⟨r, τ', μ', e1, e2, e3⟩ := two_sort hF hO hN (by have : lst 115 = 3 := rfl; omega)
    refine ⟨r, τ', μ', ?_, e2, e3⟩
    rw [if_neg (by decide), if_pos (by decide), e1, ob_some, if_pos]
    rcases e3.2.2 with rfl | ⟨rfl, -⟩ <;> decide
  · obtain ⟨r, τ', μ', e1, e2, e3⟩ := two_mark hF hO hN (by have : lst 109 = 1 := rfl; omega) h4 h15
    refine ⟨r, τ', μ', ?_, e2, e3⟩
    rw [if_pos (by decide), e1, ob_some, if_pos]
    rcases e3.2.2 with rfl | ⟨rfl, -⟩ <;> decide
  · obtain ⟨r, τ', μ', e1, e2, e3⟩ := two_tell hF hO hN (by have : lst 116 = 2 := rfl; omega)
    refine ⟨r, τ', μ', ?_, e2, e3⟩
    rw [if_neg (by decide), if_neg (by decide), e1, ob_some, if_pos]
    rcases e3.2.2 with rfl | ⟨rfl, -⟩ <;> decide
/-- behind a statement: none open, one more counted, nothing but the reader's rows changed -/
def TS (τ τ' : Mem) : Prop := τ' 70 2 = 0 ∧ τ' 70 7 = τ 70 7 + 1 ∧ ∀ a i : Int, ¬ (50 ≤ a ∧ a ≤ 71 ∧ ¬ (a = 50 ∧ i = 2)) → τ' a i = τ a i
theorem FMk.fr {τ τ' : Mem} {n m : Nat} {R : Int → Int} (h : FMk τ n m R) (hm : m ≤ 4) (f : ∀ a i : Int, (50 ≤ a ∧ a ≤ 60) → τ' a i = τ a i) : FMk τ' n m R := by
  obtain ⟨f0, f1, fS, fM⟩ := h
  refine ⟨(f 50 0 (by omega)).trans f0, (f 50 1 (by omega)).trans f1, fun k hk => ?_, fun j hj => ?_⟩
  · rw [f 51 _ (by omega), f 52 _ (by omega), f 53 _ (by omega)]
    exact fS k hk
  · rw [f 54 _ (by omega), f 55 _ (by omega)]
    refine ⟨(fM j hj).1, (fM j hj).2.1, fun k hk => ?_⟩
    rw [f _ _ (by omega)]
    exact (fM j hj).2.2 k hk
theorem c_turn {τ : Mem} {u : Int} {t : Nat → Int} {N p : Nat} (hT : CT τ u t N) (h2 : τ 70 2 = 0) (hp : p < N) (w : (psm t p).1 = true) : (0 ≤ τ 70 8 → τ 70 8 ≤ 1000 → ∃ τ', Go (rfc u) ((psm t p).2.1 - p) ((p : Int), τ) (((psm t p).2.1 : Nat), τ') ∧ TS τ τ' ∧ τ' 70 8 = τ 70 8) ∧ (τ 70 8 = -1 → ∀ (μ : Mem) (n m : Nat), FMk τ n m (μ 123) → OkR n m (μ 123) → μ 120 15 = (psm t p).2.2.1 → (∀ j : Nat, j < (psm t p).2.2.1 → μ 130 j = (psm t p).2.2.2 j) → ∃ r μ' τ', Go (rfc u) ((psm t p).2.1 - p) ((p : Int), τ) (((psm t p).2.1 : Nat), τ') ∧ TS τ τ' ∧ f_X12_comes (t p) μ = some (r, μ') ∧ (∀ a : Int, a ≠ 123 → μ' a = μ a) ∧ ((r = 0 ∧ τ' 70 8 = p) ∨ (r = 1 ∧ τ' 70 8 = -1 ∧ ∃ n' m', FMk τ' n' m' (μ' 123) ∧ OkR n' m' (μ' 123)))) := by
  have hN := hT.1.1
  have b := psm_b hT.1 (Nat.le_of_lt hp)
  have bt := b.1.2.2 w
  have fin := c_stmt hT h2 hp
  rw [if_pos w] at fin
  obtain ⟨e, τ1, dg, hk, hpq, g1, i1, hd, h59⟩ := fin
  have hc : L3 (t p) := bt.2.2
  have he : e < 120 := by omega
  have E := c_endNumber i1 (by omega) rfl
  have g2 := g_end (i := (((psm t p).2.1 - 1 : Nat) : Int)) i1 hc hd.2 hd.1 (by omega) rfl (by omega)
  have CT1 : CT τ1 u t N := hT.fr i1.1
  have i2 := E.2
  obtain ⟨κ, hκ⟩ : ∃ κ, κ = edN τ1 e ((psm t p).2.2.2 e) := ⟨_, rfl⟩
  rw [← hκ] at i2 g2
  have f8 : κ 70 8 = τ 70 8 := i2.1 70 8 (by omega)
  have f7 : κ 70 7 = τ 70 7 := i2.1 70 7 (by omega)
  -- the last turn, given how the statement ends
  have last : ∀ (z : Int) (τ2 : Mem), f_X6_endStatement κ = some (z, τ2) → Go (rfc u) ((psm t p).2.1 - p) ((p : Int), τ) (((psm t p).2.1 : Nat), τ2) := by
    intro z τ2 hz
    rw [hz, ob_some, ← h59] at g2
    have s := rfc_step CT1 (show (psm t p).2.1 - 1 < N by omega) g2
    rw [if_neg (by decide), show (psm t p).2.1 - 1 + 1 = (psm t p).2.1 by omega] at s
    exact (g1.tr (Go.one s)).cast (by omega)
  constructor
  · intro u0 u1
    refine ⟨ups (ups κ 70 7 (κ 70 7 + 1)) 70 2 0, last 0 _ ?_, ⟨ups_at .., ?_, fun a i q => ?_⟩, ?_⟩
    · unfold f_X6_endStatement
      rw [f8, s32_of (z := τ 70 8) (by omega) (by omega), if_pos u0]
    · rw [ups_nn (by omega), ups_at, f7]
    · rw [ups_nn (by omega), ups_nn (by omega)]
      exact i2.1 a i (by omega)
    · rw [ups_nn (by omega), ups_nn (by omega)]
      exact f8
  · intro u0 μ n m hF hO h15 h130
    have hF' : FMk κ n m (μ 123) := hF.fr hO.1.2 (fun a i q => i2.1 a i (by omega))
    have hNB : NB κ μ (psm t p).2.2.1 (psm t p).2.2.2 := ⟨b.2.1, b.2.2, fun j hj hj5 => i2.2.2.2.2.2.2 j (by omega) hj5, h130⟩
    obtain ⟨r, τ', μ', e1, e2, e3, e4, e5⟩ := two_asTold hF' hO hNB hc i2.2.1 bt.2.1 (by rw [i2.2.2.2.1, hk]) h15
    have t7 : ∀ i : Int, τ' 70 i = κ 70 i := fun i => e3 70 i (by omega)
    rcases e5 with rfl | ⟨rfl, n', m', hF2, hO2⟩
    · refine ⟨0, μ', ups (ups (ups τ' 70 8 (κ 70 3)) 70 7 (κ 70 7 + 1)) 70 2 0, last 0 _ ?_, ⟨ups_at .., ?_, fun a i q => ?_⟩, e2, e4, Or.inl ⟨rfl, ?_⟩⟩
      · unfold f_X6_endStatement
        rw [f8, u0, if_neg (by decide), e1, ob_some, if_pos s32_0]
        simp only [stp]
        rw [t7 3, ups_nn (show ¬ ((70 : Int) = 70 ∧ (7 : Int) = 8) by omega), t7 7]
      · rw [ups_nn (by omega), ups_at, f7]
      · rw [ups_nn (by omega), ups_nn (by omega), ups_nn (by omega), e3 a i (by omega)]
        exact i2.1 a i (by omega)
      · rw [ups_nn (by omega), ups_nn (by omega), ups_at]
        exact i2.2.2.1
    · refine ⟨1, μ', ups (ups τ' 70 7 (κ 70 7 + 1)) 70 2 0, last 0 _ ?_, ⟨ups_at .., ?_, fun a i q => ?_⟩, e2, e4, Or.inr ⟨rfl, ?_, n', m', hF2.fr hO2.1.2 (fun a i q => ?_), hO2⟩⟩
      · unfold f_X6_endStatement
        rw [f8, u0, if_neg (by decide), e1, ob_some, if_neg (by decide)]
        simp only [stp]
        rw [t7 7]
      · rw [ups_nn (by omega), ups_at, f7]
      · rw [ups_nn (by omega), ups_nn (by omega), e3 a i (by omega)]
        exact i2.1 a i (by omega)
      · rw [ups_nn (by omega), ups_nn (by omega), t7 8, f8, u0]
      · rw [ups_nn (by omega), ups_nn (by omega)]
/-- the text's outline from p on: the place of its first fault -/
def syn (t : Nat → Int) (N : Nat) : Nat → Nat → Option Nat
  | 0, _ => none
  | g + 1, p => if (psm t p).1 = true then (if (psm t p).2.1 < N then syn t N g (psm t p).2.1 else none) else some (psm t p).2.1
/-- the reader between two statements -/
def OKS (τ : Mem) : Prop := (0 ≤ τ 70 8 ∧ τ 70 8 ≤ 1000) ∨ (τ 70 8 = -1 ∧ ∃ (n m : Nat) (R : Int → Int), FMk τ n m R ∧ OkR n m R)
def Bad2 (u : Int) (N : Nat) (p : Nat) (τ : Mem) (q : Nat) : Prop := ∃ τ', p ≤ q ∧ Go (rfc u) (q - p) ((p : Int), τ) ((q : Int), τ') ∧ (∀ a i : Int, ¬ (50 ≤ a ∧ a ≤ 71 ∧ ¬ (a = 50 ∧ i = 2)) → τ' a i = τ a i) ∧ ((q < N ∧ rfc u ((q : Int), τ') = some (.inr (.inl (-1000 - (q : Int), τ')))) ∨ (q = N ∧ L3 (τ' 70 2)))
theorem c_turn1 {τ : Mem} {u : Int} {t : Nat → Int} {N p : Nat} (hT : CT τ u t N) (h2 : τ 70 2 = 0) (hS : OKS τ) (hp : p < N) (w : (psm t p).1 = true) : ∃ τ', Go (rfc u) ((psm t p).2.1 - p) ((p : Int), τ) (((psm t p).2.1 : Nat), τ') ∧ TS τ τ' ∧ OKS τ' ∧ (0 ≤ τ 70 8 → τ' 70 8 = τ 70 8) := by
  have hN := hT.1.1
  have z := c_turn hT h2 hp w
  rcases hS with ⟨s1, s2⟩ | ⟨s1, n, m, R, hF, hO⟩
  · obtain ⟨τ', g, h1, h3⟩ := z.1 s1 s2
    exact ⟨τ', g, h1, Or.inl (by rw [h3]; exact ⟨s1, s2⟩), fun _ => h3⟩
  · obtain ⟨r, μ', τ', g, h1, h3, h4, h5⟩ := z.2 s1 (fun a i => if a = 123 then R i else if a = 130 then (psm t p).2.2.2 i.toNat else (psm t p).2.2.1) n m hF hO rfl (fun j _ => rfl)
    refine ⟨τ', g, h1, ?_, fun y => by omega⟩
    rcases h5 with ⟨-, h5⟩ | ⟨-, h5, n', m', h6, h7⟩
    · exact Or.inl (by omega)
    · exact Or.inr ⟨h5, n', m', _, h6, h7⟩
theorem CT.fr2 {τ0 τ : Mem} {u : Int} {t : Nat → Int} {N : Nat} (h : CT τ0 u t N) (f : ∀ a i : Int, ¬ (50 ≤ a ∧ a ≤ 71 ∧ ¬ (a = 50 ∧ i = 2)) → τ a i = τ0 a i) : CT τ u t N := by
  obtain ⟨h1, h2, h3, h4⟩ := h
  exact ⟨h1, h2, (f u 2 (by omega)).trans h3, fun p hp => (f (u + 1) p (by omega)).trans (h4 p hp)⟩
theorem c_bad {u : Int} {t : Nat → Int} {N : Nat} : ∀ (g p : Nat) (τ : Mem) (q : Nat), CT τ u t N → τ 70 2 = 0 → OKS τ → p < N → N - p < g → syn t N g p = some q → Bad2 u N p τ q
  | 0, p, τ, q, _, _, _, _, hg, _ => absurd hg (Nat.not_lt_zero _)
  | g + 1, p, τ, q, hT, h2, hS, hp, hg, hs => by
    have b := psm_b hT.1 (Nat.le_of_lt hp)
    have st := c_stmt hT h2 hp
    unfold syn at hs
    by_cases w : (psm t p).1 = true
    · rw [if_pos w] at hs
      by_cases w2 : (psm t p).2.1 < N
      · rw [if_pos w2] at hs
        obtain ⟨τ1, g1, ⟨t1, t2, t3⟩, hS1, -⟩ := c_turn1 hT h2 hS hp w
        obtain ⟨τ', r1, r2, r3, r4⟩ := c_bad g (psm t p).2.1 τ1 q (hT.fr2 t3) t1 hS1 w2 (by have := b.1.2.2 w; omega) hs
        exact ⟨τ', by omega, (g1.tr r2).cast (by omega), fun a i y => (r3 a i y).trans (t3 a i y), r4⟩
      · rw [if_neg w2] at hs
        cases hs
    · rw [if_neg w] at hs st
      have e : (psm t p).2.1 = q := Option.some.inj hs
      rw [e] at st
      obtain ⟨τ', r1, r2, r3, r4⟩ := st
      exact ⟨τ', r1, r2, fun a i y => r3 a i (by omega), r4⟩
theorem c_untrue {u : Int} {t : Nat → Int} {N : Nat} : ∀ (g p : Nat) (τ : Mem) (s : Nat), CT τ u t N → τ 70 2 = 0 → (0 ≤ τ 70 8 ∧ τ 70 8 ≤ 1000) → τ 70 7 = s → p < N → N - p < g → syn t N g p = none → ∃ τ' s', Go (rfc u) (N - p) ((p : Int), τ) ((N : Int), τ') ∧ τ' 70 2 = 0 ∧ τ' 70 8 = τ 70 8 ∧ τ' 70 7 = ((s' : Nat) : Int) ∧ (s < s' ∧ s' ≤ s + (N - p)) ∧ ∀ a i : Int, ¬ (50 ≤ a ∧ a ≤ 71 ∧ ¬ (a = 50 ∧ i = 2)) → τ' a i = τ a i
  | 0, p, τ, s, _, _, _, _, _, hg, _ => absurd hg (Nat.not_lt_zero _)
  | g + 1, p, τ, s, hT, h2, h8, h7, hp, hg, hs => by
    have b := psm_b hT.1 (Nat.le_of_lt hp)
    unfold syn at hs
    by_cases w : (psm t p).1 = true
    · rw [if_pos w] at hs
      have bw := b.1.2.2 w
      obtain ⟨τ1, g1, ⟨t1, t2, t3⟩, -, t4⟩ := c_turn1 hT h2 (Or.inl h8) hp w
      have e8 := t4 h8.1
      have e7 : τ1 70 7 = ((s + 1 : Nat) : Int) := by rw [t2, h7]; rfl
      by_cases w2 : (psm t p).2.1 < N
      · rw [if_pos w2] at hs
        obtain ⟨τ', s', r1, r2, r3, r4, r5, r6⟩ := c_untrue g (psm t p).2.1 τ1 (s + 1) (hT.fr2 t3) t1 (by rw [e8]; exact h8) e7 w2 (by omega) hs
        exact ⟨τ', s', (g1.tr r1).cast (by omega), r2, r3.trans e8, r4, by omega, fun a i y => (r6 a i y).trans (t3 a i y)⟩
      · have e : (psm t p).2.1 = N := by omega
        rw [e] at g1
        exact ⟨τ1, s + 1, g1, t1, e8, e7, by omega, t3⟩
    · rw [if_neg w] at hs
      cases hs
