/-! a book: signs, words, rules by their places -/
def sgn (n : Int) (f : Nat → Int) (i : Int) : Int := if 0 ≤ i ∧ i < n then f i.toNat else -1
theorem sgn_in {n : Int} {f : Nat → Int} {i : Int} (h0 : 0 ≤ i) (h1 : i < n) : sgn n f i = f i.toNat := if_pos ⟨h0, h1⟩
theorem sgn_lo {n : Int} {f : Nat → Int} {i : Int} (h : i < 0) : sgn n f i = -1 := if_neg (by omega)
theorem sgn_hi {n : Int} {f : Nat → Int} {i : Int} (h : n ≤ i) : sgn n f i = -1 := if_neg (by omega)
theorem sgn_congr {n : Int} {f h : Nat → Int} (e : ∀ i : Nat, (i : Int) < n → f i = h i) : sgn n f = sgn n h := by
  funext i
  unfold sgn
  split
  · exact e _ (by omega)
  · rfl
/-- r is the first place among n where f is c; -1: there is none -/
def IsF (f : Nat → Int) (c n r : Int) : Prop := (r = -1 ∧ ∀ j : Int, 0 ≤ j → j < n → ¬ f j.toNat = c) ∨ (0 ≤ r ∧ r < n ∧ f r.toNat = c ∧ ∀ j : Int, 0 ≤ j → j < r → ¬ f j.toNat = c)
def fIxN (f : Nat → Int) (c : Int) : Nat → Int
  | 0 => -1
  | n + 1 => if fIxN f c n = -1 then (if f n = c then (n : Int) else -1) else fIxN f c n
def fIx (f : Nat → Int) (c n : Int) : Int := fIxN f c n.toNat
theorem fIxN_is (f : Nat → Int) (c : Int) : ∀ n : Nat, IsF f c n (fIxN f c n)
  | 0 => Or.inl ⟨rfl, fun j h0 h1 => by omega⟩
  | n + 1 => by
    have ih := fIxN_is f c n
    unfold fIxN
    rcases ih with ⟨e, h⟩ | ⟨h0, h1, h2, h3⟩
    · rw [if_pos e]
      by_cases q : f n = c
      · rw [if_pos q]
        exact Or.inr ⟨by omega, by omega, by simpa using q, fun j a b => h j a (by omega)⟩
      · rw [if_neg q]
        refine Or.inl ⟨rfl, fun j a b => ?_⟩
        by_cases hj : j = n
        · rw [hj]; simpa using q
        · exact h j a (by omega)
    · rw [if_neg (by omega)]
      exact Or.inr ⟨h0, by omega, h2, h3⟩
theorem fIx_is (f : Nat → Int) (c : Int) {n : Int} (h : 0 ≤ n) : IsF f c n (fIx f c n) := by
  have := fIxN_is f c n.toNat
  rwa [Int.toNat_of_nonneg h] at this
theorem IsF.uniq {f : Nat → Int} {c n r r2 : Int} (h : IsF f c n r) (h2 : IsF f c n r2) : r = r2 := by
  rcases h with ⟨a, b⟩ | ⟨a1, a2, a3, a4⟩ <;> rcases h2 with ⟨c1, d⟩ | ⟨c1, c2, c3, c4⟩
  · omega
  · exact absurd c3 (b r2 c1 c2)
  · exact absurd a3 (d r a1 a2)
  · rcases Int.lt_trichotomy r r2 with q | q | q
    · exact absurd a3 (c4 r a1 q)
    · exact q
    · exact absurd c3 (a4 r2 c1 q)
theorem fIx_eq {f : Nat → Int} {c n r : Int} (h : 0 ≤ n) (h2 : IsF f c n r) : fIx f c n = r := (fIx_is f c h).uniq h2
theorem fIx_congr {f h : Nat → Int} (c : Int) {n : Int} (e : ∀ i : Nat, (i : Int) < n → f i = h i) (hn : 0 ≤ n) : fIx f c n = fIx h c n := by
  refine fIx_eq hn ?_
  rcases fIx_is h c hn with ⟨a, b⟩ | ⟨a, b, d, g⟩
  · exact Or.inl ⟨a, fun j j0 j1 => by rw [e _ (by omega)]; exact b j j0 j1⟩
  · exact Or.inr ⟨a, b, by rw [e _ (by omega)]; exact d, fun j j0 j1 => by rw [e _ (by omega)]; exact g j j0 j1⟩
theorem fIx_lt {f : Nat → Int} {c n : Int} (h : 0 ≤ n) : -1 ≤ fIx f c n ∧ fIx f c n < n ∨ fIx f c n = -1 := by
  rcases fIx_is f c h with ⟨a, -⟩ | ⟨a, b, -⟩
  · exact Or.inr a
  · exact Or.inl ⟨by omega, b⟩
/-- the end of the word that goes on at i -/
def weF (S : Int → Int) : Nat → Int → Int
  | 0, i => i
  | k + 1, i => if isLt (S i) then weF S k (i + 1) else i
def we (n : Int) (S : Int → Int) (i : Int) : Int := weF S (n - i).toNat i
theorem weF_spec (S : Int → Int) : ∀ (k : Nat) (i : Int), i ≤ weF S k i ∧ weF S k i ≤ i + k ∧ (∀ j, i ≤ j → j < weF S k i → isLt (S j)) ∧ (weF S k i < i + k → ¬ isLt (S (weF S k i)))
  | 0, i => ⟨by simp [weF], by simp [weF], fun j a b => by simp [weF] at b; omega, fun h => by simp [weF] at h⟩
  | k + 1, i => by
    unfold weF
    by_cases h : isLt (S i)
    · rw [if_pos h]
      obtain ⟨a, b, c, d⟩ := weF_spec S k (i + 1)
      refine ⟨by omega, by omega, fun j j0 j1 => ?_, fun q => d (by omega)⟩
      by_cases hj : j = i
      · rw [hj]; exact h
      · exact c j (by omega) j1
    · rw [if_neg h]
      exact ⟨by omega, by omega, fun j a b => by omega, fun _ => h⟩
theorem we_spec {n : Int} {S : Int → Int} {i : Int} (h : i ≤ n) (hn : ¬ isLt (S n)) : i ≤ we n S i ∧ we n S i ≤ n ∧ (∀ j, i ≤ j → j < we n S i → isLt (S j)) ∧ ¬ isLt (S (we n S i)) := by
  obtain ⟨a, b, c, d⟩ := weF_spec S (n - i).toNat i
  refine ⟨a, by unfold we; omega, c, ?_⟩
  by_cases q : weF S (n - i).toNat i < i + ((n - i).toNat : Int)
  · exact d q
  · have e : we n S i = n := by unfold we; omega
    rw [e]; exact hn
theorem we_eq {n : Int} {S : Int → Int} {i r : Int} (h : i ≤ r) (h2 : r ≤ n) (hn : ¬ isLt (S n)) (h3 : ∀ j, i ≤ j → j < r → isLt (S j)) (h4 : ¬ isLt (S r)) : we n S i = r := by
  obtain ⟨a, b, c, d⟩ := we_spec (by omega : i ≤ n) hn
  rcases Int.lt_trichotomy (we n S i) r with q | q | q
  · exact absurd (h3 _ a q) d
  · exact q
  · exact absurd (c r h q) h4
theorem isLt_m1 : ¬ isLt (-1) := by simp only [isLt, isSm, isCp]; omega
abbrev SX (M : Mem) : Int → Int := sgn (M 1 5) (M 5)
theorem SX_n (M : Mem) : ¬ isLt (SX M (M 1 5)) := by
  have e : SX M (M 1 5) = -1 := sgn_hi (Int.le_refl _)
  rw [e]; exact isLt_m1
abbrev Bx (M : Mem) : Prop := 0 ≤ M 1 4 ∧ M 1 4 ≤ 12 ∧ 0 ≤ M 1 5 ∧ M 1 5 ≤ 120
def cntW (S : Int → Int) : Nat → Int
  | 0 => 0
  | k + 1 => cntW S k + b2i (isLt (S k) ∧ ¬ isLt (S ((k : Int) - 1)))
theorem cntW_le (S : Int → Int) : ∀ k : Nat, 0 ≤ cntW S k ∧ cntW S k ≤ k
  | 0 => ⟨Int.le_refl _, Int.le_refl _⟩
  | k + 1 => by
    have := cntW_le S k
    unfold cntW
    have e := b2i_01 (isLt (S k) ∧ ¬ isLt (S ((k : Int) - 1)))
    omega
/-- i stands just behind figures, or one point or comma behind them -/
abbrev isBh (S : Int → Int) (i : Int) : Prop := isFg (S (i - 1)) ∨ (isPC (S (i - 1)) ∧ isFg (S (i - 2)))
/-- a book's five cells from k on -/
def isBk (k : Nat) : Prop := shp[k]? = some (.inl (0, [k + 4, k + 5, k + 6, k + 7, 0, 0, 0, 0])) ∧ shp[k + 1]? = some (.inr (.inl (0, 12))) ∧ shp[k + 2]? = some (.inr (.inl (0, 12))) ∧ shp[k + 3]? = some (.inr (.inl (0, 12))) ∧ shp[k + 4]? = some (.inr (.inl (0, 120)))
/-- book t of M2 is book o of M; nothing else changed -/
def cpB (t o : Nat) (M M2 : Mem) : Prop := M2 t 4 = M o 4 ∧ M2 t 5 = M o 5 ∧ M2 t 6 = M o 6 ∧ M2 t 7 = M o 7 ∧ (∀ j, j < 12 → M2 (t + 1) j = M (o + 1) j) ∧ (∀ j, j < 12 → M2 (t + 2) j = M (o + 2) j) ∧ (∀ j, j < 12 → M2 (t + 3) j = M (o + 3) j) ∧ (∀ j, j < 120 → M2 (t + 4) j = M (o + 4) j) ∧ ∀ k, (k < t ∨ t + 5 ≤ k) → M2 k = M k
/-- the memory with a RULE more -/
def addR (M : Mem) (c e k : Int) : Mem := mup (mup (mup (mup M 2 (M 1 4).toNat c) 3 (M 1 4).toNat e) 4 (M 1 4).toNat k) 1 4 (M 1 4 + 1)
def addS (M : Mem) (s : Int) : Mem := mup (mup M 5 (M 1 5).toNat s) 1 5 (M 1 5 + 1)
/-- RULE k is no more -/
def remR (k : Int) (M M2 : Mem) : Prop := (∀ j : Nat, M2 2 j = if k ≤ j ∧ (j : Int) + 1 < M 1 4 then M 2 (j + 1) else M 2 j) ∧ (∀ j : Nat, M2 3 j = if k ≤ j ∧ (j : Int) + 1 < M 1 4 then M 3 (j + 1) else M 3 j) ∧ (∀ j : Nat, M2 4 j = if k ≤ j ∧ (j : Int) + 1 < M 1 4 then M 4 (j + 1) else M 4 j) ∧ M2 1 = rup (M 1) 4 (M 1 4 - 1) ∧ ∀ o, o = 0 ∨ 5 ≤ o → M2 o = M o
