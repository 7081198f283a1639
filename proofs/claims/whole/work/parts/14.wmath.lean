/-! PUT INTO CELLS: what a book's text becomes -/
/-- a fact that arithmetic is not to look into -/
def Hid (p : Prop) : Prop := p
theorem Hid.u {p : Prop} (h : Hid p) : p := h
def cut (n : Int) (f : Nat → Int) : Nat → Int := fun k => if (k : Int) < n then f k else 0
theorem cut_in {n : Int} {f : Nat → Int} {k : Nat} (h : (k : Int) < n) : cut n f k = f k := if_pos h
theorem cut_congr {n : Int} {f h : Nat → Int} (e : ∀ i : Nat, (i : Int) < n → f i = h i) : cut n f = cut n h := by
  funext i; unfold cut; split
  · exact e _ (by assumption)
  · rfl
theorem fIx_cut (f : Nat → Int) (c : Int) {n : Int} (hn : 0 ≤ n) : fIx (cut n f) c n = fIx f c n := fIx_congr c (fun i h => cut_in h) hn
/-- a book: how many signs, the sign at a place, how many RULES, their CODES, CELLS, KINDS, W, P -/
abbrev BV : Type := Int × (Int → Int) × Int × (Nat → Int) × (Nat → Int) × (Nat → Int) × Int × Int
abbrev vN (V : BV) : Int := V.1
abbrev vS (V : BV) : Int → Int := V.2.1
abbrev vR (V : BV) : Int := V.2.2.1
abbrev vC' (V : BV) : Nat → Int := V.2.2.2.1
abbrev vE (V : BV) : Nat → Int := V.2.2.2.2.1
abbrev vK (V : BV) : Nat → Int := V.2.2.2.2.2.1
abbrev vW (V : BV) : Int := V.2.2.2.2.2.2.1
abbrev vP (V : BV) : Int := V.2.2.2.2.2.2.2
/-- the book of the class from cell k on -/
def bX (M : Mem) (k : Nat) : BV := (M k 5, sgn (M k 5) (M (k + 4)), M k 4, cut (M k 4) (M (k + 1)), cut (M k 4) (M (k + 2)), cut (M k 4) (M (k + 3)), M k 6, M k 7)
/-- what every book keeps -/
def vOk (V : BV) : Prop := 0 ≤ vN V ∧ vN V ≤ 120 ∧ 0 ≤ vR V ∧ vR V ≤ 12 ∧ (∀ i, 0 ≤ i → i < vN V → isSg (vS V i)) ∧ (∀ i, i < 0 ∨ vN V ≤ i → vS V i = -1) ∧
  (∀ k : Nat, (k : Int) < vR V → vC (vC' V k) ∧ isRC (vE V k) ∧ 0 ≤ vK V k ∧ vK V k ≤ 4) ∧ (∀ i j : Nat, (i : Int) < vR V → (j : Int) < vR V → vC' V i = vC' V j → i = j) ∧ (∀ i j : Nat, (i : Int) < vR V → (j : Int) < vR V → vE V i = vE V j → i = j) ∧
  4 ≤ vW V ∧ vW V ≤ 40 ∧ 1 ≤ vP V ∧ vP V ≤ 20
/-- all CAPITALS, k signs from i on -/
def acF (S : Int → Int) : Nat → Int → Bool
  | 0, _ => true
  | k + 1, i => decide (isCp (S i)) && acF S k (i + 1)
theorem acF_iff (S : Int → Int) : ∀ (k : Nat) (i : Int), acF S k i = true ↔ ∀ j, i ≤ j → j < i + k → isCp (S j)
  | 0, i => ⟨fun _ j a b => by omega, fun _ => rfl⟩
  | k + 1, i => by
    unfold acF
    rw [Bool.and_eq_true, decide_eq_true_eq, acF_iff S k (i + 1)]
    constructor
    · rintro ⟨a, b⟩ j h0 h1
      by_cases q : j = i
      · rw [q]; exact a
      · exact b j (by omega) (by omega)
    · intro h
      exact ⟨h i (by omega) (by omega), fun j h0 h1 => h j (by omega) (by omega)⟩
def alC (V : BV) (a b : Int) : Bool := decide (2 ≤ b - a) && acF (vS V) (b - a).toNat a
/-- 1 .. 26: a small letter, or as if small; 0: a CAPITAL by itself -/
def smV (V : BV) (g : Bool) (i : Int) : Int := if g = true ∨ isSm (vS V i) then ltN (vS V i) else 0
def cdF (sm : Int → Int) : Nat → Int → Int → Int
  | 0, _, acc => acc
  | k + 1, i, acc => if sm i = 0 then -1 else cdF sm k (i + 1) (acc * 27 + sm i)
/-- the RULE of L letters that may serve from i on in the word a .. b, but not RULE w; -1: none -/
def rA (V : BV) (w a b : Int) (g : Bool) (i L : Int) : Int :=
  if b < i + L then -1 else if cdF (smV V g) L.toNat i 0 = -1 then -1 else
  if fIx (vC' V) (cdF (smV V g) L.toNat i 0) (vR V) = -1 ∨ fIx (vC' V) (cdF (smV V g) L.toNat i 0) (vR V) = w ∨ ¬ kdOk (vK V (fIx (vC' V) (cdF (smV V g) L.toNat i 0) (vR V)).toNat) i (i + L) a b then -1
  else fIx (vC' V) (cdF (smV V g) L.toNat i 0) (vR V)
def sv (V : BV) (w a b : Int) (g : Bool) (i : Int) : Int := if ¬ rA V w a b g i 4 = -1 then rA V w a b g i 4 else if ¬ rA V w a b g i 3 = -1 then rA V w a b g i 3 else rA V w a b g i 2
/-- a CELL, the RULE that it stands for (-1: none), the sign's place, 1 where it is one of a word's letters -/
abbrev Ev : Type := Int × Int × Int × Int
def leE (V : BV) (g : Bool) (i : Int) : List Ev := if smV V g i = 0 then [(60, -1, i, 1), (ltN (vS V i), -1, i, 1)] else [(ltN (vS V i), -1, i, 1)]
def wF (V : BV) (w a b : Int) (g : Bool) : Nat → Int → List Ev
  | 0, _ => []
  | f + 1, i => if b ≤ i then [] else if sv V w a b g i = -1 then leE V g i ++ wF V w a b g f (i + 1) else (vE V (sv V w a b g i).toNat, sv V w a b g i, i, 1) :: wF V w a b g f (i + lnC (vC' V (sv V w a b g i).toNat))
def wEv (V : BV) (w a b : Int) (g : Bool) (i : Int) : List Ev := wF V w a b g (b - i).toNat i
abbrev wnt (V : BV) (i : Int) : Prop := 97 ≤ vS V i ∧ vS V i ≤ 106 ∧ isBh (vS V) i
def hdE (V : BV) (a b : Int) : List Ev := (if wnt V a then [(62, -1, a, 0)] else []) ++ (if alC V a b = true then [(60, -1, a, 0), (60, -1, a, 0)] else [])
def wdE (V : BV) (w a b : Int) : List Ev := hdE V a b ++ wEv V w a b (alC V a b) a
def sgE (V : BV) (i : Int) : List Ev := if isFg (vS V i) then (if isBh (vS V) i then [] else [(61, -1, i, 0)]) ++ [(fgC (vS V i), -1, i, 0)] else [(mkC (vS V i), -1, i, 0)]
def aF (V : BV) (w : Int) : Nat → Int → List Ev
  | 0, _ => []
  | f + 1, i => if vN V ≤ i then [] else if isLt (vS V i) then wdE V w i (we (vN V) (vS V) i) ++ aF V w f (we (vN V) (vS V) i) else sgE V i ++ aF V w f (i + 1)
def aEv (V : BV) (w i : Int) : List Ev := aF V w (vN V - i).toNat i
/-! RULES are found by their letters -/
theorem rA_cases (V : BV) (w a b : Int) (g : Bool) (i L : Int) (h : 0 ≤ vR V) : rA V w a b g i L = -1 ∨ (0 ≤ rA V w a b g i L ∧ rA V w a b g i L < vR V ∧ i + L ≤ b ∧ ¬ rA V w a b g i L = w ∧ vC' V (rA V w a b g i L).toNat = cdF (smV V g) L.toNat i 0 ∧ ¬ cdF (smV V g) L.toNat i 0 = -1 ∧ kdOk (vK V (rA V w a b g i L).toNat) i (i + L) a b) := by
  unfold rA
  by_cases h1 : b < i + L
  · rw [if_pos h1]; exact Or.inl rfl
  · rw [if_neg h1]
    by_cases h2 : cdF (smV V g) L.toNat i 0 = -1
    · rw [if_pos h2]; exact Or.inl rfl
    · rw [if_neg h2]
      by_cases h3 : fIx (vC' V) (cdF (smV V g) L.toNat i 0) (vR V) = -1 ∨ fIx (vC' V) (cdF (smV V g) L.toNat i 0) (vR V) = w ∨ ¬ kdOk (vK V (fIx (vC' V) (cdF (smV V g) L.toNat i 0) (vR V)).toNat) i (i + L) a b
      · rw [if_pos h3]; exact Or.inl rfl
      · rw [if_neg h3]
        rcases fIx_is (vC' V) (cdF (smV V g) L.toNat i 0) h with ⟨q, -⟩ | ⟨q1, q2, q3, -⟩
        · exact absurd (Or.inl q) h3
        · refine Or.inr ⟨q1, q2, by omega, fun e => h3 (Or.inr (Or.inl e)), q3, h2, ?_⟩
          exact Decidable.byContradiction fun e => h3 (Or.inr (Or.inr e))
theorem sv_cases (V : BV) (w a b : Int) (g : Bool) (i : Int) (h : 0 ≤ vR V) : sv V w a b g i = -1 ∨ ∃ L : Int, 2 ≤ L ∧ L ≤ 4 ∧ sv V w a b g i = rA V w a b g i L ∧ ¬ rA V w a b g i L = -1 := by
  unfold sv
  by_cases h4 : rA V w a b g i 4 = -1
  · rw [if_neg (by simp [h4])]
    by_cases h3 : rA V w a b g i 3 = -1
    · rw [if_neg (by simp [h3])]
      by_cases h2 : rA V w a b g i 2 = -1
      · exact Or.inl h2
      · exact Or.inr ⟨2, by omega, by omega, rfl, h2⟩
    · rw [if_pos h3]; exact Or.inr ⟨3, by omega, by omega, rfl, h3⟩
  · rw [if_pos h4]; exact Or.inr ⟨4, by omega, by omega, rfl, h4⟩
theorem sv_rng (V : BV) (w a b : Int) (g : Bool) (i : Int) (h : 0 ≤ vR V) : sv V w a b g i = -1 ∨ (0 ≤ sv V w a b g i ∧ sv V w a b g i < vR V) := by
  rcases sv_cases V w a b g i h with q | ⟨L, -, -, e, q⟩
  · exact Or.inl q
  · rcases rA_cases V w a b g i L h with z | ⟨z1, z2, -⟩
    · exact absurd z q
    · rw [e]; exact Or.inr ⟨z1, z2⟩
/-! digits -/
theorem ltN_rng {s : Int} (h : isLt s) : 1 ≤ ltN s ∧ ltN s ≤ 26 := by
  unfold ltN; simp only [isLt, isSm, isCp] at *; split <;> omega
theorem smV_rng (V : BV) (g : Bool) {i : Int} (h : isLt (vS V i)) : 0 ≤ smV V g i ∧ smV V g i ≤ 26 := by
  have := ltN_rng h
  unfold smV; split <;> omega
theorem cd2 (sm : Int → Int) (i : Int) : cdF sm 2 i 0 = if sm i = 0 then -1 else if sm (i + 1) = 0 then -1 else sm i * 27 + sm (i + 1) := by
  simp [cdF]
theorem cd3 (sm : Int → Int) (i : Int) : cdF sm 3 i 0 = if sm i = 0 then -1 else if sm (i + 1) = 0 then -1 else if sm (i + 2) = 0 then -1 else (sm i * 27 + sm (i + 1)) * 27 + sm (i + 2) := by
  simp [cdF, Int.add_assoc]
theorem cd4 (sm : Int → Int) (i : Int) : cdF sm 4 i 0 = if sm i = 0 then -1 else if sm (i + 1) = 0 then -1 else if sm (i + 2) = 0 then -1 else if sm (i + 3) = 0 then -1 else ((sm i * 27 + sm (i + 1)) * 27 + sm (i + 2)) * 27 + sm (i + 3) := by
  simp [cdF, Int.add_assoc]
/-- a row of L letters is a code of L letters -/
theorem cd_ln {sm : Int → Int} {i L : Int} (h2 : 2 ≤ L) (h4 : L ≤ 4) (hs : ∀ j, i ≤ j → j < i + L → 0 ≤ sm j ∧ sm j ≤ 26) (hne : ¬ cdF sm L.toNat i 0 = -1) : lnC (cdF sm L.toNat i 0) = L ∧ ∀ e, 0 ≤ e → e < L → sm (i + e) = dgC (cdF sm L.toNat i 0) e := by
  have s0 := hs i (by omega) (by omega)
  have s1 := hs (i + 1) (by omega) (by omega)
  rcases (by omega : L = 2 ∨ L = 3 ∨ L = 4) with rfl | rfl | rfl
  · rw [show (2 : Int).toNat = 2 from rfl, cd2] at hne ⊢
    by_cases a0 : sm i = 0
    · simp [a0] at hne
    by_cases a1 : sm (i + 1) = 0
    · simp [a1] at hne
    rw [if_neg a0, if_neg a1]
    obtain ⟨e, d0, d1⟩ := dg2 (c := sm i * 27 + sm (i + 1)) (by omega) (by omega)
    refine ⟨e, fun j j0 j1 => ?_⟩
    rcases (by omega : j = 0 ∨ j = 1) with rfl | rfl
    · rw [d0, Int.add_zero]; omega
    · rw [d1]; omega
  · have s2 := hs (i + 2) (by omega) (by omega)
    rw [show (3 : Int).toNat = 3 from rfl, cd3] at hne ⊢
    by_cases a0 : sm i = 0
    · simp [a0] at hne
    by_cases a1 : sm (i + 1) = 0
    · simp [a1] at hne
    by_cases a2 : sm (i + 2) = 0
    · simp [a2] at hne
    rw [if_neg a0, if_neg a1, if_neg a2]
    obtain ⟨e, d0, d1, d2⟩ := dg3 (c := (sm i * 27 + sm (i + 1)) * 27 + sm (i + 2)) (by omega) (by omega)
    refine ⟨e, fun j j0 j1 => ?_⟩
    rcases (by omega : j = 0 ∨ j = 1 ∨ j = 2) with rfl | rfl | rfl
    · rw [d0, Int.add_zero]; omega
    · rw [d1]; omega
    · rw [d2]; omega
  · have s2 := hs (i + 2) (by omega) (by omega)
    have s3 := hs (i + 3) (by omega) (by omega)
    rw [show (4 : Int).toNat = 4 from rfl, cd4] at hne ⊢
    by_cases a0 : sm i = 0
    · simp [a0] at hne
    by_cases a1 : sm (i + 1) = 0
    · simp [a1] at hne
    by_cases a2 : sm (i + 2) = 0
    · simp [a2] at hne
    by_cases a3 : sm (i + 3) = 0
    · simp [a3] at hne
    rw [if_neg a0, if_neg a1, if_neg a2, if_neg a3]
    obtain ⟨e, d0, d1, d2, d3⟩ := dg4 (c := ((sm i * 27 + sm (i + 1)) * 27 + sm (i + 2)) * 27 + sm (i + 3)) (by omega) (by omega)
    refine ⟨e, fun j j0 j1 => ?_⟩
    rcases (by omega : j = 0 ∨ j = 1 ∨ j = 2 ∨ j = 3) with rfl | rfl | rfl | rfl
    · rw [d0, Int.add_zero]; omega
    · rw [d1]; omega
    · rw [d2]; omega
    · rw [d3]; omega
/-- and the other way: letters that are a code's -/
theorem cd_of {sm : Int → Int} {i c : Int} (hv : vC c) (h : ∀ e, 0 ≤ e → e < lnC c → sm (i + e) = dgC c e) : cdF sm (lnC c).toNat i 0 = c := by
  have hp := (vC_iff hv.1 hv.2.1).mp hv
  by_cases a : c < 729
  · obtain ⟨e, d0, d1⟩ := dg2 hv.1 a
    rw [e] at h hp ⊢
    have q0 := h 0 (by omega) (by omega)
    have q1 := h 1 (by omega) (by omega)
    have p0 := hp 0 (by omega) (by omega)
    have p1 := hp 1 (by omega) (by omega)
    rw [Int.add_zero] at q0
    rw [show (2 : Int).toNat = 2 from rfl, cd2, if_neg (by omega), if_neg (by omega), q0, q1, d0, d1]
    omega
  · by_cases b : c < 19683
    · obtain ⟨e, d0, d1, d2⟩ := dg3 (by omega) b
      rw [e] at h hp ⊢
      have q0 := h 0 (by omega) (by omega)
      have q1 := h 1 (by omega) (by omega)
      have q2 := h 2 (by omega) (by omega)
      have p0 := hp 0 (by omega) (by omega)
      have p1 := hp 1 (by omega) (by omega)
      have p2 := hp 2 (by omega) (by omega)
      rw [Int.add_zero] at q0
      rw [show (3 : Int).toNat = 3 from rfl, cd3, if_neg (by omega), if_neg (by omega), if_neg (by omega), q0, q1, q2, d0, d1, d2]
      omega
    · obtain ⟨e, d0, d1, d2, d3⟩ := dg4 (by omega) hv.2.1
      rw [e] at h hp ⊢
      have q0 := h 0 (by omega) (by omega)
      have q1 := h 1 (by omega) (by omega)
      have q2 := h 2 (by omega) (by omega)
      have q3 := h 3 (by omega) (by omega)
      have p0 := hp 0 (by omega) (by omega)
      have p1 := hp 1 (by omega) (by omega)
      have p2 := hp 2 (by omega) (by omega)
      have p3 := hp 3 (by omega) (by omega)
      rw [Int.add_zero] at q0
      rw [show (4 : Int).toNat = 4 from rfl, cd4, if_neg (by omega), if_neg (by omega), if_neg (by omega), if_neg (by omega), q0, q1, q2, q3, d0, d1, d2, d3]
      omega
