/-! WORDS OF THE DOCUMENT, as numbers -/
def b2i (p : Prop) [Decidable p] : Int := if p then 1 else 0
theorem b2i_t {p : Prop} [Decidable p] (h : p) : b2i p = 1 := if_pos h
theorem b2i_f {p : Prop} [Decidable p] (h : ¬ p) : b2i p = 0 := if_neg h
theorem b2i_01 (p : Prop) [Decidable p] : b2i p = 0 ∨ b2i p = 1 := by unfold b2i; split <;> simp
theorem b2i_e {p : Prop} [Decidable p] : ¬ b2i p = 0 ↔ p := by unfold b2i; split <;> simp [*]
theorem b2i_z {p : Prop} [Decidable p] : b2i p = 0 ↔ ¬ p := by unfold b2i; split <;> simp [*]
abbrev isSm (s : Int) : Prop := 97 ≤ s ∧ s ≤ 122
abbrev isCp (s : Int) : Prop := 65 ≤ s ∧ s ≤ 90
abbrev isLt (s : Int) : Prop := isSm s ∨ isCp s
abbrev isFg (s : Int) : Prop := 48 ≤ s ∧ s ≤ 57
abbrev isPC (s : Int) : Prop := s = 46 ∨ s = 44
abbrev isSg (s : Int) : Prop := isLt s ∨ isFg s ∨ isPC s ∨ s = 45 ∨ s = 32
abbrev isCl (c : Int) : Prop := 0 ≤ c ∧ c ≤ 63
abbrev isRC (c : Int) : Prop := 30 ≤ c ∧ c ≤ 59
abbrev isLC (c : Int) : Prop := 1 ≤ c ∧ c ≤ 26
abbrev isFC (c : Int) : Prop := 1 ≤ c ∧ c ≤ 10
abbrev isPCC (c : Int) : Prop := c = 27 ∨ c = 28
/-- a letter's number 1 .. 26 -/
def ltN (s : Int) : Int := if isCp s then s - 64 else s - 96
def mkC (s : Int) : Int := if s = 46 then 27 else if s = 44 then 28 else if s = 45 then 29 else 0
def fgC (s : Int) : Int := if s = 48 then 10 else s - 48
def fgS (c : Int) : Int := if c = 10 then 48 else 48 + c
def mkS (c : Int) : Int := if c = 27 then 46 else if c = 28 then 44 else if c = 29 then 45 else 32
/-- how many letters a code has -/
def lnC (c : Int) : Int := if c ≤ 0 then 0 else if c < 27 then 1 else if c < 729 then 2 else if c < 19683 then 3 else 4
abbrev vC (c : Int) : Prop := 27 ≤ c ∧ c < 531441 ∧ ¬ c % 27 = 0 ∧ (729 ≤ c → ¬ c / 27 % 27 = 0) ∧ (19683 ≤ c → ¬ c / 729 % 27 = 0)
def p27 (j : Int) : Int := if j ≤ 0 then 1 else if j = 1 then 27 else if j = 2 then 729 else 19683
/-- letter e of a code, from the left, 1 .. 26 -/
def dgC (c e : Int) : Int := c / p27 (lnC c - 1 - e) % 27
theorem cmp3_lt {x y : Int} : cmp3 x y < 0 ↔ x < y := by unfold cmp3; split <;> (try split) <;> omega
theorem cmp3_ge {x y : Int} : 0 ≤ cmp3 x y ↔ y ≤ x := by unfold cmp3; split <;> (try split) <;> omega
theorem cmp3_gt {x y : Int} : 0 < cmp3 x y ↔ y < x := by unfold cmp3; split <;> (try split) <;> omega
theorem cmp3_le {x y : Int} : cmp3 x y ≤ 0 ↔ x ≤ y := by unfold cmp3; split <;> (try split) <;> omega
theorem lnC_step {c : Int} (h0 : 0 < c) (h1 : c < 531441) : lnC c = 1 + lnC (c / 27) := by
  unfold lnC
  repeat' split
  all_goals omega
theorem lnC_0 {c : Int} (h : c ≤ 0) : lnC c = 0 := by unfold lnC; rw [if_pos h]
theorem lnC_le (c : Int) : 0 ≤ lnC c ∧ lnC c ≤ 4 := by unfold lnC; repeat' split <;> omega
theorem lnC_pos {c : Int} (h : 0 < c) : 1 ≤ lnC c := by unfold lnC; repeat' split <;> omega
theorem lnC_2 {c : Int} : 2 ≤ lnC c ↔ 27 ≤ c := by unfold lnC; repeat' split <;> omega
theorem p27_div {c j : Int} (h0 : 0 ≤ j) (h1 : j ≤ 2) : c / p27 j / 27 = c / p27 (j + 1) := by
  unfold p27
  rcases (by omega : j = 0 ∨ j = 1 ∨ j = 2) with rfl | rfl | rfl
  · simp
  · simp; omega
  · simp; omega
theorem p27_pos (j : Int) : 0 < p27 j := by unfold p27; repeat' split <;> omega
theorem dg2 {c : Int} (h : 27 ≤ c) (h2 : c < 729) : lnC c = 2 ∧ dgC c 0 = c / 27 % 27 ∧ dgC c 1 = c % 27 := by
  have e : lnC c = 2 := by unfold lnC; repeat' split <;> omega
  refine ⟨e, ?_, ?_⟩ <;> unfold dgC p27 <;> rw [e] <;> simp
theorem dg3 {c : Int} (h : 729 ≤ c) (h2 : c < 19683) : lnC c = 3 ∧ dgC c 0 = c / 729 % 27 ∧ dgC c 1 = c / 27 % 27 ∧ dgC c 2 = c % 27 := by
  have e : lnC c = 3 := by unfold lnC; repeat' split <;> omega
  refine ⟨e, ?_, ?_, ?_⟩ <;> unfold dgC p27 <;> rw [e] <;> simp
theorem dg4 {c : Int} (h : 19683 ≤ c) (h2 : c < 531441) : lnC c = 4 ∧ dgC c 0 = c / 19683 % 27 ∧ dgC c 1 = c / 729 % 27 ∧ dgC c 2 = c / 27 % 27 ∧ dgC c 3 = c % 27 := by
  have e : lnC c = 4 := by unfold lnC; repeat' split <;> omega
  refine ⟨e, ?_, ?_, ?_, ?_⟩ <;> unfold dgC p27 <;> rw [e] <;> simp
theorem vC_iff {c : Int} (h : 27 ≤ c) (h2 : c < 531441) : vC c ↔ ∀ j, 0 ≤ j → j < lnC c → 0 < dgC c j := by
  by_cases a : c < 729
  · obtain ⟨e, d0, d1⟩ := dg2 h a
    constructor
    · intro hv j h0 h1
      rcases (by omega : j = 0 ∨ j = 1) with rfl | rfl <;> omega
    · intro hv
      have q0 := hv 0 (by omega) (by omega)
      have q1 := hv 1 (by omega) (by omega)
      refine ⟨h, h2, ?_, ?_, ?_⟩ <;> omega
  · by_cases b : c < 19683
    · obtain ⟨e, d0, d1, d2⟩ := dg3 (by omega) b
      constructor
      · intro hv j h0 h1
        rcases (by omega : j = 0 ∨ j = 1 ∨ j = 2) with rfl | rfl | rfl <;> omega
      · intro hv
        have q0 := hv 0 (by omega) (by omega)
        have q1 := hv 1 (by omega) (by omega)
        have q2 := hv 2 (by omega) (by omega)
        refine ⟨h, h2, ?_, ?_, ?_⟩ <;> omega
    · obtain ⟨e, d0, d1, d2, d3⟩ := dg4 (by omega) h2
      constructor
      · intro hv j h0 h1
        rcases (by omega : j = 0 ∨ j = 1 ∨ j = 2 ∨ j = 3) with rfl | rfl | rfl | rfl <;> omega
      · intro hv
        have q0 := hv 0 (by omega) (by omega)
        have q1 := hv 1 (by omega) (by omega)
        have q2 := hv 2 (by omega) (by omega)
        have q3 := hv 3 (by omega) (by omega)
        refine ⟨h, h2, ?_, ?_, ?_⟩ <;> omega
/-- which KINDS may stand from .. to in the word a .. b -/
abbrev kdOk (kd fr to a b : Int) : Prop := kd = 0 ∨ (kd = 1 ∧ fr = a ∧ to = b) ∨ (kd = 2 ∧ fr = a ∧ to < b) ∨ (kd = 3 ∧ a < fr ∧ to = b) ∨ (¬ kd = 0 ∧ ¬ kd = 1 ∧ ¬ kd = 2 ∧ ¬ kd = 3 ∧ a < fr ∧ to < b)
/-- the last k letters of a code are letters -/
def nzD : Nat → Int → Prop
  | 0, _ => True
  | k + 1, c => ¬ c % 27 = 0 ∧ nzD k (c / 27)
theorem vC_nz {c : Int} (h : 27 ≤ c) (h2 : c < 531441) : vC c ↔ nzD (lnC c).toNat c := by
  by_cases a : c < 729
  · rw [(dg2 h a).1]
    show vC c ↔ (¬ c % 27 = 0 ∧ ¬ c / 27 % 27 = 0 ∧ True)
    constructor
    · rintro ⟨-, -, h3, -, -⟩; exact ⟨h3, by omega, trivial⟩
    · rintro ⟨h3, h4, -⟩; exact ⟨h, h2, h3, by omega, by omega⟩
  · by_cases b : c < 19683
    · rw [(dg3 (by omega) b).1]
      show vC c ↔ (¬ c % 27 = 0 ∧ ¬ c / 27 % 27 = 0 ∧ ¬ c / 27 / 27 % 27 = 0 ∧ True)
      constructor
      · rintro ⟨-, -, h3, h4, -⟩; exact ⟨h3, h4 (by omega), by clear h3 h4; omega, trivial⟩
      · rintro ⟨h3, h4, -, -⟩; exact ⟨h, h2, h3, fun _ => h4, by omega⟩
    · rw [(dg4 (by omega) h2).1]
      show vC c ↔ (¬ c % 27 = 0 ∧ ¬ c / 27 % 27 = 0 ∧ ¬ c / 27 / 27 % 27 = 0 ∧ ¬ c / 27 / 27 / 27 % 27 = 0 ∧ True)
      have e : c / 27 / 27 = c / 729 := by omega
      rw [e]
      constructor
      · rintro ⟨-, -, h3, h4, h5⟩; exact ⟨h3, h4 (by omega), h5 (by omega), by clear h3 h4 h5; omega, trivial⟩
      · rintro ⟨h3, h4, h5, -, -⟩; exact ⟨h, h2, h3, fun _ => h4, fun _ => h5⟩
