/-! THE REFERENCE'S ROWS: a book is 160 numbers -/
def bY (f : Nat → Int) (o : Nat) : BV := (f (o + 39), sgn (f (o + 39)) (fun j => f (o + 40 + j)), f o, cut (f o) (fun j => f (o + 1 + j)), cut (f o) (fun j => f (o + 13 + j)), cut (f o) (fun j => f (o + 25 + j)), f (o + 37), f (o + 38))
abbrev YV (M : Mem) : BV := bY (M 74) 0
/-- the reference holds s -/
def YR (s : St) (M : Mem) : Prop := YV M = sB s ∧ M 73 2 = (sH s).length ∧ (∀ j : Nat, j < (sH s).length → bY (M 75) (160 * ((sH s).length - 1 - j)) = (sH s).getD j (sB s)) ∧ (∀ j : Nat, j < 2 → (M 77 j = 0 ∧ sI s j = none) ∨ (M 77 j = 1 ∧ sI s j = some (bY (M 76) (160 * j)))) ∧ M 73 16 = sC s ∧ sgn (sC s) (M 82) = sL s
theorem Y_r {M : Mem} {V : BV} (h : YV M = V) : M 74 0 = vR V ∧ M 74 37 = vW V ∧ M 74 38 = vP V ∧ M 74 39 = vN V := by subst h; exact ⟨rfl, rfl, rfl, rfl⟩
theorem Y_c {M : Mem} {V : BV} (h : YV M = V) {k : Int} (k0 : 0 ≤ k) (k1 : k < vR V) : M 74 (1 + k).toNat = vC' V k.toNat := by
  subst h
  show _ = cut (M 74 0) (fun j => M 74 (0 + 1 + j)) k.toNat
  rw [cut_in (by show ((k.toNat : Nat) : Int) < vR (YV M); omega), show (1 + k).toNat = 0 + 1 + k.toNat by omega]
theorem Y_e {M : Mem} {V : BV} (h : YV M = V) {k : Int} (k0 : 0 ≤ k) (k1 : k < vR V) : M 74 (13 + k).toNat = vE V k.toNat := by
  subst h
  show _ = cut (M 74 0) (fun j => M 74 (0 + 13 + j)) k.toNat
  rw [cut_in (by show ((k.toNat : Nat) : Int) < vR (YV M); omega), show (13 + k).toNat = 0 + 13 + k.toNat by omega]
theorem Y_k {M : Mem} {V : BV} (h : YV M = V) {k : Int} (k0 : 0 ≤ k) (k1 : k < vR V) : M 74 (25 + k).toNat = vK V k.toNat := by
  subst h
  show _ = cut (M 74 0) (fun j => M 74 (0 + 25 + j)) k.toNat
  rw [cut_in (by show ((k.toNat : Nat) : Int) < vR (YV M); omega), show (25 + k).toNat = 0 + 25 + k.toNat by omega]
theorem Y_s {M : Mem} {V : BV} (h : YV M = V) {i : Int} (i0 : 0 ≤ i) (i1 : i < vN V) : M 74 (40 + i).toNat = vS V i := by
  subst h
  show _ = sgn (M 74 39) (fun j => M 74 (0 + 40 + j)) i
  rw [sgn_in (n := M 74 39) i0 i1, show (40 + i).toNat = 0 + 40 + i.toNat by omega]
theorem bY_congr {f h : Nat → Int} {o p : Nat} (e : ∀ j : Nat, j < 160 → f (o + j) = h (p + j)) (h4 : f o ≤ 12) (h5 : f (o + 39) ≤ 120) : bY f o = bY h p := by
  have e0 : f o = h p := e 0 (by omega)
  unfold bY
  rw [← e 39 (by omega), ← e 37 (by omega), ← e 38 (by omega), ← e0]
  rw [sgn_congr (f := fun j => f (o + 40 + j)) (h := fun j => h (p + 40 + j)) (fun i hi => by rw [show o + 40 + i = o + (40 + i) by omega, show p + 40 + i = p + (40 + i) by omega]; exact e _ (by omega))]
  rw [cut_congr (f := fun j => f (o + 1 + j)) (h := fun j => h (p + 1 + j)) (fun i hi => by rw [show o + 1 + i = o + (1 + i) by omega, show p + 1 + i = p + (1 + i) by omega]; exact e _ (by omega))]
  rw [cut_congr (f := fun j => f (o + 13 + j)) (h := fun j => h (p + 13 + j)) (fun i hi => by rw [show o + 13 + i = o + (13 + i) by omega, show p + 13 + i = p + (13 + i) by omega]; exact e _ (by omega))]
  rw [cut_congr (f := fun j => f (o + 25 + j)) (h := fun j => h (p + 25 + j)) (fun i hi => by rw [show o + 25 + i = o + (25 + i) by omega, show p + 25 + i = p + (25 + i) by omega]; exact e _ (by omega))]
/-- where a word begins, from i backward -/
def wbF (S : Int → Int) : Nat → Int → Int
  | 0, i => i
  | k + 1, i => if isLt (S (i - 1)) then wbF S k (i - 1) else i
def wb (S : Int → Int) (i : Int) : Int := wbF S i.toNat i
theorem wbF_le (S : Int → Int) : ∀ (k : Nat) (i : Int), wbF S k i ≤ i
  | 0, i => Int.le_refl _
  | k + 1, i => by
    unfold wbF
    split
    · have := wbF_le S k (i - 1); omega
    · exact Int.le_refl _
theorem wb_eq {S : Int → Int} (h : ¬ isLt (S (-1))) {i : Int} (i0 : 0 ≤ i) : wb S i = i ↔ ¬ isLt (S (i - 1)) := by
  unfold wb
  cases hk : i.toNat with
  | zero =>
    have : i = 0 := by omega
    subst this
    exact ⟨fun _ => h, fun _ => rfl⟩
  | succ k =>
    unfold wbF
    by_cases q : isLt (S (i - 1))
    · rw [if_pos q]
      have := wbF_le S k (i - 1)
      exact ⟨fun e => by omega, fun n => absurd q n⟩
    · rw [if_neg q]
      exact ⟨fun _ => q, fun _ => rfl⟩
