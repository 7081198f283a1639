/-! READ BACK -/
def rOf (V : BV) (c : Int) : Int := fIx (vE V) c (vR V)
abbrev isRl (V : BV) (c : Int) : Prop := isRC c ∧ ¬ rOf V c = -1
abbrev noCl (V : BV) (c : Int) : Prop := c = 63 ∨ (isRC c ∧ rOf V c = -1)
def cdL (code base : Int) : List Int := (List.range (lnC code).toNat).map fun (e : Nat) => base + dgC code (e : Int) - 1
def ltrs (V : BV) (c base : Int) : List Int := if isLC c then [base + c - 1] else if rOf V c = -1 then [] else cdL (vC' V (rOf V c).toNat) base
def fk (V : BV) (c : Int) : Int := if noCl V c then 1 else 2
/-- CAPITALS as long as they stand side by side: where they end, the signs -/
def crF (V : BV) (F : Int → Int) : Nat → Int → Int × List Int
  | 0, i => (i, [])
  | k + 1, i => if isLC (F i) ∨ isRl V (F i) then ((crF V F k (i + 1)).1, ltrs V (F i) 65 ++ (crF V F k (i + 1)).2) else (i, [])
/-- figures that belong together -/
def frF (F : Int → Int) : Nat → Int → Int × List Int
  | 0, i => (i, [])
  | k + 1, i => if isFC (F i) then ((frF F k (i + 1)).1, fgS (F i) :: (frF F k (i + 1)).2) else if isPCC (F i) ∧ isFC (F (i + 1)) then ((frF F k (i + 1)).1, mkS (F i) :: (frF F k (i + 1)).2) else (i, [])
abbrev bhF (F : Int → Int) (fe i : Int) : Prop := ¬ fe = -1 ∧ (i = fe ∨ (i = fe + 1 ∧ isPCC (F (i - 1))))
/-- one step at i: the FAULT (0: none), its place, the next place, the end of the latest figures, the signs -/
abbrev RST : Type := Int × Int × Int × Int × List Int
def stp (V : BV) (F : Int → Int) (m i fe : Int) : RST :=
  if F i = 60 then
    if F (i + 1) = 60 then
      if (crF V F (m - (i + 2)).toNat (i + 2)).1 = i + 2 then (fk V (F (i + 2)), i + 2, i + 2, fe, []) else (0, -1, (crF V F (m - (i + 2)).toNat (i + 2)).1, fe, (crF V F (m - (i + 2)).toNat (i + 2)).2)
    else if isLC (F (i + 1)) then (0, -1, i + 2, fe, [65 + F (i + 1) - 1]) else (fk V (F (i + 1)), i + 1, i + 2, fe, [])
  else if F i = 61 then
    if isFC (F (i + 1)) then (0, -1, (frF F (m - (i + 1)).toNat (i + 1)).1, (frF F (m - (i + 1)).toNat (i + 1)).1, (frF F (m - (i + 1)).toNat (i + 1)).2) else (fk V (F (i + 1)), i + 1, i + 1, fe, [])
  else if F i = 62 then
    if bhF F fe i ∧ (isFC (F (i + 1)) ∨ isRl V (F (i + 1))) then (0, -1, i + 1, fe, []) else (2, i, i + 1, fe, [])
  else if noCl V (F i) then (1, i, i + 1, fe, []) else (0, -1, i + 1, fe, if isLC (F i) ∨ isRC (F i) then ltrs V (F i) 97 else [mkS (F i)])
def rdF (V : BV) (F : Int → Int) (m : Int) : Nat → Int → Int → Int × Int × List Int
  | 0, _, _ => (0, -1, [])
  | k + 1, i, fe => if m ≤ i then (0, -1, []) else if ¬ (stp V F m i fe).1 = 0 then ((stp V F m i fe).1, (stp V F m i fe).2.1, []) else
    ((rdF V F m k (stp V F m i fe).2.2.1 (stp V F m i fe).2.2.2.1).1, (rdF V F m k (stp V F m i fe).2.2.1 (stp V F m i fe).2.2.2.1).2.1, (stp V F m i fe).2.2.2.2 ++ (rdF V F m k (stp V F m i fe).2.2.1 (stp V F m i fe).2.2.2.1).2.2)
def rd (V : BV) (F : Int → Int) (m i fe : Int) : Int × Int × List Int := rdF V F m (m - i).toNat i fe
theorem cdL_len (code base : Int) : ((cdL code base).length : Int) = lnC code := by
  unfold cdL
  have := (lnC_le code).1
  simp; omega
theorem ltrs_len (V : BV) (c base : Int) : (ltrs V c base).length ≤ 4 := by
  unfold ltrs
  split
  · simp
  · split
    · simp
    · have := cdL_len (vC' V (rOf V c).toNat) base
      have := (lnC_le (vC' V (rOf V c).toNat)).2
      omega
theorem crF_spec (V : BV) (F : Int → Int) : ∀ (k : Nat) (i : Int), i ≤ (crF V F k i).1 ∧ (crF V F k i).1 ≤ i + k ∧ ((crF V F k i).2.length : Int) ≤ 4 * ((crF V F k i).1 - i)
  | 0, i => by simp [crF]
  | k + 1, i => by
    have ih := crF_spec V F k (i + 1)
    unfold crF
    split
    · have := ltrs_len V (F i) 65
      simp only [List.length_append]
      omega
    · simp only [List.length_nil]; omega
theorem frF_spec (F : Int → Int) : ∀ (k : Nat) (i : Int), i ≤ (frF F k i).1 ∧ (frF F k i).1 ≤ i + k ∧ ((frF F k i).2.length : Int) = (frF F k i).1 - i
  | 0, i => by simp [frF]
  | k + 1, i => by
    have ih := frF_spec F k (i + 1)
    unfold frF
    split
    · simp only [List.length_cons]; omega
    · split
      · simp only [List.length_cons]; omega
      · simp only [List.length_nil]; omega
/-- a step goes on, and not beyond the end, and gives not too many signs -/
theorem stp_next {V : BV} {F : Int → Int} {m i fe : Int} (hF : ∀ j, m ≤ j → F j = -1) (hi : i < m) (hk : (stp V F m i fe).1 = 0) : i < (stp V F m i fe).2.2.1 ∧ (stp V F m i fe).2.2.1 ≤ m ∧ ((stp V F m i fe).2.2.2.2.length : Int) ≤ 4 * ((stp V F m i fe).2.2.1 - i) ∧ (stp V F m i fe).2.1 = -1 := by
  have hfk : ∀ c, ¬ fk V c = 0 := fun c => by unfold fk; split <;> omega
  have hin : ∀ j, ¬ F j = -1 → j < m := fun j h => Decidable.byContradiction fun q => h (hF j (by omega))
  unfold stp at hk ⊢
  by_cases h60 : F i = 60
  · rw [if_pos h60] at hk ⊢
    by_cases h60b : F (i + 1) = 60
    · rw [if_pos h60b] at hk ⊢
      have hc := crF_spec V F (m - (i + 2)).toNat (i + 2)
      have := hin (i + 1) (by omega)
      split at hk
      · exact absurd hk (hfk _)
      · rename_i q
        rw [if_neg q]
        refine ⟨?_, ?_, ?_, rfl⟩ <;> simp only <;> omega
    · rw [if_neg h60b] at hk ⊢
      split at hk
      · rename_i q
        have := hin (i + 1) (by simp only [isLC] at q; omega)
        rw [if_pos q]
        refine ⟨?_, ?_, ?_, rfl⟩ <;> simp <;> omega
      · exact absurd hk (hfk _)
  · rw [if_neg h60] at hk ⊢
    by_cases h61 : F i = 61
    · rw [if_pos h61] at hk ⊢
      split at hk
      · rename_i q
        have := hin (i + 1) (by simp only [isFC] at q; omega)
        have hc := frF_spec F (m - (i + 1)).toNat (i + 1)
        rw [if_pos q]
        refine ⟨?_, ?_, ?_, rfl⟩ <;> simp only <;> omega
      · exact absurd hk (hfk _)
    · rw [if_neg h61] at hk ⊢
      by_cases h62 : F i = 62
      · rw [if_pos h62] at hk ⊢
        split at hk
        · rename_i q
          rw [if_pos q]
          refine ⟨?_, ?_, ?_, rfl⟩ <;> simp <;> omega
        · exact absurd hk (show ¬ (2 : Int) = 0 by decide)
      · rw [if_neg h62] at hk ⊢
        split at hk
        · exact absurd hk (show ¬ (1 : Int) = 0 by decide)
        · rename_i q
          rw [if_neg q]
          refine ⟨?_, ?_, ?_, rfl⟩
          · simp only; omega
          · simp only; omega
          · simp only
            split
            · have := ltrs_len V (F i) 97
              omega
            · simp; omega
theorem rdF_fuel {V : BV} {F : Int → Int} {m : Int} (hF : ∀ j, m ≤ j → F j = -1) : ∀ (f f2 : Nat) (i fe : Int), (m - i).toNat ≤ f → (m - i).toNat ≤ f2 → rdF V F m f i fe = rdF V F m f2 i fe
  | 0, 0, i, fe, _, _ => rfl
  | 0, f2 + 1, i, fe, h1, _ => by unfold rdF; rw [if_pos (by omega)]
  | f + 1, 0, i, fe, _, h2 => by unfold rdF; rw [if_pos (by omega)]
  | f + 1, f2 + 1, i, fe, h1, h2 => by
    unfold rdF
    by_cases hb : m ≤ i
    · rw [if_pos hb, if_pos hb]
    · rw [if_neg hb, if_neg hb]
      by_cases hs : (stp V F m i fe).1 = 0
      · have hn := stp_next hF (by omega : i < m) hs
        rw [if_neg (fun q => q hs), if_neg (fun q => q hs), rdF_fuel hF f f2 _ _ (by omega) (by omega)]
      · rw [if_pos hs, if_pos hs]
theorem rd_end {V : BV} {F : Int → Int} {m i fe : Int} (h : m ≤ i) : rd V F m i fe = (0, -1, []) := by
  unfold rd; rw [show (m - i).toNat = 0 by omega]; rfl
theorem rd_fault {V : BV} {F : Int → Int} {m i fe : Int} (h : i < m) (hk : ¬ (stp V F m i fe).1 = 0) : rd V F m i fe = ((stp V F m i fe).1, (stp V F m i fe).2.1, []) := by
  unfold rd
  rw [show (m - i).toNat = (m - (i + 1)).toNat + 1 by omega]
  conv => lhs; unfold rdF
  rw [if_neg (by omega), if_pos hk]
theorem rd_step {V : BV} {F : Int → Int} {m i fe : Int} (hF : ∀ j, m ≤ j → F j = -1) (h : i < m) (hk : (stp V F m i fe).1 = 0) : rd V F m i fe = ((rd V F m (stp V F m i fe).2.2.1 (stp V F m i fe).2.2.2.1).1, (rd V F m (stp V F m i fe).2.2.1 (stp V F m i fe).2.2.2.1).2.1, (stp V F m i fe).2.2.2.2 ++ (rd V F m (stp V F m i fe).2.2.1 (stp V F m i fe).2.2.2.1).2.2) := by
  have hn := stp_next hF h hk
  unfold rd
  rw [show (m - i).toNat = (m - (i + 1)).toNat + 1 by omega]
  conv => lhs; unfold rdF
  rw [if_neg (by omega), if_neg (fun q => q hk), rdF_fuel hF _ (m - (stp V F m i fe).2.2.1).toNat _ _ (by omega) (by omega)]
