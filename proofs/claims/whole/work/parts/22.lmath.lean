/-! LAID in lines: the lines that are full, and the last one; none: nothing is laid yet -/
abbrev LST : Type := Option (List (List Int) × List Int)
/-- the end of the piece that goes on at i: the first blank, or the end -/
def peF (F : Int → Int) : Nat → Int → Int
  | 0, i => i
  | k + 1, i => if F i = 0 then i else peF F k (i + 1)
def pe (F : Int → Int) (m i : Int) : Int := peF F (m - i).toNat i
theorem peF_spec (F : Int → Int) : ∀ (k : Nat) (i : Int), i ≤ peF F k i ∧ peF F k i ≤ i + k ∧ (∀ j, i ≤ j → j < peF F k i → ¬ F j = 0) ∧ (peF F k i < i + k → F (peF F k i) = 0)
  | 0, i => ⟨by simp [peF], by simp [peF], fun j a b => by simp [peF] at b; omega, fun h => by simp [peF] at h⟩
  | k + 1, i => by
    unfold peF
    by_cases h : F i = 0
    · rw [if_pos h]
      exact ⟨by omega, by omega, fun j a b => by omega, fun _ => h⟩
    · rw [if_neg h]
      obtain ⟨a, b, c, d⟩ := peF_spec F k (i + 1)
      refine ⟨by omega, by omega, fun j j0 j1 => ?_, fun q => d (by omega)⟩
      by_cases hj : j = i
      · rw [hj]; exact h
      · exact c j (by omega) j1
theorem pe_spec {F : Int → Int} {m i : Int} (h : i ≤ m) : i ≤ pe F m i ∧ pe F m i ≤ m ∧ (∀ j, i ≤ j → j < pe F m i → ¬ F j = 0) ∧ (pe F m i < m → F (pe F m i) = 0) := by
  obtain ⟨a, b, c, d⟩ := peF_spec F (m - i).toNat i
  exact ⟨a, by unfold pe; omega, c, fun q => d (by unfold pe at q; omega)⟩
theorem pe_eq {F : Int → Int} {m i r : Int} (h : i ≤ r) (h2 : r ≤ m) (h3 : ∀ j, i ≤ j → j < r → ¬ F j = 0) (h4 : r < m → F r = 0) : pe F m i = r := by
  obtain ⟨a, b, c, d⟩ := pe_spec (F := F) (by omega : i ≤ m)
  rcases Int.lt_trichotomy (pe F m i) r with q | q | q
  · exact absurd (d (by omega)) (h3 _ a q)
  · exact q
  · exact absurd (h4 (by omega)) (c r h q)
theorem pe_gt {F : Int → Int} {m i : Int} (h : i < m) (hi : ¬ F i = 0) : i < pe F m i := by
  obtain ⟨a, b, c, d⟩ := pe_spec (F := F) (Int.le_of_lt h)
  rcases Int.lt_or_eq_of_le a with q | q
  · exact q
  · rw [← q] at d; exact absurd (d h) hi
/-- one cell more: on the last line, or on a new one if that is full -/
def lyC (w : Int) (A : List (List Int)) (L : List Int) (c : Int) : List (List Int) × List Int := if w ≤ L.length then (A ++ [L], [c]) else (A, L ++ [c])
def lyR (w : Int) (F : Int → Int) : Nat → Int → List (List Int) × List Int → List (List Int) × List Int
  | 0, _, s => s
  | k + 1, i, s => lyR w F k (i + 1) (lyC w s.1 s.2 (F i))
/-- where a piece of n cells begins -/
def ly0 (w n : Int) (s : LST) : List (List Int) × List Int := match s with
  | none => ([], [])
  | some q => if (q.2.length : Int) + 1 + n ≤ w then (q.1, q.2 ++ [0]) else (q.1 ++ [q.2], [])
def lyP (w : Int) (F : Int → Int) (i b : Int) (s : LST) : LST := some (lyR w F (b - i).toNat i (ly0 w (b - i) s))
def lyF (w : Int) (F : Int → Int) (m : Int) : Nat → Int → LST → LST
  | 0, _, s => s
  | f + 1, i, s => if m ≤ i then s else if F i = 0 then lyF w F m f (i + 1) s else lyF w F m f (pe F m i) (lyP w F i (pe F m i) s)
def ly (w : Int) (F : Int → Int) (m i : Int) (s : LST) : LST := lyF w F m (m - i).toNat i s
theorem lyF_fuel (w : Int) (F : Int → Int) (m : Int) : ∀ (f f2 : Nat) (i : Int) (s : LST), (m - i).toNat ≤ f → (m - i).toNat ≤ f2 → lyF w F m f i s = lyF w F m f2 i s
  | 0, 0, i, s, _, _ => rfl
  | 0, f2 + 1, i, s, h1, _ => by unfold lyF; rw [if_pos (by omega)]
  | f + 1, 0, i, s, _, h2 => by unfold lyF; rw [if_pos (by omega)]
  | f + 1, f2 + 1, i, s, h1, h2 => by
    unfold lyF
    by_cases hb : m ≤ i
    · rw [if_pos hb, if_pos hb]
    · rw [if_neg hb, if_neg hb]
      by_cases hz : F i = 0
      · rw [if_pos hz, if_pos hz, lyF_fuel w F m f f2 _ _ (by omega) (by omega)]
      · have := pe_gt (F := F) (m := m) (i := i) (by omega) hz
        rw [if_neg hz, if_neg hz, lyF_fuel w F m f f2 _ _ (by omega) (by omega)]
theorem ly_end {w : Int} {F : Int → Int} {m i : Int} {s : LST} (h : m ≤ i) : ly w F m i s = s := by
  unfold ly; rw [show (m - i).toNat = 0 by omega]; rfl
theorem ly_blank {w : Int} {F : Int → Int} {m i : Int} {s : LST} (h : i < m) (hz : F i = 0) : ly w F m i s = ly w F m (i + 1) s := by
  unfold ly
  rw [show (m - i).toNat = (m - (i + 1)).toNat + 1 by omega]
  conv => lhs; unfold lyF
  rw [if_neg (by omega), if_pos hz]
theorem ly_piece {w : Int} {F : Int → Int} {m i : Int} {s : LST} (h : i < m) (hz : ¬ F i = 0) : ly w F m i s = ly w F m (pe F m i) (lyP w F i (pe F m i) s) := by
  have := pe_gt h hz
  unfold ly
  rw [show (m - i).toNat = (m - (i + 1)).toNat + 1 by omega]
  conv => lhs; unfold lyF
  rw [if_neg (by omega), if_neg hz, lyF_fuel w F m _ (m - pe F m i).toNat _ _ (by omega) (by omega)]
/-- how many lines -/
def lyN (s : LST) : Int := match s with
  | none => 0
  | some q => (q.1.length : Int) + 1
/-- CELL i of a line; -1: none -/
def lyAt (s : LST) (l i : Nat) : Int := match s with
  | none => -1
  | some q => (((q.1 ++ [q.2])[l]?).getD []).getD i (-1)
/-- what is kept of a laying: no line is empty, none is longer than w, and so many cells -/
def lyOk (w : Int) (c : Int) (s : List (List Int) × List Int) : Prop := (∀ L ∈ s.1, 0 < L.length ∧ (L.length : Int) ≤ w) ∧ (s.2.length : Int) ≤ w ∧ (s.1.flatten.length : Int) + s.2.length ≤ c
theorem len_flat : ∀ (A : List (List Int)), (∀ L ∈ A, 0 < L.length) → A.length ≤ A.flatten.length
  | [], _ => by simp
  | L :: A, h => by
    have := len_flat A (fun L hL => h L (List.mem_cons_of_mem _ hL))
    have := h L List.mem_cons_self
    simp only [List.length_cons, List.flatten_cons, List.length_append]
    omega
theorem lyC_ok {w c : Int} {A : List (List Int)} {L : List Int} (h : lyOk w c (A, L)) (hw : 1 ≤ w) (x : Int) : lyOk w (c + 1) (lyC w A L x) ∧ 0 < (lyC w A L x).2.length := by
  obtain ⟨h1, h2, h3⟩ := h
  unfold lyC
  simp only at h1 h2 h3
  by_cases q : w ≤ L.length
  · rw [if_pos q]
    refine ⟨⟨fun K hK => ?_, by simp; omega, by simp only [List.flatten_append, List.length_append, List.flatten_cons, List.flatten_nil, List.length_cons, List.length_nil]; omega⟩, by simp⟩
    rcases List.mem_append.mp hK with z | z
    · exact h1 K z
    · rw [List.mem_singleton.mp z]; omega
  · rw [if_neg q]
    exact ⟨⟨h1, by simp; omega, by simp only [List.flatten_append, List.length_append, List.flatten_cons, List.flatten_nil, List.length_cons, List.length_nil]; omega⟩, by simp⟩
theorem lyR_ok {w : Int} (hw : 1 ≤ w) (F : Int → Int) : ∀ (k : Nat) (i c : Int) (s : List (List Int) × List Int), lyOk w c s → lyOk w (c + k) (lyR w F k i s) ∧ (0 < s.2.length ∨ 0 < k → 0 < (lyR w F k i s).2.length)
  | 0, i, c, s, h => ⟨by rw [show c + ((0 : Nat) : Int) = c by omega]; exact h, fun q => by rcases q with q | q; exact q; omega⟩
  | k + 1, i, c, s, h => by
    obtain ⟨a, b⟩ := lyC_ok (A := s.1) (L := s.2) h hw (F i)
    obtain ⟨a2, b2⟩ := lyR_ok hw F k (i + 1) (c + 1) _ a
    unfold lyR
    refine ⟨by rw [show c + ((k + 1 : Nat) : Int) = c + 1 + k by omega]; exact a2, fun _ => b2 (Or.inl b)⟩
