theorem startP {g : WG} {H : Heap} (hP : va_P g.1 vwCl (w84 g.2.2.1.1 g.2.2.1.2.1 g.2.2.1.2.2 g.2.1) H) : Rp g M00 H := by
  refine ⟨m032, m064, fun k i => rfl, fun k q hq => ?_⟩
  rw [wsOf, List.getElem?_mapIdx] at hq
  cases hs : shp[k]? with
  | none => rw [hs] at hq; cases hq
  | some sh =>
    rw [hs] at hq
    cases hq
    exact hP k _ (w84_at g k sh hs)
theorem startA {g : WG} (hD : va_D g.2.2.2 (w84 g.2.2.1.1 g.2.2.1.2.1 g.2.2.1.2.2 g.2.1)) : adOk g :=
  ⟨fun i j hi hj h => hD.1 i j _ _ (w84_at g i _ (List.getElem?_eq_getElem hi)) (w84_at g j _ (List.getElem?_eq_getElem hj)) h, fun i hi => hD.2 i _ (w84_at g i _ (List.getElem?_eq_getElem hi))⟩
def V00 : BV := (0, (fun _ => -1), 0, (fun _ => 0), (fun _ => 0), (fun _ => 0), 20, 5)
def s00 : St := (V00, [], (fun _ => none), 0, (fun _ => -1))
theorem sgn_z (f : Nat → Int) : sgn 0 f = fun _ => -1 := by funext i; exact if_neg (by omega)
theorem cut_z (f : Nat → Int) : cut 0 f = fun _ => 0 := by funext i; exact if_neg (by omega)
theorem XR00 : XR s00 M00 := by
  have e4 : M00 1 4 = 0 := by decide +kernel
  have e5 : M00 1 5 = 0 := by decide +kernel
  have e6 : M00 1 6 = 20 := by decide +kernel
  have e7 : M00 1 7 = 5 := by decide +kernel
  have h1 : M00 6 1 = 0 := by decide +kernel
  have h2 : M00 6 2 = 0 := by decide +kernel
  have k0 : M00 9 0 = 0 := by decide +kernel
  have k1 : M00 9 1 = 0 := by decide +kernel
  have f7 : M00 0 7 = 0 := by decide +kernel
  refine ⟨?_, ⟨by omega, by omega, by omega, by omega⟩, h2, fun j hj => absurd hj (Nat.not_lt_zero _), fun j hj => ?_, f7, sgn_z _⟩
  · show ((M00 1 5, sgn (M00 1 5) (M00 5), M00 1 4, cut (M00 1 4) (M00 2), cut (M00 1 4) (M00 3), cut (M00 1 4) (M00 4), M00 1 6, M00 1 7) : BV) = V00
    rw [e4, e5, e6, e7, sgn_z, cut_z, cut_z, cut_z]
    rfl
  · rcases (by omega : j = 0 ∨ j = 1) with rfl | rfl
    · exact Or.inl ⟨k0, rfl⟩
    · exact Or.inl ⟨k1, rfl⟩
theorem YR00 : YR s00 M00 := by
  have e0 : M00 74 0 = 0 := by decide +kernel
  have e39 : M00 74 39 = 0 := by decide +kernel
  have e37 : M00 74 37 = 20 := by decide +kernel
  have e38 : M00 74 38 = 5 := by decide +kernel
  have h2 : M00 73 2 = 0 := by decide +kernel
  have k0 : M00 77 0 = 0 := by decide +kernel
  have k1 : M00 77 1 = 0 := by decide +kernel
  have f16 : M00 73 16 = 0 := by decide +kernel
  refine ⟨?_, h2, fun j hj => absurd hj (Nat.not_lt_zero _), fun j hj => ?_, f16, sgn_z _⟩
  · show ((M00 74 39, sgn (M00 74 39) (fun j => M00 74 (0 + 40 + j)), M00 74 0, cut (M00 74 0) (fun j => M00 74 (0 + 1 + j)), cut (M00 74 0) (fun j => M00 74 (0 + 13 + j)), cut (M00 74 0) (fun j => M00 74 (0 + 25 + j)), M00 74 37, M00 74 38) : BV) = V00
    rw [e0, e39, e37, e38, sgn_z, cut_z, cut_z, cut_z]
    rfl
  · rcases (by omega : j = 0 ∨ j = 1) with rfl | rfl
    · exact Or.inl ⟨k0, rfl⟩
    · exact Or.inl ⟨k1, rfl⟩
theorem stOk00 : stOk s00 := by
  refine ⟨⟨by decide, by decide, by decide, by decide, fun i i0 i1 => absurd (show i < 0 from i1) (by omega), fun i _ => rfl, fun k hk => absurd (show (k : Int) < 0 from hk) (by omega), fun i j hi => absurd (show (i : Int) < 0 from hi) (by omega), fun i j hi => absurd (show (i : Int) < 0 from hi) (by omega), by decide, by decide, by decide, by decide⟩, Nat.zero_le _, fun V hV => absurd hV List.not_mem_nil, fun j V h => (by cases h), by decide, by decide, fun i _ => rfl, fun i i0 i1 => absurd (show i < 0 from i1) (by omega)⟩
