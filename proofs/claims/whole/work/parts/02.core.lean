/-! THE SMALL MACHINE: values are whole numbers or numbered cells, memory is a table of numbers -/
abbrev MV : Type := Int ⊕ (Int ⊕ Nat)
abbrev Mem : Type := Nat → Nat → Int
abbrev mi (z : Int) : MV := Sum.inl z
abbrev ml (z : Int) : MV := Sum.inr (Sum.inl z)
abbrev mr (k : Nat) : MV := Sum.inr (Sum.inr k)
def InR (z : Int) : Prop := -2147483648 ≤ z ∧ z ≤ 2147483647
def InL (z : Int) : Prop := -9223372036854775808 ≤ z ∧ z ≤ 9223372036854775807
def okV (v : MV) : Prop := match v with
  | .inl z => InR z
  | .inr (.inl z) => InL z
  | .inr (.inr _) => True
def toV (ad : Nat → Nat) (v : MV) : Value := match v with
  | .inl z => .int (Int32.ofInt z)
  | .inr (.inl z) => .long (Int64.ofInt z)
  | .inr (.inr k) => .ref (ad k)
def catV (v : MV) : Nat := match v with
  | .inr (.inl _) => 2
  | _ => 1
theorem cat_toV (ad : Nat → Nat) (v : MV) : (toV ad v).category = catV v := by
  rcases v with z | z | k <;> rfl
theorem i32_of {z : Int} (h : InR z) : (Int32.ofInt z).toInt = z := Int32.toInt_ofInt_of_le (by have := h.1; omega) (by have := h.2; omega)
theorem i64_of {z : Int} (h : InL z) : (Int64.ofInt z).toInt = z := Int64.toInt_ofInt_of_le (by have := h.1; omega) (by have := h.2; omega)
theorem i32_in (x : Int32) : InR x.toInt := ⟨by have := x.le_toInt; omega, by have := x.toInt_lt; omega⟩
theorem i64_in (x : Int64) : InL x.toInt := ⟨by have := x.le_toInt; omega, by have := x.toInt_lt; omega⟩
theorem i32_lt {x y : Int} (hx : InR x) (hy : InR y) : Int32.ofInt x < Int32.ofInt y ↔ x < y := by rw [Int32.lt_iff_toInt_lt, i32_of hx, i32_of hy]
theorem i32_le {x y : Int} (hx : InR x) (hy : InR y) : Int32.ofInt x ≤ Int32.ofInt y ↔ x ≤ y := by rw [Int32.le_iff_toInt_le, i32_of hx, i32_of hy]
theorem i32_eq {x y : Int} (hx : InR x) (hy : InR y) : Int32.ofInt x = Int32.ofInt y ↔ x = y := by rw [← Int32.toInt_inj, i32_of hx, i32_of hy]
theorem i64_lt {x y : Int} (hx : InL x) (hy : InL y) : Int64.ofInt x < Int64.ofInt y ↔ x < y := by rw [Int64.lt_iff_toInt_lt, i64_of hx, i64_of hy]
theorem i64_eq {x y : Int} (hx : InL x) (hy : InL y) : Int64.ofInt x = Int64.ofInt y ↔ x = y := by rw [← Int64.toInt_inj, i64_of hx, i64_of hy]
theorem InR_0 : InR 0 := ⟨by omega, by omega⟩
theorem i32_lt0 {x : Int} (hx : InR x) : Int32.ofInt x < 0 ↔ x < 0 := i32_lt hx InR_0
theorem i32_le0 {x : Int} (hx : InR x) : Int32.ofInt x ≤ 0 ↔ x ≤ 0 := i32_le hx InR_0
theorem i32_ge0 {x : Int} (hx : InR x) : 0 ≤ Int32.ofInt x ↔ 0 ≤ x := i32_le InR_0 hx
theorem i32_gt0 {x : Int} (hx : InR x) : 0 < Int32.ofInt x ↔ 0 < x := i32_lt InR_0 hx
theorem i32_eq0 {x : Int} (hx : InR x) : Int32.ofInt x = 0 ↔ x = 0 := i32_eq hx InR_0
theorem i32_nat {x : Int} (hx : InR x) : (Int32.ofInt x).toNatClampNeg = x.toNat := by
  show (Int32.ofInt x).toInt.toNat = x.toNat
  rw [i32_of hx]
theorem i32_vpin {x : Int} {n : Nat} (hx : InR x) (h0 : 0 ≤ x) (h1 : x < n) : vp_in (Int32.ofInt x) n := by
  rw [vp_in_iff, i32_of hx]; exact ⟨h0, h1⟩
/-! memory -/
def rup (f : Nat → Int) (i : Nat) (z : Int) : Nat → Int := fun j => if j = i then z else f j
def srow (M : Mem) (k : Nat) (f : Nat → Int) : Mem := fun j => if j = k then f else M j
def mup (M : Mem) (k i : Nat) (z : Int) : Mem := srow M k (rup (M k) i z)
theorem rup_same (f : Nat → Int) (i : Nat) (z : Int) : rup f i z i = z := by simp [rup]
theorem rup_ne (f : Nat → Int) {i j : Nat} (z : Int) (h : j ≠ i) : rup f i z j = f j := by simp [rup, h]
theorem srow_same (M : Mem) (k : Nat) (f : Nat → Int) : srow M k f k = f := by simp [srow]
theorem srow_ne (M : Mem) {k j : Nat} (f : Nat → Int) (h : j ≠ k) : srow M k f j = M j := by simp [srow, h]
/-- a cell's shape: an object (its class, what its fields are), a row of ints or booleans (0, 1; its length), a row of cells.
A field: 0 an int, 1 a boolean, 2 a long, n + 3 the cell n for good -/
abbrev Sh : Type := (Nat × List Nat) ⊕ ((Nat × Nat) ⊕ List Nat)
abbrev bkSh (k : Nat) : List Sh := [.inl (0, [k + 4, k + 5, k + 6, k + 7, 0, 0, 0, 0]), .inr (.inl (0, 12)), .inr (.inl (0, 12)), .inr (.inl (0, 12)), .inr (.inl (0, 120))]
def shp : List Sh := [
  .inl (6, [4, 9, 11, 12, 13, 19, 22, 0, 23, 25]),
  .inl (0, [5, 6, 7, 8, 0, 0, 0, 0]), .inr (.inl (0, 12)), .inr (.inl (0, 12)), .inr (.inl (0, 12)), .inr (.inl (0, 120)),
  .inl (1, [10, 0, 0]), .inr (.inr [23, 28, 33, 38, 43, 48, 53, 58]),
  .inr (.inr [63, 68]), .inr (.inl (1, 2)),
  .inl (5, [14, 15, 16, 4, 0, 0, 0, 0, 0, 1, 17, 18]), .inr (.inl (0, 240)), .inr (.inl (0, 12)), .inr (.inl (0, 12)), .inr (.inl (0, 120)), .inr (.inl (0, 121)),
  .inl (2, [20, 21, 0, 0, 0]), .inr (.inl (0, 240)), .inr (.inl (0, 240)),
  .inr (.inl (0, 240)),
  .inl (4, [24, 0, 0, 0, 4, 22, 0, 0]), .inr (.inl (0, 960)),
  .inl (3, [2])] ++ bkSh 23 ++ bkSh 28 ++ bkSh 33 ++ bkSh 38 ++ bkSh 43 ++ bkSh 48 ++ bkSh 53 ++ bkSh 58 ++ bkSh 63 ++ bkSh 68 ++ [
  .inl (7, [77, 78, 0, 79, 80, 2, 81, 0, 82, 83, 84, 0, 0, 0, 0, 85, 0, 86, 0, 0, 0, 0]),
  .inr (.inl (0, 160)), .inr (.inl (0, 1280)), .inr (.inl (0, 320)), .inr (.inl (1, 2)), .inr (.inl (0, 500)), .inr (.inl (0, 12)), .inr (.inl (0, 12)), .inr (.inl (0, 121)), .inr (.inl (0, 240)), .inr (.inl (0, 1000))]
def isL (k i : Nat) : Bool := match shp[k]? with
  | some (.inl q) => q.2[i]? == some 2
  | _ => false
abbrev WG : Type := va_G × (Nat → Nat) × (ClassId × ClassId × ClassId) × (Nat → Prop)
def slotV (ad : Nat → Nat) (d : Nat) (x : Int32) (y : Int64) : Value := match d with
  | 0 => .int x
  | 1 => .int x
  | 2 => .long y
  | n + 3 => .ref (ad n)
def ent (g : WG) (m32 : Nat → Nat → Int32) (m64 : Nat → Nat → Int64) (k : Nat) (sh : Sh) : va_E := match sh with
  | .inl q => .inr (q.1, q.2.mapIdx fun i d => slotV g.2.1 d (m32 k i) (m64 k i))
  | .inr (.inl q) => .inl (if q.1 = 0 then g.2.2.1.1 else g.2.2.1.2.1, q.2, .inl (m32 k))
  | .inr (.inr rs) => .inl (g.2.2.1.2.2, rs.length, .inr (.inr (.inr (.inr fun i => (rs[i]?).map g.2.1))))
def wsOf (g : WG) (m32 : Nat → Nat → Int32) (m64 : Nat → Nat → Int64) : va_W := shp.mapIdx fun k sh => (g.2.1 k, ent g m32 m64 k sh)
theorem wsOf_get (g : WG) (m32 : Nat → Nat → Int32) (m64 : Nat → Nat → Int64) {k : Nat} {sh : Sh} (h : shp[k]? = some sh) : (wsOf g m32 m64)[k]? = some (g.2.1 k, ent g m32 m64 k sh) := by
  rw [wsOf, List.getElem?_mapIdx, h]; rfl
theorem wsOf_inv (g : WG) (m32 : Nat → Nat → Int32) (m64 : Nat → Nat → Int64) {k : Nat} {q : Nat × va_E} (h : (wsOf g m32 m64)[k]? = some q) : k < shp.length ∧ q.1 = g.2.1 k := by
  rw [wsOf, List.getElem?_mapIdx] at h
  cases hs : shp[k]? with
  | none => rw [hs] at h; cases h
  | some sh =>
    rw [hs] at h
    cases h
    exact ⟨(List.getElem?_eq_some_iff.mp hs).1, rfl⟩
theorem wsOf_set (g : WG) {m32 n32 : Nat → Nat → Int32} {m64 n64 : Nat → Nat → Int64} {k : Nat} {sh : Sh} (h : shp[k]? = some sh) (h32 : ∀ j, j ≠ k → n32 j = m32 j) (h64 : ∀ j, j ≠ k → n64 j = m64 j) :
    (wsOf g m32 m64).set k (g.2.1 k, ent g n32 n64 k sh) = wsOf g n32 n64 := by
  apply List.ext_getElem?
  intro j
  by_cases hj : j = k
  · subst hj
    have hl : j < (wsOf g m32 m64).length := by
      have := (List.getElem?_eq_some_iff.mp (wsOf_get g m32 m64 h)).1
      exact this
    rw [List.getElem?_set_self hl, wsOf_get g n32 n64 h]
  · rw [List.getElem?_set_ne (Ne.symm hj)]
    simp only [wsOf, List.getElem?_mapIdx]
    cases hs : shp[j]? with
    | none => rfl
    | some s2 =>
      simp only [Option.map_some]
      have : ent g m32 m64 j s2 = ent g n32 n64 j s2 := by
        unfold ent
        rw [h32 j hj, h64 j hj]
      rw [this]
def adOk (g : WG) : Prop := (∀ i j, i < shp.length → j < shp.length → g.2.1 i = g.2.1 j → i = j) ∧ ∀ i, i < shp.length → g.2.2.2 (g.2.1 i)
theorem wsOf_D {g : WG} (h : adOk g) (m32 : Nat → Nat → Int32) (m64 : Nat → Nat → Int64) : va_D g.2.2.2 (wsOf g m32 m64) := by
  refine ⟨fun i j x y hi hj hxy => ?_, fun k q hk => ?_⟩
  · obtain ⟨a1, a2⟩ := wsOf_inv g m32 m64 hi
    obtain ⟨b1, b2⟩ := wsOf_inv g m32 m64 hj
    exact h.1 i j a1 b1 (by rw [← a2, ← b2]; exact hxy)
  · obtain ⟨a1, a2⟩ := wsOf_inv g m32 m64 hk
    rw [a2]; exact h.2 k a1
def MR (m32 : Nat → Nat → Int32) (m64 : Nat → Nat → Int64) (M : Mem) : Prop := ∀ k i, M k i = if isL k i then (m64 k i).toInt else (m32 k i).toInt
def Rp (g : WG) (M : Mem) (H : Heap) : Prop := ∃ m32 m64, MR m32 m64 M ∧ va_P g.1 vwCl (wsOf g m32 m64) H
def MOk (M : Mem) : Prop := ∀ k i, isL k i = false → InR (M k i)
theorem Rp.mok {g : WG} {M : Mem} {H : Heap} (h : Rp g M H) : MOk M := by
  obtain ⟨m32, m64, h1, -⟩ := h
  intro k i hk
  rw [h1 k i, hk]
  exact i32_in _
theorem MR.i {m32 : Nat → Nat → Int32} {m64 : Nat → Nat → Int64} {M : Mem} (h : MR m32 m64 M) {k i : Nat} (hl : isL k i = false) : Int32.ofInt (M k i) = m32 k i := by
  rw [h k i, hl]; simp
theorem MR.l {m32 : Nat → Nat → Int32} {m64 : Nat → Nat → Int64} {M : Mem} (h : MR m32 m64 M) {k i : Nat} (hl : isL k i = true) : Int64.ofInt (M k i) = m64 k i := by
  rw [h k i, hl]; simp
def tyL (g : WG) : List (ClassId × FieldType) := [(g.2.2.1.1, .int), (g.2.2.1.2.1, .boolean), (g.2.2.1.2.2, .object RX0)]
def Kn (g : WG) (U : State) : Prop := va_K g.1 vwCl (tyL g) U ∧ ∀ q ∈ NWl, va_Nw (.methodLinkNest q.1 q.2.1 q.2.2.1 q.2.2.2) U
theorem Kn.warm {g : WG} {s U : State} (hW : s.WarmedH U.vm) (h : Kn g s) : Kn g U := ⟨va_K.moved hW.alike h.1, fun q hq => va_Nw.warmM hW (h.2 q hq)⟩
theorem Kn.call {g : WG} {U : State} {f : JFrame} {mk : MethodId} {a : Array Value} (h : Kn g U) : Kn g (U.calling f mk a) := ⟨va_K.moved (u := U) (U := U.calling f mk a) (Vm.Alike.refl U.vm) h.1, fun q hq => va_Nw.same rfl rfl (h.2 q hq)⟩
/-! locals -/
def LR (ad : Nat → Nat) (nL : Nat) (lsA : Array Slot) (ls : List (Option MV)) : Prop := lsA.size = nL ∧ lv_wf lsA ∧ ls.length ≤ nL ∧ ∀ (i : Nat) (v : MV), ls[i]? = some (some v) → lsA[i]? = some (.val (toV ad v)) ∧ okV v
def lvl (ad : Nat → Nat) : Nat → List (Option MV) → List (Nat × Value)
  | _, [] => []
  | n, none :: r => lvl ad (n + 1) r
  | n, some v :: r => (n, toV ad v) :: lvl ad (n + 1) r
theorem lvl_mem (ad : Nat → Nat) : ∀ (ls : List (Option MV)) (n : Nat) (q : Nat × Value), q ∈ lvl ad n ls ↔ ∃ (i : Nat) (v : MV), ls[i]? = some (some v) ∧ q = (n + i, toV ad v)
  | [], n, q => by simp [lvl]
  | none :: r, n, q => by
    rw [lvl, lvl_mem ad r (n + 1) q]
    constructor
    · rintro ⟨i, v, h1, h2⟩
      exact ⟨i + 1, v, by simpa using h1, by rw [h2]; congr 1; omega⟩
    · rintro ⟨i, v, h1, h2⟩
      cases i with
      | zero => simp at h1
      | succ i => exact ⟨i, v, by simpa using h1, by rw [h2]; congr 1; omega⟩
  | some w :: r, n, q => by
    rw [lvl, List.mem_cons, lvl_mem ad r (n + 1) q]
    constructor
    · rintro (h | ⟨i, v, h1, h2⟩)
      · exact ⟨0, w, by simp, by simpa using h⟩
      · exact ⟨i + 1, v, by simpa using h1, by rw [h2]; congr 1; omega⟩
    · rintro ⟨i, v, h1, h2⟩
      cases i with
      | zero => left; simp at h1; subst h1; simpa using h2
      | succ i => right; exact ⟨i, v, by simpa using h1, by rw [h2]; congr 1; omega⟩
theorem LR.has {ad : Nat → Nat} {nL : Nat} {lsA : Array Slot} {ls : List (Option MV)} (h : LR ad nL lsA ls) : lv_has lsA nL (lvl ad 0 ls) := by
  refine ⟨h.1, h.2.1, fun q hq => ?_⟩
  obtain ⟨i, v, h1, h2⟩ := (lvl_mem ad ls 0 q).mp hq
  rw [h2, Nat.zero_add]
  exact (h.2.2.2 i v h1).1
def noL (ls : List (Option MV)) : Bool := ls.all fun o => match o with
  | some (.inr (.inl _)) => false
  | _ => true
theorem LR.set {ad : Nat → Nat} {nL : Nat} {lsA lsB : Array Slot} {ls : List (Option MV)} {i : Nat} {v : MV} (h : LR ad nL lsA ls) (hn : noL ls = true) (hv : okV v)
    (hB : lv_has lsB nL ((i, toV ad v) :: (lvl ad 0 ls).filter (fun q => !(q.1 == i) && !(q.1 + 1 == i && q.2.category == 2)))) : LR ad nL lsB (ls.set i (some v)) := by
  refine ⟨hB.1, hB.2.1, by rw [List.length_set]; exact h.2.2.1, fun j w hj => ?_⟩
  by_cases hji : j = i
  · subst hji
    have hl : j < ls.length := by
      have := (List.getElem?_eq_some_iff.mp hj).1
      rwa [List.length_set] at this
    rw [List.getElem?_set_self hl] at hj
    cases hj
    exact ⟨hB.2.2 _ List.mem_cons_self, hv⟩
  · rw [List.getElem?_set_ne (Ne.symm hji)] at hj
    refine ⟨hB.2.2 (j, toV ad w) (List.mem_cons_of_mem _ (List.mem_filter.mpr ⟨(lvl_mem ad ls 0 _).mpr ⟨j, w, hj, by simp⟩, ?_⟩)), (h.2.2.2 j w hj).2⟩
    have hw : (toV ad w).category = 1 := by
      have := List.all_eq_true.mp hn (some w) (List.mem_of_getElem? hj)
      rcases w with z | z | k
      · rfl
      · simp at this
      · rfl
    simp [hji, hw]
def initA : List MV → List (Option MV)
  | [] => []
  | .inr (.inl z) :: r => some (ml z) :: none :: initA r
  | .inl z :: r => some (mi z) :: initA r
  | .inr (.inr k) :: r => some (mr k) :: initA r
def initL (nL : Nat) (av : List MV) : List (Option MV) := initA av ++ List.replicate (nL - (initA av).length) none
theorem initA_len (ad : Nat → Nat) : ∀ av : List MV, (lg_sl (av.map (toV ad))).length = (initA av).length
  | [] => rfl
  | .inr (.inl z) :: r => by have := initA_len ad r; simp [initA, lg_sl, toV, Value.category] at this ⊢; omega
  | .inl z :: r => by have := initA_len ad r; simp [initA, lg_sl, toV, Value.category] at this ⊢; omega
  | .inr (.inr k) :: r => by have := initA_len ad r; simp [initA, lg_sl, toV, Value.category] at this ⊢; omega
theorem initA_mem (ad : Nat → Nat) : ∀ (av : List MV) (n i : Nat) (v : MV), (initA av)[i]? = some (some v) → (n + i, toV ad v) ∈ lv_args n (av.map (toV ad)) ∧ v ∈ av
  | [], n, i, v, h => by simp [initA] at h
  | .inr (.inl z) :: r, n, i, v, h => by
    match i, h with
    | 0, h => simp [initA] at h; subst h; exact ⟨by simp [lv_args, toV], List.mem_cons_self⟩
    | 1, h => simp [initA] at h
    | i + 2, h =>
      have h' : (initA r)[i]? = some (some v) := by simpa [initA] using h
      obtain ⟨a, b⟩ := initA_mem ad r (n + 2) i v h'
      refine ⟨?_, List.mem_cons_of_mem _ b⟩
      show (n + (i + 2), toV ad v) ∈ (n, toV ad (.inr (.inl z))) :: lv_args (n + 2) (r.map (toV ad))
      refine List.mem_cons_of_mem _ ?_
      have e : n + (i + 2) = n + 2 + i := by omega
      rw [e]; exact a
  | .inl z :: r, n, i, v, h => by
    match i, h with
    | 0, h => simp [initA] at h; subst h; exact ⟨by simp [lv_args, toV], List.mem_cons_self⟩
    | i + 1, h =>
      have h' : (initA r)[i]? = some (some v) := by simpa [initA] using h
      obtain ⟨a, b⟩ := initA_mem ad r (n + 1) i v h'
      refine ⟨?_, List.mem_cons_of_mem _ b⟩
      show (n + (i + 1), toV ad v) ∈ (n, toV ad (.inl z)) :: lv_args (n + 1) (r.map (toV ad))
      refine List.mem_cons_of_mem _ ?_
      have e : n + (i + 1) = n + 1 + i := by omega
      rw [e]; exact a
  | .inr (.inr k) :: r, n, i, v, h => by
    match i, h with
    | 0, h => simp [initA] at h; subst h; exact ⟨by simp [lv_args, toV], List.mem_cons_self⟩
    | i + 1, h =>
      have h' : (initA r)[i]? = some (some v) := by simpa [initA] using h
      obtain ⟨a, b⟩ := initA_mem ad r (n + 1) i v h'
      refine ⟨?_, List.mem_cons_of_mem _ b⟩
      show (n + (i + 1), toV ad v) ∈ (n, toV ad (.inr (.inr k))) :: lv_args (n + 1) (r.map (toV ad))
      refine List.mem_cons_of_mem _ ?_
      have e : n + (i + 1) = n + 1 + i := by omega
      rw [e]; exact a
theorem initL_LR (ad : Nat → Nat) {nL : Nat} {av : List MV} (h : (initA av).length ≤ nL) (hok : ∀ v ∈ av, okV v) : LR ad nL ((lg_sl (av.map (toV ad)) ++ List.replicate (nL - (lg_sl (av.map (toV ad))).length) Slot.unset).toArray) (initL nL av) := by
  have hl := lv_entry (av.map (toV ad)) (n := nL) (by rw [initA_len]; exact h)
  refine ⟨hl.1, hl.2.1, by simp [initL]; omega, fun i v hi => ?_⟩
  have hi' : (initA av)[i]? = some (some v) := by
    unfold initL at hi
    by_cases hlt : i < (initA av).length
    · rwa [List.getElem?_append_left hlt] at hi
    · rw [List.getElem?_append_right (by omega)] at hi
      have := List.eq_of_mem_replicate (List.mem_of_getElem? hi)
      cases this
  obtain ⟨a, b⟩ := initA_mem ad av 0 i v hi'
  rw [Nat.zero_add] at a
  exact ⟨hl.2.2 _ a, hok v b⟩
