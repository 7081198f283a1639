/-! memory: fields and rows -/
theorem isL_obj {o k d : Nat} {q : Nat × List Nat} (h : shp[o]? = some (.inl q)) (hd : q.2[k]? = some d) : isL o k = (d == 2) := by
  unfold isL
  rw [h]
  simp only [hd]
  rfl
theorem isL_arr {o k : Nat} {x : (Nat × Nat) ⊕ List Nat} (h : shp[o]? = some (.inr x)) : isL o k = false := by
  unfold isL
  rw [h]
theorem obj_set {ad : Nat → Nat} {ds : List Nat} {a a' : Nat → Int32} {b b' : Nat → Int64} {k d : Nat} {v : Value} (hd : ds[k]? = some d) (hv : slotV ad d (a' k) (b' k) = v) (h1 : ∀ i, i ≠ k → a' i = a i) (h2 : ∀ i, i ≠ k → b' i = b i) :
    (ds.mapIdx fun i d => slotV ad d (a i) (b i)).set k v = ds.mapIdx fun i d => slotV ad d (a' i) (b' i) := by
  apply List.ext_getElem?
  intro j
  by_cases hj : j = k
  · subst hj
    rw [List.getElem?_set_self (by rw [List.length_mapIdx]; exact (List.getElem?_eq_some_iff.mp hd).1), List.getElem?_mapIdx, hd, ← hv]
    rfl
  · rw [List.getElem?_set_ne (Ne.symm hj)]
    simp only [List.getElem?_mapIdx]
    rw [h1 j hj, h2 j hj]
def v32 (m : Nat → Nat → Int32) (o k : Nat) (x : Int32) : Nat → Nat → Int32 := fun j => if j = o then (fun i => if i = k then x else m o i) else m j
def v64 (m : Nat → Nat → Int64) (o k : Nat) (x : Int64) : Nat → Nat → Int64 := fun j => if j = o then (fun i => if i = k then x else m o i) else m j
theorem u32_row (m : Nat → Nat → Int32) (o k : Nat) (x : Int32) : v32 m o k x o = upd (m o) k x := by
  funext i; simp [v32, upd]
theorem u32_ne (m : Nat → Nat → Int32) {o j : Nat} (k : Nat) (x : Int32) (h : j ≠ o) : v32 m o k x j = m j := by simp [v32, h]
theorem u64_ne (m : Nat → Nat → Int64) {o j : Nat} (k : Nat) (x : Int64) (h : j ≠ o) : v64 m o k x j = m j := by simp [v64, h]
theorem mup_at (M : Mem) (o k : Nat) (z : Int) (j i : Nat) : mup M o k z j i = if j = o ∧ i = k then z else M j i := by
  unfold mup srow rup
  by_cases hj : j = o
  · subst hj
    by_cases hi : i = k
    · simp [hi]
    · simp [hi]
  · simp [hj]
theorem v32_at (m : Nat → Nat → Int32) (o k : Nat) (x : Int32) (j i : Nat) : v32 m o k x j i = if j = o ∧ i = k then x else m j i := by
  unfold v32
  by_cases hj : j = o
  · subst hj
    by_cases hi : i = k
    · simp [hi]
    · simp [hi]
  · simp [hj]
theorem v64_at (m : Nat → Nat → Int64) (o k : Nat) (x : Int64) (j i : Nat) : v64 m o k x j i = if j = o ∧ i = k then x else m j i := by
  unfold v64
  by_cases hj : j = o
  · subst hj
    by_cases hi : i = k
    · simp [hi]
    · simp [hi]
  · simp [hj]
theorem MR.u32 {m32 : Nat → Nat → Int32} {m64 : Nat → Nat → Int64} {M : Mem} (h : MR m32 m64 M) {o k : Nat} {z : Int} (hz : InR z) (hl : isL o k = false) : MR (v32 m32 o k (Int32.ofInt z)) m64 (mup M o k z) := by
  intro j i
  rw [mup_at, v32_at]
  by_cases hc : j = o ∧ i = k
  · rw [if_pos hc, if_pos hc, hc.1, hc.2, hl, i32_of hz]; rfl
  · rw [if_neg hc, if_neg hc]; exact h j i
theorem MR.u64 {m32 : Nat → Nat → Int32} {m64 : Nat → Nat → Int64} {M : Mem} (h : MR m32 m64 M) {o k : Nat} {z : Int} (hz : InL z) (hl : isL o k = true) : MR m32 (v64 m64 o k (Int64.ofInt z)) (mup M o k z) := by
  intro j i
  rw [mup_at, v64_at]
  by_cases hc : j = o ∧ i = k
  · rw [if_pos hc, if_pos hc, hc.1, hc.2, hl, i64_of hz]; rfl
  · rw [if_neg hc, if_neg hc]; exact h j i
theorem i32_ofNat {n : Nat} (h : n < 2147483648) : Int32.ofNat n = Int32.ofInt (n : Int) := by
  rw [← Int32.toInt_inj, i32_of ⟨by omega, by omega⟩]
  exact nI_toInt (by omega)
section SND3
variable {own : String} {cc : ByteArray} {nL fr lo : Nat} {ret : Option FieldType} {sx : Option (Nat × (Nat → Int))} {pcs : List Nat} {ip : Nat}
theorem s_get {ci k index N : Nat} {C : String} {T : u_T} (hc : vwCl[ci]? = some (C, T, N)) (hin : ∀ w ∈ u_ws C T N, w ∈ TB) (hk : k < N) (hw : Cond.fieldLink own index (T k).1 (T k).2.1 (T k).2.2.1 ∈ TB)
    (hd : decode cc (pcs.getD ip 0) = .ok (.getfield index, 3)) (hn : pcs.getD (ip + 1) 0 = pcs.getD ip 0 + 3) : Snd own cc nL fr lo ret sx pcs ip (I_get ci k) := by
  intro p l e R s m args below meth c Q nC nS g Ret hC hRm hSx hHR ls st M h H locs lsA hR hS hL hok
  obtain ⟨o, r, q, d, rfl, hsh, hq, hqd, h⟩ := h
  obtain ⟨hx, hb, -, hown, hts, hKn, hA⟩ := hC
  subst hq
  obtain ⟨m32, m64, hM, hP⟩ := id hR
  have hmok := hR.mok
  have hv : (q.2.mapIdx fun i d => slotV g.2.1 d (m32 o i) (m64 o i))[k]? = some (slotV g.2.1 d (m32 o k) (m64 o k)) := by
    rw [List.getElem?_mapIdx, hqd]; rfl
  have hl := isL_obj hsh hqd
  refine va_get (ref := (T k).1) hx hb hts hin hown hKn.1 hP o (wsOf_get g m32 m64 hsh) hc k hk (hts _ hw) (fun _ h => h) hv hd ?_
  match d, hl, h with
  | 0, hl, h =>
    have h' := h H locs lsA hR hS hL (ok_c (hmok o k hl) (ok_t hok))
    rw [hn] at h'
    show W p l e R s m args below meth c H locs nC nS Q (F0 m _ lsA (Value.int (m32 o k) :: _))
    rw [← hM.i hl]
    exact h'
  | 1, hl, h =>
    have h' := h H locs lsA hR hS hL (ok_c (hmok o k hl) (ok_t hok))
    rw [hn] at h'
    show W p l e R s m args below meth c H locs nC nS Q (F0 m _ lsA (Value.int (m32 o k) :: _))
    rw [← hM.i hl]
    exact h'
  | 2, hl, h =>
    have hI : InL (M o k) := by rw [hM o k, hl]; exact i64_in _
    have h' := h H locs lsA hR hS hL (ok_c hI (ok_t hok))
    rw [hn] at h'
    show W p l e R s m args below meth c H locs nC nS Q (F0 m _ lsA (Value.long (m64 o k) :: _))
    rw [← hM.l hl]
    exact h'
  | n + 3, hl, h =>
    have h' := h H locs lsA hR hS hL (ok_c (v := mr n) trivial (ok_t hok))
    rw [hn] at h'
    exact h'
theorem s_puti {ci k index N : Nat} {C : String} {T : u_T} {tyf : Nat → FieldType} (hc : vwCl[ci]? = some (C, T, N)) (hin : ∀ w ∈ u_ws C T N, w ∈ TB) (hty : ∀ k, k < N → parseFieldDescriptor (T k).2.2.1 = some (tyf k)) (hnm : ∀ a, a < N → ∀ b, b < N → a ≠ b → (T a).2.1 ≠ (T b).2.1) (hk : k < N) (hfin : (T k).2.2.2 = false) (htk : tyf k = .int) (hw : Cond.fieldLink own index (T k).1 (T k).2.1 (T k).2.2.1 ∈ TB)
    (hd : decode cc (pcs.getD ip 0) = .ok (.putfield index, 3)) (hn : pcs.getD (ip + 1) 0 = pcs.getD ip 0 + 3) : Snd own cc nL fr lo ret sx pcs ip (I_puti ci k) := by
  intro p l e R s m args below meth c Q nC nS g Ret hC hRm hSx hHR ls st M h H locs lsA hR hS hL hok
  obtain ⟨o, r, q, z, rfl, hsh, hq, hqd, h⟩ := h
  obtain ⟨hx, hb, -, hown, hts, hKn, hA⟩ := hC
  subst hq
  obtain ⟨m32, m64, hM, hP⟩ := id hR
  have hz : InR z := ok_h hok
  have hl := isL_obj hsh hqd
  refine va_put (ref := (T k).1) (ty := .int) hx hb hts hin tyf hty hnm hown hKn.1 hP (wsOf_D hA m32 m64) hS o (wsOf_get g m32 m64 hsh) hc k hk (hts _ hw) (fun _ h => h) hfin (by rw [hty k hk, htk]) rfl rfl (by rw [List.length_mapIdx]; exact (List.getElem?_eq_some_iff.mp hqd).1) hd fun H1 locs1 hP1 _ hS1 => ?_
  rw [obj_set (a' := v32 m32 o k (Int32.ofInt z) o) (b' := m64 o) hqd (by simp [slotV, v32]; rfl) (fun i hi => by simp [v32, hi]) (fun _ _ => rfl)] at hP1
  have e := wsOf_set g (m32 := m32) (n32 := v32 m32 o k (Int32.ofInt z)) (m64 := m64) (n64 := m64) hsh (fun j hj => u32_ne _ _ _ hj) (fun _ _ => rfl)
  have hP2 : va_P g.1 vwCl ((wsOf g m32 m64).set o (g.2.1 o, ent g (v32 m32 o k (Int32.ofInt z)) m64 o (.inl q))) H1 := hP1
  rw [e] at hP2
  have h' := h H1 locs1 lsA ⟨_, _, hM.u32 hz hl, hP2⟩ hS1 hL (ok_t (ok_t hok))
  rw [hn] at h'
  exact h'
theorem bool_nar {z : Int} (h : z = 0 ∨ z = 1) : narrow .boolean (.int (Int32.ofInt z)) = .int (Int32.ofInt z) ∧ fits .boolean (.int (Int32.ofInt z)) = true ∧ vp_nar .boolean (Int32.ofInt z) = Int32.ofInt z := by
  rcases h with rfl | rfl
  · exact ⟨rfl, rfl, rfl⟩
  · exact ⟨rfl, rfl, rfl⟩
theorem s_putz {ci k index N : Nat} {C : String} {T : u_T} {tyf : Nat → FieldType} (hc : vwCl[ci]? = some (C, T, N)) (hin : ∀ w ∈ u_ws C T N, w ∈ TB) (hty : ∀ k, k < N → parseFieldDescriptor (T k).2.2.1 = some (tyf k)) (hnm : ∀ a, a < N → ∀ b, b < N → a ≠ b → (T a).2.1 ≠ (T b).2.1) (hk : k < N) (hfin : (T k).2.2.2 = false) (htk : tyf k = .boolean) (hw : Cond.fieldLink own index (T k).1 (T k).2.1 (T k).2.2.1 ∈ TB)
    (hd : decode cc (pcs.getD ip 0) = .ok (.putfield index, 3)) (hn : pcs.getD (ip + 1) 0 = pcs.getD ip 0 + 3) : Snd own cc nL fr lo ret sx pcs ip (I_putz ci k) := by
  intro p l e R s m args below meth c Q nC nS g Ret hC hRm hSx hHR ls st M h H locs lsA hR hS hL hok
  obtain ⟨o, r, q, z, rfl, hsh, hq, hqd, hz01, h⟩ := h
  obtain ⟨hx, hb, -, hown, hts, hKn, hA⟩ := hC
  subst hq
  obtain ⟨m32, m64, hM, hP⟩ := id hR
  have hz : InR z := ok_h hok
  have hl := isL_obj hsh hqd
  have hbn := bool_nar hz01
  refine va_put (ref := (T k).1) (ty := .boolean) hx hb hts hin tyf hty hnm hown hKn.1 hP (wsOf_D hA m32 m64) hS o (wsOf_get g m32 m64 hsh) hc k hk (hts _ hw) (fun _ h => h) hfin (by rw [hty k hk, htk]) hbn.1 hbn.2.1 (by rw [List.length_mapIdx]; exact (List.getElem?_eq_some_iff.mp hqd).1) hd fun H1 locs1 hP1 _ hS1 => ?_
  rw [obj_set (a' := v32 m32 o k (Int32.ofInt z) o) (b' := m64 o) hqd (by simp [slotV, v32]; rfl) (fun i hi => by simp [v32, hi]) (fun _ _ => rfl)] at hP1
  have e := wsOf_set g (m32 := m32) (n32 := v32 m32 o k (Int32.ofInt z)) (m64 := m64) (n64 := m64) hsh (fun j hj => u32_ne _ _ _ hj) (fun _ _ => rfl)
  have hP2 : va_P g.1 vwCl ((wsOf g m32 m64).set o (g.2.1 o, ent g (v32 m32 o k (Int32.ofInt z)) m64 o (.inl q))) H1 := hP1
  rw [e] at hP2
  have h' := h H1 locs1 lsA ⟨_, _, hM.u32 hz hl, hP2⟩ hS1 hL (ok_t (ok_t hok))
  rw [hn] at h'
  exact h'
theorem s_putl {ci k index N : Nat} {C : String} {T : u_T} {tyf : Nat → FieldType} (hc : vwCl[ci]? = some (C, T, N)) (hin : ∀ w ∈ u_ws C T N, w ∈ TB) (hty : ∀ k, k < N → parseFieldDescriptor (T k).2.2.1 = some (tyf k)) (hnm : ∀ a, a < N → ∀ b, b < N → a ≠ b → (T a).2.1 ≠ (T b).2.1) (hk : k < N) (hfin : (T k).2.2.2 = false) (htk : tyf k = .long) (hw : Cond.fieldLink own index (T k).1 (T k).2.1 (T k).2.2.1 ∈ TB)
    (hd : decode cc (pcs.getD ip 0) = .ok (.putfield index, 3)) (hn : pcs.getD (ip + 1) 0 = pcs.getD ip 0 + 3) : Snd own cc nL fr lo ret sx pcs ip (I_putl ci k) := by
  intro p l e R s m args below meth c Q nC nS g Ret hC hRm hSx hHR ls st M h H locs lsA hR hS hL hok
  obtain ⟨o, r, q, z, rfl, hsh, hq, hqd, h⟩ := h
  obtain ⟨hx, hb, -, hown, hts, hKn, hA⟩ := hC
  subst hq
  obtain ⟨m32, m64, hM, hP⟩ := id hR
  have hz : InL z := ok_h hok
  have hl := isL_obj hsh hqd
  refine va_put (ref := (T k).1) (ty := .long) hx hb hts hin tyf hty hnm hown hKn.1 hP (wsOf_D hA m32 m64) hS o (wsOf_get g m32 m64 hsh) hc k hk (hts _ hw) (fun _ h => h) hfin (by rw [hty k hk, htk]) rfl rfl (by rw [List.length_mapIdx]; exact (List.getElem?_eq_some_iff.mp hqd).1) hd fun H1 locs1 hP1 _ hS1 => ?_
  rw [obj_set (a' := m32 o) (b' := v64 m64 o k (Int64.ofInt z) o) hqd (by simp [slotV, v64]; rfl) (fun _ _ => rfl) (fun i hi => by simp [v64, hi])] at hP1
  have e := wsOf_set g (m32 := m32) (n32 := m32) (m64 := m64) (n64 := v64 m64 o k (Int64.ofInt z)) hsh (fun _ _ => rfl) (fun j hj => u64_ne _ _ _ hj)
  have hP2 : va_P g.1 vwCl ((wsOf g m32 m64).set o (g.2.1 o, ent g m32 (v64 m64 o k (Int64.ofInt z)) o (.inl q))) H1 := hP1
  rw [e] at hP2
  have h' := h H1 locs1 lsA ⟨_, _, hM.u64 hz hl, hP2⟩ hS1 hL (ok_t (ok_t hok))
  rw [hn] at h'
  exact h'
theorem s_iald (hd : decode cc (pcs.getD ip 0) = .ok (.iaload, 1)) (hn : pcs.getD (ip + 1) 0 = pcs.getD ip 0 + 1) : Snd own cc nL fr lo ret sx pcs ip I_iald := by
  intro p l e R s m args below meth c Q nC nS g Ret hC hRm hSx hHR ls st M h H locs lsA hR hS hL hok
  obtain ⟨i, o, r, n, rfl, hsh, h0, h1, h⟩ := h
  obtain ⟨hx, hb, -, hown, hts, hKn, hA⟩ := hC
  obtain ⟨m32, m64, hM, hP⟩ := id hR
  have hl := isL_arr (k := i.toNat) hsh
  have hi : InR i := ok_h hok
  have h' := h H locs lsA hR hS hL (ok_c (hR.mok o i.toNat hl) (ok_t (ok_t hok)))
  rw [hn] at h'
  refine va_iald hx hb hKn.1 hP o 0 (wsOf_get g m32 m64 hsh) rfl (i32_vpin hi h0 h1) hd ?_
  rw [i32_nat hi, ← hM.i hl]
  exact h'
theorem s_zald (hd : decode cc (pcs.getD ip 0) = .ok (.baload, 1)) (hn : pcs.getD (ip + 1) 0 = pcs.getD ip 0 + 1) : Snd own cc nL fr lo ret sx pcs ip I_zald := by
  intro p l e R s m args below meth c Q nC nS g Ret hC hRm hSx hHR ls st M h H locs lsA hR hS hL hok
  obtain ⟨i, o, r, n, rfl, hsh, h0, h1, h⟩ := h
  obtain ⟨hx, hb, -, hown, hts, hKn, hA⟩ := hC
  obtain ⟨m32, m64, hM, hP⟩ := id hR
  have hl := isL_arr (k := i.toNat) hsh
  have hi : InR i := ok_h hok
  have h' := h H locs lsA hR hS hL (ok_c (hR.mok o i.toNat hl) (ok_t (ok_t hok)))
  rw [hn] at h'
  refine va_zald hx hb hKn.1 hP o 1 (wsOf_get g m32 m64 hsh) rfl (i32_vpin hi h0 h1) hd ?_
  rw [i32_nat hi, ← hM.i hl]
  exact h'
theorem s_iast (hd : decode cc (pcs.getD ip 0) = .ok (.iastore, 1)) (hn : pcs.getD (ip + 1) 0 = pcs.getD ip 0 + 1) : Snd own cc nL fr lo ret sx pcs ip I_iast := by
  intro p l e R s m args below meth c Q nC nS g Ret hC hRm hSx hHR ls st M h H locs lsA hR hS hL hok
  obtain ⟨z, i, o, r, n, rfl, hsh, h0, h1, h⟩ := h
  obtain ⟨hx, hb, -, hown, hts, hKn, hA⟩ := hC
  obtain ⟨m32, m64, hM, hP⟩ := id hR
  have hl := isL_arr (k := i.toNat) hsh
  have hz : InR z := ok_h hok
  have hi : InR i := ok_h (ok_t hok)
  refine va_iast hx hb hKn.1 hP (wsOf_D hA m32 m64) hS o 0 (wsOf_get g m32 m64 hsh) rfl (i32_vpin hi h0 h1) hd fun H1 locs1 hP1 _ hS1 => ?_
  rw [i32_nat hi, ← u32_row] at hP1
  have e := wsOf_set g (m32 := m32) (n32 := v32 m32 o i.toNat (Int32.ofInt z)) (m64 := m64) (n64 := m64) hsh (fun j hj => u32_ne _ _ _ hj) (fun _ _ => rfl)
  have hP2 : va_P g.1 vwCl ((wsOf g m32 m64).set o (g.2.1 o, ent g (v32 m32 o i.toNat (Int32.ofInt z)) m64 o (.inr (.inl (0, n))))) H1 := hP1
  rw [e] at hP2
  have h' := h H1 locs1 lsA ⟨_, _, hM.u32 hz hl, hP2⟩ hS1 hL (ok_t (ok_t (ok_t hok)))
  rw [hn] at h'
  exact h'
theorem s_zast (hd : decode cc (pcs.getD ip 0) = .ok (.bastore, 1)) (hn : pcs.getD (ip + 1) 0 = pcs.getD ip 0 + 1) : Snd own cc nL fr lo ret sx pcs ip I_zast := by
  intro p l e R s m args below meth c Q nC nS g Ret hC hRm hSx hHR ls st M h H locs lsA hR hS hL hok
  obtain ⟨z, i, o, r, n, rfl, hsh, h0, h1, hz01, h⟩ := h
  obtain ⟨hx, hb, -, hown, hts, hKn, hA⟩ := hC
  obtain ⟨m32, m64, hM, hP⟩ := id hR
  have hl := isL_arr (k := i.toNat) hsh
  have hz : InR z := ok_h hok
  have hi : InR i := ok_h (ok_t hok)
  refine va_zast hx hb hKn.1 hP (wsOf_D hA m32 m64) hS o 1 (wsOf_get g m32 m64 hsh) rfl (i32_vpin hi h0 h1) hd fun H1 locs1 hP1 _ hS1 => ?_
  rw [i32_nat hi, (bool_nar hz01).2.2, ← u32_row] at hP1
  have e := wsOf_set g (m32 := m32) (n32 := v32 m32 o i.toNat (Int32.ofInt z)) (m64 := m64) (n64 := m64) hsh (fun j hj => u32_ne _ _ _ hj) (fun _ _ => rfl)
  have hP2 : va_P g.1 vwCl ((wsOf g m32 m64).set o (g.2.1 o, ent g (v32 m32 o i.toNat (Int32.ofInt z)) m64 o (.inr (.inl (1, n))))) H1 := hP1
  rw [e] at hP2
  have h' := h H1 locs1 lsA ⟨_, _, hM.u32 hz hl, hP2⟩ hS1 hL (ok_t (ok_t (ok_t hok)))
  rw [hn] at h'
  exact h'
theorem s_aald (hd : decode cc (pcs.getD ip 0) = .ok (.aaload, 1)) (hn : pcs.getD (ip + 1) 0 = pcs.getD ip 0 + 1) : Snd own cc nL fr lo ret sx pcs ip I_aald := by
  intro p l e R s m args below meth c Q nC nS g Ret hC hRm hSx hHR ls st M h H locs lsA hR hS hL hok
  obtain ⟨i, o, r, rs, rfl, hsh, h0, h1, h⟩ := h
  obtain ⟨hx, hb, -, hown, hts, hKn, hA⟩ := hC
  obtain ⟨m32, m64, hM, hP⟩ := id hR
  have hi : InR i := ok_h hok
  have hj : i.toNat < rs.length := by omega
  have e1 : rs[i.toNat]? = some rs[i.toNat] := List.getElem?_eq_getElem hj
  have h' := h i.toNat _ e1 (by omega) H locs lsA hR hS hL (ok_c (v := mr _) trivial (ok_t (ok_t hok)))
  rw [hn] at h'
  refine va_aldq (C := RX0) hx hb hKn.1 hP o 2 (wsOf_get g m32 m64 hsh) rfl (i32_vpin hi h0 h1) hd ?_
  rw [i32_nat hi, e1]
  exact h'
theorem s_alen (hd : decode cc (pcs.getD ip 0) = .ok (.arraylength, 1)) (hn : pcs.getD (ip + 1) 0 = pcs.getD ip 0 + 1) : Snd own cc nL fr lo ret sx pcs ip I_alen := by
  intro p l e R s m args below meth c Q nC nS g Ret hC hRm hSx hHR ls st M h H locs lsA hR hS hL hok
  obtain ⟨o, r, n, rfl, hsh, h0, h⟩ := h
  obtain ⟨hx, hb, -, hown, hts, hKn, hA⟩ := hC
  obtain ⟨m32, m64, hM, hP⟩ := id hR
  have h' := h H locs lsA hR hS hL (ok_c (show InR (n : Int) from ⟨by omega, by omega⟩) (ok_t hok))
  rw [hn] at h'
  exact va_alen hx hb hKn.1 hP o 0 (wsOf_get g m32 m64 hsh) rfl (v := Int32.ofInt (n : Int)) (i32_ofNat h0) hd h'
theorem s_siald {L : Nat} {xs : Nat → Int} (hs : sx = some (L, xs)) (hd : decode cc (pcs.getD ip 0) = .ok (.iaload, 1)) (hn : pcs.getD (ip + 1) 0 = pcs.getD ip 0 + 1) : Snd own cc nL fr lo ret sx pcs ip (I_siald L xs) := by
  intro p l e R s m args below meth c Q nC nS g Ret hC hRm hSx hHR ls st M h H locs lsA hR hS hL hok
  obtain ⟨i, r, rfl, h0, h1, h⟩ := h
  obtain ⟨hx, hb, -, hown, hts, hKn, hA⟩ := hC
  obtain ⟨x32, hX, hxs, hlt, hnA⟩ := hSx L xs hs
  have hi : InR i := ok_h hok
  have h' := h H locs lsA hR hS hL (ok_c (show InR (xs i.toNat) by rw [← hxs]; exact i32_in _) (ok_t (ok_t hok)))
  rw [hn] at h'
  refine va_sld hx hb hX hlt hnA hS (i32_vpin hi h0 h1) hd ?_
  rw [i32_nat hi]
  have e : x32 i.toNat = Int32.ofInt (xs i.toNat) := by rw [← hxs]; simp
  rw [e]
  exact h'
theorem s_slen {L : Nat} {xs : Nat → Int} (hs : sx = some (L, xs)) (hd : decode cc (pcs.getD ip 0) = .ok (.arraylength, 1)) (hn : pcs.getD (ip + 1) 0 = pcs.getD ip 0 + 1) : Snd own cc nL fr lo ret sx pcs ip (I_slen L) := by
  intro p l e R s m args below meth c Q nC nS g Ret hC hRm hSx hHR ls st M h H locs lsA hR hS hL hok
  obtain ⟨r, rfl, h0, h⟩ := h
  obtain ⟨hx, hb, -, hown, hts, hKn, hA⟩ := hC
  obtain ⟨x32, hX, hxs, hlt, hnA⟩ := hSx L xs hs
  have h' := h H locs lsA hR hS hL (ok_c (show InR (L : Int) from ⟨by omega, by omega⟩) (ok_t hok))
  rw [hn] at h'
  refine va_slen hx hb hX hlt hnA hS hd ?_
  have e : Int32.ofNat L = Int32.ofInt (L : Int) := i32_ofNat h0
  rw [e]
  exact h'
end SND3
