/-! THE REFERENCE: it puts THE TEXT into CELLS -/
def adY (M : Mem) (c : Int) : Mem := mup (mup M 78 (M 73 7).toNat c) 73 7 (M 73 7 + 1)
def FW (M N : Mem) : Prop := (∀ k, ¬ k = 73 → ¬ k = 78 → ¬ k = 79 → ¬ k = 80 → N k = M k) ∧ ∀ f, ¬ f = 7 → N 73 f = M 73 f
theorem FW.refl (M : Mem) : FW M M := ⟨fun _ _ _ _ _ => rfl, fun _ _ => rfl⟩
theorem FW.trans {M N P : Mem} (h : FW M N) (h2 : FW N P) : FW M P := ⟨fun k a b c d => (h2.1 k a b c d).trans (h.1 k a b c d), fun f hf => (h2.2 f hf).trans (h.2 f hf)⟩
theorem FW.yv {M N : Mem} (h : FW M N) : YV N = YV M := by unfold YV; rw [h.1 74 (by omega) (by omega) (by omega) (by omega)]
theorem YR.fw {s : St} {M N : Mem} (h : YR s M) (hf : FW M N) : YR s N := h.same (fun k hk => hf.1 k (by omega) (by omega) (by omega) (by omega)) (hf.2 2 (by omega)) (hf.2 16 (by omega))
/-- the cells of D come behind those that are there -/
def ApC (D : List Ev) (M N : Mem) : Prop := N 73 7 = M 73 7 + D.length ∧ (∀ j : Nat, (j : Int) < M 73 7 → N 78 j = M 78 j) ∧ (∀ j : Nat, j < D.length → N 78 ((M 73 7).toNat + j) = (D.map fun e => e.1).getD j 0) ∧ (∀ f, ¬ f = 7 → N 73 f = M 73 f) ∧ ∀ k, ¬ k = 73 → ¬ k = 78 → N k = M k
theorem ApC.fw {D : List Ev} {M N : Mem} (h : ApC D M N) : FW M N := ⟨fun k a b _ _ => h.2.2.2.2 k a b, h.2.2.2.1⟩
theorem ApC_nil (M : Mem) : ApC [] M M := ⟨by simp, fun _ _ => rfl, fun j h => by simp at h, fun _ _ => rfl, fun _ _ _ => rfl⟩
theorem ApC_cell {M : Mem} (h0 : 0 ≤ M 73 7) (e : Ev) : ApC [e] M (adY M e.1) := by
  refine ⟨by simp [adY, mup_at], fun j hj => ?_, fun j hj => ?_, fun f hf => by simp [adY, mup_at, hf], fun k a b => ?_⟩
  · have : ¬ j = (M 73 7).toNat := by omega
    simp [adY, mup_at, this]
  · have : j = 0 := by simpa using hj
    subst this
    simp [adY, mup_at]
  · funext j; simp [adY, mup_at, a, b]
theorem ApC.trans {A B : List Ev} {M N P : Mem} (h : ApC A M N) (h2 : ApC B N P) (h0 : 0 ≤ M 73 7) : ApC (A ++ B) M P := by
  obtain ⟨a1, a2, a3, a4, a5⟩ := h
  obtain ⟨b1, b2, b3, b4, b5⟩ := h2
  refine ⟨by rw [b1, a1, List.length_append]; omega, fun j hj => by rw [b2 j (by omega), a2 j hj], fun j hj => ?_, fun f hf => by rw [b4 f hf, a4 f hf], fun k p q => by rw [b5 k p q, a5 k p q]⟩
  rw [List.map_append]
  rw [List.length_append] at hj
  by_cases q : j < A.length
  · rw [b2 _ (by omega), a3 j q, List.getD_eq_getElem?_getD, List.getD_eq_getElem?_getD, List.getElem?_append_left (by simpa using q)]
  · have e : (M 73 7).toNat + j = (N 73 7).toNat + (j - A.length) := by omega
    rw [e, b3 _ (by omega), List.getD_eq_getElem?_getD, List.getD_eq_getElem?_getD, List.getElem?_append_right (by simpa using q)]
    simp
/-- what the reference's rows say when D is written -/
def WY (D : List Ev) (N : Mem) : Prop := N 73 7 = D.length ∧ (∀ j : Nat, j < D.length → N 78 j = (D.map fun e => e.1).getD j 0) ∧ (∀ k : Nat, k < 12 → N 79 k = cntE D k ∧ N 80 k = fstE D k) ∧ ∀ e ∈ D, 0 ≤ e.2.2.1
theorem cntE_z {D : List Ev} {k : Int} (h : cntE D k = 0) : ∀ e ∈ D, ¬ e.2.1 = k := by
  intro e he hk2
  have : e ∈ D.filter (fun e => e.2.1 == k) := List.mem_filter.mpr ⟨he, by simpa using hk2⟩
  have := List.length_pos_of_mem this
  unfold cntE at h; omega
theorem fstE_z {D : List Ev} {k : Int} (h : cntE D k = 0) : fstE D k = -1 := fstE_none (cntE_z h)
theorem fstE_neg {D : List Ev} (h : ∀ e ∈ D, 0 ≤ e.2.2.1) (k : Int) : fstE D k < 0 ↔ cntE D k = 0 := by
  constructor
  · intro q
    unfold fstE at q
    cases hf : D.find? (fun e => e.2.1 == k) with
    | none =>
      refine cntE_none fun e he hk => ?_
      have := List.find?_eq_none.mp hf e he
      exact this (by simpa using hk)
    | some e =>
      rw [hf] at q
      have := h e (List.mem_of_find?_eq_some hf)
      exact absurd (show e.2.2.1 < 0 from q) (by omega)
  · intro q; rw [fstE_z q]; omega
theorem getD_app {A B : List Ev} {j : Nat} (h : j < (A ++ B).length) : ((A ++ B).map fun e => e.1).getD j 0 = if j < A.length then (A.map fun e => e.1).getD j 0 else (B.map fun e => e.1).getD (j - A.length) 0 := by
  rw [List.map_append]
  by_cases q : j < A.length
  · rw [if_pos q, List.getD_eq_getElem?_getD, List.getD_eq_getElem?_getD, List.getElem?_append_left (by simpa using q)]
  · rw [if_neg q, List.getD_eq_getElem?_getD, List.getD_eq_getElem?_getD, List.getElem?_append_right (by simp; omega)]
    simp
theorem WY.app {D E : List Ev} {M N : Mem} (h : WY D M) (h2 : ApC E M N) (hE : ∀ e ∈ E, e.2.1 = -1 ∧ 0 ≤ e.2.2.1) : WY (D ++ E) N := by
  obtain ⟨a1, a2, a3, a4⟩ := h
  obtain ⟨b1, b2, b3, b4, b5⟩ := h2
  refine ⟨by rw [b1, a1, List.length_append]; omega, fun j hj => ?_, fun k hk => ?_, fun e he => ?_⟩
  · rw [getD_app hj]
    rw [List.length_append] at hj
    by_cases q : j < D.length
    · rw [if_pos q, b2 _ (by omega), a2 j q]
    · rw [if_neg q, ← b3 _ (by omega)]
      congr 1; omega
  · have z : cntE E (k : Int) = 0 := cntE_none fun e he => by rw [(hE e he).1]; omega
    rw [b5 79 (by omega) (by omega), b5 80 (by omega) (by omega), (a3 k hk).1, (a3 k hk).2, cntE_app, fstE_app, z]
    refine ⟨by omega, ?_⟩
    by_cases q : cntE D k = 0
    · rw [if_pos q, fstE_z q, fstE_z z]
    · rw [if_neg q]
  · rcases List.mem_append.mp he with q | q
    · exact a4 e q
    · exact (hE e q).2
theorem WY.rule {D : List Ev} {M N : Mem} (h : WY D M) {k : Nat} (_hk : k < 12) {i c : Int} (i0 : 0 ≤ i) (e1 : N 73 7 = M 73 7 + 1) (e2 : ∀ j : Nat, N 78 j = if j = (M 73 7).toNat then c else M 78 j) (e3 : ∀ j : Nat, N 79 j = if j = k then M 79 k + 1 else M 79 j) (e4 : ∀ j : Nat, N 80 j = if j = k then (if M 80 k < 0 then i else M 80 k) else M 80 j) : WY (D ++ [(c, (k : Int), i, 1)]) N := by
  obtain ⟨a1, a2, a3, a4⟩ := h
  refine ⟨by rw [e1, a1]; simp, fun j hj => ?_, fun q hq => ?_, fun e he => ?_⟩
  · rw [getD_app hj, e2]
    have hj2 : j < D.length + 1 := by simpa using hj
    by_cases q : j < D.length
    · rw [if_pos q, if_neg (by omega), a2 j q]
    · rw [if_neg q, if_pos (by omega), show j - D.length = 0 by omega]; rfl
  · rw [cntE_app, fstE_app, e3, e4]
    by_cases z : q = k
    · subst z
      have z1 : cntE [(c, (q : Int), i, (1 : Int))] (q : Int) = 1 := by rw [cntE_1]; exact if_pos rfl
      have z2 : fstE [(c, (q : Int), i, (1 : Int))] (q : Int) = i := by rw [fstE_1]; exact if_pos rfl
      have hn := fstE_neg a4 (q : Int)
      rw [z1, z2, if_pos rfl, if_pos rfl, (a3 q hq).1, (a3 q hq).2]
      refine ⟨rfl, ?_⟩
      by_cases y : cntE D q = 0
      · rw [if_pos y, if_pos (hn.mpr y)]
      · rw [if_neg y, if_neg (fun p => y (hn.mp p))]
    · have z1 : cntE [(c, (k : Int), i, (1 : Int))] (q : Int) = 0 := by rw [cntE_1]; exact if_neg (by show ¬ (k : Int) = q; omega)
      rw [z1, if_neg z, if_neg z, (a3 q hq).1, (a3 q hq).2]
      refine ⟨by omega, ?_⟩
      by_cases y : cntE D q = 0
      · rw [if_pos y, fstE_z y, fstE_z z1]
      · rw [if_neg y]
  · rcases List.mem_append.mp he with q | q
    · exact a4 e q
    · rw [List.mem_singleton.mp q]; exact i0
theorem WY.nn {D : List Ev} {M : Mem} (h : WY D M) : 0 ≤ M 73 7 := by rw [h.1]; omega
theorem sv_0 {V : BV} {w a b : Int} {g : Bool} {i : Int} (h : smV V g i = 0) : sv V w a b g i = -1 := by
  have q : ∀ L : Int, cdF (smV V g) L.toNat i 0 = -1 → rA V w a b g i L = -1 := by
    intro L hc
    unfold rA
    by_cases z : b < i + L
    · rw [if_pos z]
    · rw [if_neg z, if_pos hc]
  have q2 := q 2 (by show cdF _ 2 i 0 = -1; rw [cd2, if_pos h])
  have q3 := q 3 (by show cdF _ 3 i 0 = -1; rw [cd3, if_pos h])
  have q4 := q 4 (by show cdF _ 4 i 0 = -1; rw [cd4, if_pos h])
  unfold sv
  rw [if_neg (by omega), if_neg (by omega), q2]
theorem wnt_in {V : BV} {a b : Int} {g : Bool} (hw : Wd V a b g) {i : Int} (i0 : a < i) (i1 : i < b) : ¬ wnt V i := by
  rintro ⟨_, _, z⟩
  have := hw.2.2.2.1 (i - 1) (by omega) (by omega)
  simp only [isBh, isFg, isPC, isLt, isSm, isCp] at *
  omega
theorem alC_Wd {V : BV} {a b : Int} (h0 : 0 ≤ a) (h1 : a < b) (h2 : b ≤ vN V) (h3 : ∀ j, a ≤ j → j < b → isLt (vS V j)) : Wd V a b (alC V a b) := ⟨h0, h1, h2, h3, fun z => ((alC_iff V a b).mp z).2⟩
theorem smV_z {V : BV} {a b : Int} {g : Bool} (hw : Wd V a b g) {i : Int} (i0 : a ≤ i) (i1 : i < b) : smV V g i = 0 ↔ isCp (vS V i) ∧ ¬ g = true := by
  have hl := hw.2.2.2.1 i i0 i1
  have hr := ltN_rng hl
  unfold smV
  by_cases q : g = true ∨ isSm (vS V i)
  · rw [if_pos q]
    constructor
    · intro z; omega
    · rintro ⟨z1, z2⟩
      rcases q with q | q
      · exact absurd q z2
      · simp only [isSm, isCp] at *; omega
  · rw [if_neg q]
    refine ⟨fun _ => ⟨?_, fun z => q (Or.inl z)⟩, fun _ => rfl⟩
    rcases hl with z | z
    · exact absurd (Or.inr z) q
    · exact z
theorem hdE_y {V : BV} {a b : Int} : hdE V a b = (if alC V a b = true then [(60, -1, a, 0), (60, -1, a, 0)] else []) ++ (if wnt V a then [(62, -1, a, 0)] else []) := by
  unfold hdE
  by_cases q : alC V a b = true
  · have hn : ¬ wnt V a := fun z => by
      obtain ⟨q1, q2⟩ := (alC_iff V a b).mp q
      have := q2 a (Int.le_refl _) (by omega)
      have := z.1
      simp only [isCp] at *
      omega
    rw [if_pos q, if_neg hn]; rfl
  · rw [if_neg q]; simp
def sp_X7_addCell : SP := fun av M Ret => ∃ c : Int, av = [mr 73, mi c] ∧ (0 ≤ M 73 7 ∧ M 73 7 < 500) ∧ (∀ M2 : Mem, (M2 = adY M c) → Ret none M2)
theorem k_X7_addCell {code : List Sem} {Z : KZ} {Ret : KR} {ls : List (Option MV)} {M : Mem} {r : List MV} (hZ : Sim code Z Ret) (ip np : Nat) {c : Int} (hc : code[ip]? = some (I_callV 7 1 sp_X7_addCell)) (hn : ip + 1 = np) (h3 : catS r ≤ 8)  (hp : 0 ≤ M 73 7 ∧ M 73 7 < 500) (kz : ∀ M2 : Mem, (M2 = adY M c) → Z np ls r M2) : Z ip ls (mi c :: mr 73 :: r) M := w_callV1 hZ ip np hc hn rfl rfl h3 ⟨_, rfl, hp, fun M2 h => kz M2 h⟩
def cd_X7_addCell : List Sem := [I_aload 0, I_get 7 6, I_aload 0, I_get 7 7, I_iload 1, I_iast, I_aload 0, I_dup, I_get 7 7, I_const (1), I_add, I_puti 7 7, I_vret]
def pc_X7_addCell : List Nat := [0, 1, 4, 5, 8, 9, 10, 11, 12, 15, 16, 17, 20]
set_option maxRecDepth 100000 in
set_option maxHeartbeats 4000000 in
theorem b_X7_addCell (c : Int) (i_c : InR c) (M : Mem) (Ret : KR) (hp : 0 ≤ M 73 7 ∧ M 73 7 < 500) (hR : ∀ M2 : Mem, (M2 = adY M c) → Ret none M2) (hM : MOk M) (Z : KZ) (hZ : Sim cd_X7_addCell Z Ret) : Z 0 [some (mr 73), some (mi c)] [] M := by
  obtain ⟨b1, b2⟩ := hp
  refine w_aload hZ 0 1 rfl rfl rfl ?_
  refine w_getr hZ 1 2 rfl rfl rfl rfl rfl ?_
  refine w_aload hZ 2 3 rfl rfl rfl ?_
  refine w_geti hZ 3 4 rfl rfl rfl rfl rfl ?_
  refine w_iload hZ 4 5 rfl rfl rfl ?_
  refine w_iast hZ 5 6 rfl rfl rfl (by omega) (by omega) ?_
  refine w_aload hZ 6 7 rfl rfl rfl ?_
  refine w_dup hZ 7 8 rfl rfl rfl ?_
  refine w_getiv hZ 8 9 rfl rfl rfl rfl rfl (v := M 73 7) (by simp [mup_at]) ?_
  refine w_const hZ 9 10 rfl rfl  ?_
  refine w_add hZ 10 11 rfl rfl (by unfold InR; omega) ?_
  refine w_puti hZ 11 12 rfl rfl rfl rfl rfl ?_
  refine w_vret hZ 12 rfl ?_
  exact hR _ rfl
set_option maxRecDepth 100000 in
set_option maxHeartbeats 4000000 in
theorem ao_X7_addCell : AllOk yX7_addCell.cls cX7_addCell 2 0 0 none none pc_X7_addCell 0 cd_X7_addCell := ⟨s_aload_n (k := 0) (by decide +kernel) rfl rfl, ⟨s_get (C := RX7) (T := TX7) (N := 22) rfl inT7 (by decide) tw_3_165 (by decide +kernel) rfl, ⟨s_aload_n (k := 0) (by decide +kernel) rfl rfl, ⟨s_get (C := RX7) (T := TX7) (N := 22) rfl inT7 (by decide) tw_3_166 (by decide +kernel) rfl, ⟨s_iload_n (k := 1) (by decide +kernel) rfl rfl, ⟨s_iast (by decide +kernel) rfl, ⟨s_aload_n (k := 0) (by decide +kernel) rfl rfl, ⟨s_dup (by decide +kernel) rfl, ⟨s_get (C := RX7) (T := TX7) (N := 22) rfl inT7 (by decide) tw_3_166 (by decide +kernel) rfl, ⟨s_iconst (by decide +kernel) rfl ⟨by decide, by decide⟩, ⟨s_add (by decide +kernel) rfl, ⟨s_puti (C := RX7) (T := TX7) (N := 22) (tyf := tyX7) rfl inT7 tyX7_ok nmX7 (by decide) rfl rfl tw_3_166 (by decide +kernel) rfl, ⟨s_vret rfl (by decide +kernel), trivial⟩⟩⟩⟩⟩⟩⟩⟩⟩⟩⟩⟩⟩
theorem ct_X7_addCell : Ctr yX7_addCell cX7_addCell 2 none 0 0 sp_X7_addCell := by
  refine ctr_of (by decide +kernel) ao_X7_addCell rfl ?_
  rintro av M Ret ⟨c, rfl, hp, hR⟩ hok hM
  exact ⟨Nat.le_of_ble_eq_true rfl, fun Z hZ => b_X7_addCell  c (hok _ (List.mem_of_getElem? (i := 1) rfl)) M Ret hp hR hM Z hZ⟩
def sp_X7_putSign : SP := fun av M Ret => ∃ i : Int, av = [mr 73, mi i] ∧ (vOk (YV M) ∧ 0 ≤ i ∧ i < vN (YV M) ∧ ¬ isLt (vS (YV M) i) ∧ 0 ≤ M 73 7 ∧ M 73 7 ≤ 400) ∧ (∀ M2 : Mem, (ApC (sgE (YV M) i) M M2) → Ret none M2)
theorem k_X7_putSign {code : List Sem} {Z : KZ} {Ret : KR} {ls : List (Option MV)} {M : Mem} {r : List MV} (hZ : Sim code Z Ret) (ip np : Nat) {i : Int} (hc : code[ip]? = some (I_callV 7 1 sp_X7_putSign)) (hn : ip + 1 = np) (h3 : catS r ≤ 8)  (hp : vOk (YV M) ∧ 0 ≤ i ∧ i < vN (YV M) ∧ ¬ isLt (vS (YV M) i) ∧ 0 ≤ M 73 7 ∧ M 73 7 ≤ 400) (kz : ∀ M2 : Mem, (ApC (sgE (YV M) i) M M2) → Z np ls r M2) : Z ip ls (mi i :: mr 73 :: r) M := w_callV1 hZ ip np hc hn rfl rfl h3 ⟨_, rfl, hp, fun M2 h => kz M2 h⟩
def cd_X7_putSign : List Sem := [I_aload 0, I_iload 1, I_callV 7 1 sp_X7_sign0, I_istore 2, I_iload 2, I_callS 1 sp_X7_isFigure, I_ifeq 34, I_aload 0, I_iload 1, I_const (1), I_sub, I_callV 7 1 sp_X7_sign0, I_callS 1 sp_X7_isFigure, I_ifne 23, I_aload 0, I_iload 1, I_const (1), I_sub, I_callV 7 1 sp_X7_isJoint, I_ifne 23, I_aload 0, I_const (61), I_callV 7 1 sp_X7_addCell, I_aload 0, I_iload 2, I_const (48), I_cne 29, I_const (10), I_goto 32, I_iload 2, I_const (48), I_sub, I_callV 7 1 sp_X7_addCell, I_goto 52, I_aload 0, I_iload 2, I_const (46), I_cne 40, I_const (27), I_goto 51, I_iload 2, I_const (44), I_cne 45, I_const (28), I_goto 51, I_iload 2, I_const (45), I_cne 50, I_const (29), I_goto 51, I_const (0), I_callV 7 1 sp_X7_addCell, I_vret]
def pc_X7_putSign : List Nat := [0, 1, 2, 5, 6, 7, 10, 13, 14, 15, 16, 17, 20, 23, 26, 27, 28, 29, 30, 33, 36, 37, 39, 42, 43, 44, 46, 49, 51, 54, 55, 57, 58, 61, 64, 65, 66, 68, 71, 73, 76, 77, 79, 82, 84, 87, 88, 90, 93, 95, 98, 99, 102]
set_option maxRecDepth 100000 in
set_option maxHeartbeats 4000000 in
theorem b_X7_putSign (i : Int) (i_i : InR i) (M : Mem) (Ret : KR) (hp : vOk (YV M) ∧ 0 ≤ i ∧ i < vN (YV M) ∧ ¬ isLt (vS (YV M) i) ∧ 0 ≤ M 73 7 ∧ M 73 7 ≤ 400) (hR : ∀ M2 : Mem, (ApC (sgE (YV M) i) M M2) → Ret none M2) (hM : MOk M) (Z : KZ) (hZ : Sim cd_X7_putSign Z Ret) : Z 0 [some (mr 73), some (mi i), none] [] M := by
  obtain ⟨hvo, i0, i1, hnl, c0, c1⟩ := hp
  have hb := hvo.yb
  have n120 := hvo.2.1
  have hE : isFg (vS (YV M) i) → sgE (YV M) i = (if isBh (vS (YV M)) i then [] else [(61, -1, i, 0)]) ++ [(fgC (vS (YV M) i), -1, i, 0)] := fun h => by unfold sgE; rw [if_pos h]
  have hsg := hvo.2.2.2.2.1 i i0 i1
  have fig : isFg (vS (YV M) i) → ∀ (A : List Ev) (N : Mem), A.length ≤ 1 → ApC A M N → sgE (YV M) i = A ++ [(fgC (vS (YV M) i), -1, i, 0)] → Z 23 [some (mr 73), some (mi i), some (mi (vS (YV M) i))] [] N := by
    intro hf A N hA1 hA hE2
    have ha1 := hA.1
    have hsr : 48 ≤ vS (YV M) i ∧ vS (YV M) i ≤ 57 := hf
    refine w_aload hZ 23 24 rfl rfl rfl ?_
    refine w_iload hZ 24 25 rfl rfl rfl ?_
    refine w_const hZ 25 26 rfl rfl  ?_
    refine w_cne hZ 26 27 rfl rfl (fun c26 => ?_) (fun c26 => ?_)
    · refine w_iload hZ 29 30 rfl rfl rfl ?_
      refine w_const hZ 30 31 rfl rfl  ?_
      refine w_sub hZ 31 32 rfl rfl (by unfold InR; omega) ?_
      refine k_X7_addCell hZ 32 33 rfl rfl (Nat.le_of_ble_eq_true rfl) ⟨by omega, by omega⟩ (fun M32 p32 => ?_)
      refine w_goto hZ 33 52 rfl ?_
      refine w_vret hZ 52 rfl ?_
      subst p32
      refine hR _ ?_
      rw [hE2]
      refine hA.trans ?_ c0
      have q := ApC_cell (M := N) (by omega) (fgC (vS (YV M) i), -1, i, 0)
      have e : fgC (vS (YV M) i) = _ := rfl
      unfold fgC at e q ⊢
      first
        | (rw [if_pos (by omega)] at q ⊢; exact q)
        | (rw [if_neg (by omega)] at q ⊢; exact q)
    · refine w_const hZ 27 28 rfl rfl  ?_
      refine w_goto hZ 28 32 rfl ?_
      refine k_X7_addCell hZ 32 33 rfl rfl (Nat.le_of_ble_eq_true rfl) ⟨by omega, by omega⟩ (fun M32 p32 => ?_)
      refine w_goto hZ 33 52 rfl ?_
      refine w_vret hZ 52 rfl ?_
      subst p32
      refine hR _ ?_
      rw [hE2]
      refine hA.trans ?_ c0
      have q := ApC_cell (M := N) (by omega) (fgC (vS (YV M) i), -1, i, 0)
      have e : fgC (vS (YV M) i) = _ := rfl
      unfold fgC at e q ⊢
      first
        | (rw [if_pos (by omega)] at q ⊢; exact q)
        | (rw [if_neg (by omega)] at q ⊢; exact q)
  refine w_aload hZ 0 1 rfl rfl rfl ?_
  refine w_iload hZ 1 2 rfl rfl rfl ?_
  refine k_X7_sign0 hZ 2 3 rfl rfl (Nat.le_of_ble_eq_true rfl) hb ?_
  refine w_st3_2 hZ 3 4 rfl rfl rfl ?_
  refine w_iload hZ 4 5 rfl rfl rfl ?_
  refine k_X7_isFigure hZ 5 6 rfl rfl (Nat.le_of_ble_eq_true rfl)  ?_
  refine w_ifeq hZ 6 7 rfl rfl (fun c6 => ?_) (fun c6 => ?_)
  · refine w_aload hZ 34 35 rfl rfl rfl ?_
    refine w_iload hZ 35 36 rfl rfl rfl ?_
    refine w_const hZ 36 37 rfl rfl  ?_
    refine w_cne hZ 37 38 rfl rfl (fun c37 => ?_) (fun c37 => ?_)
    · refine w_iload hZ 40 41 rfl rfl rfl ?_
      refine w_const hZ 41 42 rfl rfl  ?_
      refine w_cne hZ 42 43 rfl rfl (fun c42 => ?_) (fun c42 => ?_)
      · refine w_iload hZ 45 46 rfl rfl rfl ?_
        refine w_const hZ 46 47 rfl rfl  ?_
        refine w_cne hZ 47 48 rfl rfl (fun c47 => ?_) (fun c47 => ?_)
        · refine w_const hZ 50 51 rfl rfl  ?_
          refine k_X7_addCell hZ 51 52 rfl rfl (Nat.le_of_ble_eq_true rfl) ⟨by omega, by omega⟩ (fun M51 p51 => ?_)
          refine w_vret hZ 52 rfl ?_
          subst p51
          refine hR _ ?_
          replace c6 := b2i_z.mp c6
          have e : sgE (YV M) i = [(mkC (vS (YV M) i), -1, i, 0)] := by unfold sgE; rw [if_neg c6]
          rw [e]
          have q := ApC_cell (M := M) c0 (mkC (vS (YV M) i), -1, i, 0)
          unfold mkC at q ⊢
          first
            | (rw [if_pos c37] at q ⊢; exact q)
            | (rw [if_neg c37, if_pos c42] at q ⊢; exact q)
            | (rw [if_neg c37, if_neg c42, if_pos c47] at q ⊢; exact q)
            | (rw [if_neg c37, if_neg c42, if_neg c47] at q ⊢; exact q)
        · refine w_const hZ 48 49 rfl rfl  ?_
          refine w_goto hZ 49 51 rfl ?_
          refine k_X7_addCell hZ 51 52 rfl rfl (Nat.le_of_ble_eq_true rfl) ⟨by omega, by omega⟩ (fun M51 p51 => ?_)
          refine w_vret hZ 52 rfl ?_
          subst p51
          refine hR _ ?_
          replace c6 := b2i_z.mp c6
          have e : sgE (YV M) i = [(mkC (vS (YV M) i), -1, i, 0)] := by unfold sgE; rw [if_neg c6]
          rw [e]
          have q := ApC_cell (M := M) c0 (mkC (vS (YV M) i), -1, i, 0)
          unfold mkC at q ⊢
          first
            | (rw [if_pos c37] at q ⊢; exact q)
            | (rw [if_neg c37, if_pos c42] at q ⊢; exact q)
            | (rw [if_neg c37, if_neg c42, if_pos c47] at q ⊢; exact q)
            | (rw [if_neg c37, if_neg c42, if_neg c47] at q ⊢; exact q)
      · refine w_const hZ 43 44 rfl rfl  ?_
        refine w_goto hZ 44 51 rfl ?_
        refine k_X7_addCell hZ 51 52 rfl rfl (Nat.le_of_ble_eq_true rfl) ⟨by omega, by omega⟩ (fun M51 p51 => ?_)
        refine w_vret hZ 52 rfl ?_
        subst p51
        refine hR _ ?_
        replace c6 := b2i_z.mp c6
        have e : sgE (YV M) i = [(mkC (vS (YV M) i), -1, i, 0)] := by unfold sgE; rw [if_neg c6]
        rw [e]
        have q := ApC_cell (M := M) c0 (mkC (vS (YV M) i), -1, i, 0)
        unfold mkC at q ⊢
        first
          | (rw [if_pos c37] at q ⊢; exact q)
          | (rw [if_neg c37, if_pos c42] at q ⊢; exact q)
          | (rw [if_neg c37, if_neg c42, if_pos c47] at q ⊢; exact q)
          | (rw [if_neg c37, if_neg c42, if_neg c47] at q ⊢; exact q)
    · refine w_const hZ 38 39 rfl rfl  ?_
      refine w_goto hZ 39 51 rfl ?_
      refine k_X7_addCell hZ 51 52 rfl rfl (Nat.le_of_ble_eq_true rfl) ⟨by omega, by omega⟩ (fun M51 p51 => ?_)
      refine w_vret hZ 52 rfl ?_
      subst p51
      refine hR _ ?_
      replace c6 := b2i_z.mp c6
      have e : sgE (YV M) i = [(mkC (vS (YV M) i), -1, i, 0)] := by unfold sgE; rw [if_neg c6]
      rw [e]
      have q := ApC_cell (M := M) c0 (mkC (vS (YV M) i), -1, i, 0)
      unfold mkC at q ⊢
      first
        | (rw [if_pos c37] at q ⊢; exact q)
        | (rw [if_neg c37, if_pos c42] at q ⊢; exact q)
        | (rw [if_neg c37, if_neg c42, if_pos c47] at q ⊢; exact q)
        | (rw [if_neg c37, if_neg c42, if_neg c47] at q ⊢; exact q)
  · refine w_aload hZ 7 8 rfl rfl rfl ?_
    refine w_iload hZ 8 9 rfl rfl rfl ?_
    refine w_const hZ 9 10 rfl rfl  ?_
    refine w_sub hZ 10 11 rfl rfl (by unfold InR; omega) ?_
    refine k_X7_sign0 hZ 11 12 rfl rfl (Nat.le_of_ble_eq_true rfl) hb ?_
    refine k_X7_isFigure hZ 12 13 rfl rfl (Nat.le_of_ble_eq_true rfl)  ?_
    refine w_ifne hZ 13 14 rfl rfl (fun c13 => ?_) (fun c13 => ?_)
    · first
        | exact fig (b2i_e.mp c6) [] M (by simp) (ApC_nil M) (by rw [hE (b2i_e.mp c6), if_pos (Or.inl (b2i_e.mp c13))])
        | exact fig (b2i_e.mp c6) [] M (by simp) (ApC_nil M) (by rw [hE (b2i_e.mp c6), if_pos (Or.inr ⟨(b2i_e.mp c19).1, by have := (b2i_e.mp c19).2.1; rwa [show i - 1 - 1 = i - 2 by omega] at this⟩)])
        | (subst p22
           refine fig (b2i_e.mp c6) _ _ (by simp) (ApC_cell c0 (61, -1, i, 0)) ?_
           rw [hE (b2i_e.mp c6), if_neg]
           rintro (z | z)
           · exact (b2i_z.mp c13) z
           · exact (b2i_z.mp c19) ⟨z.1, by rw [show i - 1 - 1 = i - 2 by omega]; exact z.2, by rw [show i - 1 + 1 = i by omega]; exact b2i_e.mp c6⟩)
    · refine w_aload hZ 14 15 rfl rfl rfl ?_
      refine w_iload hZ 15 16 rfl rfl rfl ?_
      refine w_const hZ 16 17 rfl rfl  ?_
      refine w_sub hZ 17 18 rfl rfl (by unfold InR; omega) ?_
      refine k_X7_isJoint hZ 18 19 rfl rfl (Nat.le_of_ble_eq_true rfl) ⟨hb, by omega, by omega⟩ ?_
      refine w_ifne hZ 19 20 rfl rfl (fun c19 => ?_) (fun c19 => ?_)
      · first
          | exact fig (b2i_e.mp c6) [] M (by simp) (ApC_nil M) (by rw [hE (b2i_e.mp c6), if_pos (Or.inl (b2i_e.mp c13))])
          | exact fig (b2i_e.mp c6) [] M (by simp) (ApC_nil M) (by rw [hE (b2i_e.mp c6), if_pos (Or.inr ⟨(b2i_e.mp c19).1, by have := (b2i_e.mp c19).2.1; rwa [show i - 1 - 1 = i - 2 by omega] at this⟩)])
          | (subst p22
             refine fig (b2i_e.mp c6) _ _ (by simp) (ApC_cell c0 (61, -1, i, 0)) ?_
             rw [hE (b2i_e.mp c6), if_neg]
             rintro (z | z)
             · exact (b2i_z.mp c13) z
             · exact (b2i_z.mp c19) ⟨z.1, by rw [show i - 1 - 1 = i - 2 by omega]; exact z.2, by rw [show i - 1 + 1 = i by omega]; exact b2i_e.mp c6⟩)
      · refine w_aload hZ 20 21 rfl rfl rfl ?_
        refine w_const hZ 21 22 rfl rfl  ?_
        refine k_X7_addCell hZ 22 23 rfl rfl (Nat.le_of_ble_eq_true rfl) ⟨by omega, by omega⟩ (fun M22 p22 => ?_)
        first
          | exact fig (b2i_e.mp c6) [] M (by simp) (ApC_nil M) (by rw [hE (b2i_e.mp c6), if_pos (Or.inl (b2i_e.mp c13))])
          | exact fig (b2i_e.mp c6) [] M (by simp) (ApC_nil M) (by rw [hE (b2i_e.mp c6), if_pos (Or.inr ⟨(b2i_e.mp c19).1, by have := (b2i_e.mp c19).2.1; rwa [show i - 1 - 1 = i - 2 by omega] at this⟩)])
          | (subst p22
             refine fig (b2i_e.mp c6) _ _ (by simp) (ApC_cell c0 (61, -1, i, 0)) ?_
             rw [hE (b2i_e.mp c6), if_neg]
             rintro (z | z)
             · exact (b2i_z.mp c13) z
             · exact (b2i_z.mp c19) ⟨z.1, by rw [show i - 1 - 1 = i - 2 by omega]; exact z.2, by rw [show i - 1 + 1 = i by omega]; exact b2i_e.mp c6⟩)
set_option maxRecDepth 100000 in
set_option maxHeartbeats 4000000 in
theorem ao_X7_putSign : AllOk yX7_putSign.cls cX7_putSign 3 3 68 none none pc_X7_putSign 0 cd_X7_putSign := ⟨s_aload_n (k := 0) (by decide +kernel) rfl rfl, ⟨s_iload_n (k := 1) (by decide +kernel) rfl rfl, ⟨s_callV (C := RX7) (T := TX7) (N := 22) rfl ct_X7_sign0 (by decide) (by decide) ⟨rfl, by decide +kernel, by decide +kernel, by decide +kernel⟩ tw_4_90 tw_4_92 ts_3_9 tw_1_8 tw_4_93 (by decide +kernel) rfl, ⟨s_istore_n (k := 2) (by decide +kernel) rfl rfl, ⟨s_iload_n (k := 2) (by decide +kernel) rfl rfl, ⟨s_callS ct_X7_isFigure (by decide) (by decide) ⟨by decide +kernel, by decide +kernel, by decide +kernel⟩ tw_4_69 tw_4_70 tw_1_8 tw_4_71 (by decide +kernel) rfl, ⟨s_ifeq (off := (54)) (by decide +kernel) rfl rfl, ⟨s_aload_n (k := 0) (by decide +kernel) rfl rfl, ⟨s_iload_n (k := 1) (by decide +kernel) rfl rfl, ⟨s_iconst (by decide +kernel) rfl ⟨by decide, by decide⟩, ⟨s_sub (by decide +kernel) rfl, ⟨s_callV (C := RX7) (T := TX7) (N := 22) rfl ct_X7_sign0 (by decide) (by decide) ⟨rfl, by decide +kernel, by decide +kernel, by decide +kernel⟩ tw_4_90 tw_4_92 ts_3_9 tw_1_8 tw_4_93 (by decide +kernel) rfl, ⟨s_callS ct_X7_isFigure (by decide) (by decide) ⟨by decide +kernel, by decide +kernel, by decide +kernel⟩ tw_4_69 tw_4_70 tw_1_8 tw_4_71 (by decide +kernel) rfl, ⟨s_ifne (off := (19)) (by decide +kernel) rfl rfl, ⟨s_aload_n (k := 0) (by decide +kernel) rfl rfl, ⟨s_iload_n (k := 1) (by decide +kernel) rfl rfl, ⟨s_iconst (by decide +kernel) rfl ⟨by decide, by decide⟩, ⟨s_sub (by decide +kernel) rfl, ⟨s_callV (C := RX7) (T := TX7) (N := 22) rfl ct_X7_isJoint (by decide) (by decide) ⟨rfl, by decide +kernel, by decide +kernel, by decide +kernel⟩ tw_4_146 tw_4_148 ts_4_6 tw_1_8 tw_4_149 (by decide +kernel) rfl, ⟨s_ifne (off := (9)) (by decide +kernel) rfl rfl, ⟨s_aload_n (k := 0) (by decide +kernel) rfl rfl, ⟨s_bipush (by decide +kernel) rfl ⟨by decide, by decide⟩ (by decide +kernel), ⟨s_callV (C := RX7) (T := TX7) (N := 22) rfl ct_X7_addCell (by decide) (by decide) ⟨rfl, by decide +kernel, by decide +kernel, by decide +kernel⟩ tw_4_118 tw_4_120 ts_4_0 tw_1_8 tw_4_121 (by decide +kernel) rfl, ⟨s_aload_n (k := 0) (by decide +kernel) rfl rfl, ⟨s_iload_n (k := 2) (by decide +kernel) rfl rfl, ⟨s_bipush (by decide +kernel) rfl ⟨by decide, by decide⟩ (by decide +kernel), ⟨s_cne (off := (8)) (by decide +kernel) rfl rfl, ⟨s_bipush (by decide +kernel) rfl ⟨by decide, by decide⟩ (by decide +kernel), ⟨s_goto (off := (7)) (by decide +kernel) rfl, ⟨s_iload_n (k := 2) (by decide +kernel) rfl rfl, ⟨s_bipush (by decide +kernel) rfl ⟨by decide, by decide⟩ (by decide +kernel), ⟨s_sub (by decide +kernel) rfl, ⟨s_callV (C := RX7) (T := TX7) (N := 22) rfl ct_X7_addCell (by decide) (by decide) ⟨rfl, by decide +kernel, by decide +kernel, by decide +kernel⟩ tw_4_118 tw_4_120 ts_4_0 tw_1_8 tw_4_121 (by decide +kernel) rfl, ⟨s_goto (off := (41)) (by decide +kernel) rfl, ⟨s_aload_n (k := 0) (by decide +kernel) rfl rfl, ⟨s_iload_n (k := 2) (by decide +kernel) rfl rfl, ⟨s_bipush (by decide +kernel) rfl ⟨by decide, by decide⟩ (by decide +kernel), ⟨s_cne (off := (8)) (by decide +kernel) rfl rfl, ⟨s_bipush (by decide +kernel) rfl ⟨by decide, by decide⟩ (by decide +kernel), ⟨s_goto (off := (26)) (by decide +kernel) rfl, ⟨s_iload_n (k := 2) (by decide +kernel) rfl rfl, ⟨s_bipush (by decide +kernel) rfl ⟨by decide, by decide⟩ (by decide +kernel), ⟨s_cne (off := (8)) (by decide +kernel) rfl rfl, ⟨s_bipush (by decide +kernel) rfl ⟨by decide, by decide⟩ (by decide +kernel), ⟨s_goto (off := (15)) (by decide +kernel) rfl, ⟨s_iload_n (k := 2) (by decide +kernel) rfl rfl, ⟨s_bipush (by decide +kernel) rfl ⟨by decide, by decide⟩ (by decide +kernel), ⟨s_cne (off := (8)) (by decide +kernel) rfl rfl, ⟨s_bipush (by decide +kernel) rfl ⟨by decide, by decide⟩ (by decide +kernel), ⟨s_goto (off := (4)) (by decide +kernel) rfl, ⟨s_iconst (by decide +kernel) rfl ⟨by decide, by decide⟩, ⟨s_callV (C := RX7) (T := TX7) (N := 22) rfl ct_X7_addCell (by decide) (by decide) ⟨rfl, by decide +kernel, by decide +kernel, by decide +kernel⟩ tw_4_118 tw_4_120 ts_4_0 tw_1_8 tw_4_121 (by decide +kernel) rfl, ⟨s_vret rfl (by decide +kernel), trivial⟩⟩⟩⟩⟩⟩⟩⟩⟩⟩⟩⟩⟩⟩⟩⟩⟩⟩⟩⟩⟩⟩⟩⟩⟩⟩⟩⟩⟩⟩⟩⟩⟩⟩⟩⟩⟩⟩⟩⟩⟩⟩⟩⟩⟩⟩⟩⟩⟩⟩⟩⟩⟩
theorem ct_X7_putSign : Ctr yX7_putSign cX7_putSign 3 none 3 68 sp_X7_putSign := by
  refine ctr_of (by decide +kernel) ao_X7_putSign rfl ?_
  rintro av M Ret ⟨i, rfl, hp, hR⟩ hok hM
  exact ⟨Nat.le_of_ble_eq_true rfl, fun Z hZ => b_X7_putSign  i (hok _ (List.mem_of_getElem? (i := 1) rfl)) M Ret hp hR hM Z hZ⟩
def sp_X7_putWord : SP := fun av M Ret => ∃ D : List Ev, ∃ a : Int, ∃ b : Int, ∃ w : Int, av = [mr 73, mi a, mi b, mi w] ∧ (WY D M ∧ vOk (YV M) ∧ 0 ≤ a ∧ a < b ∧ b ≤ vN (YV M) ∧ (∀ j, a ≤ j → j < b → isLt (vS (YV M) j)) ∧ D.length + (wdE (YV M) w a b).length ≤ 400) ∧ (∀ M2 : Mem, (WY (D ++ wdE (YV M) w a b) M2 ∧ FW M M2) → Ret none M2)
theorem k_X7_putWord {code : List Sem} {Z : KZ} {Ret : KR} {ls : List (Option MV)} {M : Mem} {r : List MV} (hZ : Sim code Z Ret) (ip np : Nat) {D : List Ev} {a b w : Int} (hc : code[ip]? = some (I_callV 7 3 sp_X7_putWord)) (hn : ip + 1 = np) (h3 : catS r ≤ 8)  (hp : WY D M ∧ vOk (YV M) ∧ 0 ≤ a ∧ a < b ∧ b ≤ vN (YV M) ∧ (∀ j, a ≤ j → j < b → isLt (vS (YV M) j)) ∧ D.length + (wdE (YV M) w a b).length ≤ 400) (kz : ∀ M2 : Mem, (WY (D ++ wdE (YV M) w a b) M2 ∧ FW M M2) → Z np ls r M2) : Z ip ls (mi w :: mi b :: mi a :: mr 73 :: r) M := w_callV3 hZ ip np hc hn rfl rfl h3 ⟨_, _, _, _, rfl, hp, fun M2 h => kz M2 h⟩
def cd_X7_putWord : List Sem := [I_aload 0, I_iload 1, I_iload 2, I_callV 7 2 sp_X7_isAllGreat, I_istore 4, I_iload 4, I_ifeq 13, I_aload 0, I_const (60), I_callV 7 1 sp_X7_addCell, I_aload 0, I_const (60), I_callV 7 1 sp_X7_addCell, I_iload 1, I_istore 5, I_iload 5, I_iload 2, I_cge 110, I_aload 0, I_iload 5, I_callV 7 1 sp_X7_sign0, I_istore 6, I_iload 4, I_ifne 27, I_iload 6, I_callS 1 sp_X7_isSmall, I_ifeq 35, I_aload 0, I_iload 5, I_iload 1, I_iload 2, I_iload 4, I_iload 3, I_callV 7 5 sp_X7_ruleAt, I_goto 36, I_const (-1), I_istore 7, I_aload 0, I_iload 5, I_callV 7 1 sp_X7_wantsLetters, I_ifeq 44, I_aload 0, I_const (62), I_callV 7 1 sp_X7_addCell, I_iload 7, I_iflt 88, I_aload 0, I_aload 0, I_get 7 0, I_const (13), I_iload 7, I_add, I_iald, I_callV 7 1 sp_X7_addCell, I_aload 0, I_get 7 8, I_iload 7, I_dup2, I_iald, I_const (1), I_add, I_iast, I_aload 0, I_get 7 9, I_iload 7, I_aload 0, I_get 7 9, I_iload 7, I_iald, I_ifge 72, I_iload 5, I_goto 76, I_aload 0, I_get 7 9, I_iload 7, I_iald, I_iast, I_iload 5, I_aload 0, I_get 7 0, I_const (1), I_iload 7, I_add, I_iald, I_callS 1 sp_X7_lettersOf, I_add, I_istore 5, I_goto 109, I_iload 6, I_callS 1 sp_X7_isGreat, I_ifeq 96, I_iload 4, I_ifne 96, I_aload 0, I_const (60), I_callV 7 1 sp_X7_addCell, I_aload 0, I_iload 6, I_callS 1 sp_X7_isGreat, I_ifeq 104, I_iload 6, I_const (64), I_sub, I_goto 107, I_iload 6, I_const (96), I_sub, I_callV 7 1 sp_X7_addCell, I_iinc 5 (1), I_goto 15, I_vret]
def pc_X7_putWord : List Nat := [0, 1, 2, 3, 6, 8, 10, 13, 14, 16, 19, 20, 22, 25, 26, 28, 30, 31, 34, 35, 37, 40, 42, 44, 47, 49, 52, 55, 56, 58, 59, 60, 62, 63, 66, 69, 70, 72, 73, 75, 78, 81, 82, 84, 87, 89, 92, 93, 94, 97, 99, 101, 102, 103, 106, 107, 110, 112, 113, 114, 115, 116, 117, 118, 121, 123, 124, 127, 129, 130, 133, 135, 138, 139, 142, 144, 145, 146, 148, 149, 152, 153, 155, 156, 157, 160, 161, 163, 166, 168, 171, 174, 176, 179, 180, 182, 185, 186, 188, 191, 194, 196, 198, 199, 202, 204, 206, 207, 210, 213, 216]
set_option maxRecDepth 100000 in
set_option maxHeartbeats 4000000 in
theorem b_X7_putWord (D : List Ev) (a : Int) (i_a : InR a) (b : Int) (i_b : InR b) (w : Int) (i_w : InR w) (M : Mem) (Ret : KR) (hp : WY D M ∧ vOk (YV M) ∧ 0 ≤ a ∧ a < b ∧ b ≤ vN (YV M) ∧ (∀ j, a ≤ j → j < b → isLt (vS (YV M) j)) ∧ D.length + (wdE (YV M) w a b).length ≤ 400) (hR : ∀ M2 : Mem, (WY (D ++ wdE (YV M) w a b) M2 ∧ FW M M2) → Ret none M2) (hM : MOk M) (Z : KZ) (hZ : Sim cd_X7_putWord Z Ret) : Z 0 [some (mr 73), some (mi a), some (mi b), some (mi w), none, none, none, none] [] M := by
  obtain ⟨hW, hvo, a0, ab, bn, hl, hlen⟩ := hp
  have hwd := alC_Wd a0 ab bn hl
  have n120 := hvo.2.1
  have hvR : vR (YV M) ≤ 12 := hvo.2.2.2.1
  obtain ⟨V, hV⟩ : ∃ V, YV M = V := ⟨_, rfl⟩
  rw [hV] at hvo hl hlen hwd n120 hvR bn
  have hR' : ∀ N : Mem, WY (D ++ wdE V w a b) N → FW M N → Ret none N := fun N h1 h2 => hR N (by rw [hV]; exact ⟨h1, h2⟩)
  clear hR
  have htot : Hid (wdE V w a b = hdE V a b ++ wEv V w a b (alC V a b) a) := rfl
  rw [hdE_y] at htot
  obtain ⟨g, hg⟩ : ∃ g, alC V a b = g := ⟨_, rfl⟩
  rw [hg] at htot hwd
  have same : ∀ N : Mem, FW M N → vOk (YV N) ∧ YV N = V ∧ Wd (YV N) a b g := fun N hf => by
    have e : YV N = V := by rw [hf.yv]; exact hV
    rw [e]; exact ⟨hvo, rfl, hwd⟩
  have hg01 := b2i_01 (g = true)
  have loop : ∀ (d : Nat) (i : Int) (D2 : List Ev) (N : Mem), d = (b - i).toNat → a ≤ i → i ≤ b → WY D2 N → FW M N → Hid (D ++ wdE V w a b = D2 ++ ((if i = a ∧ wnt V a then [(62, -1, a, 0)] else []) ++ wEv V w a b g i)) → Z 15 [some (mr 73), some (mi a), some (mi b), some (mi w), some (mi (b2i (g = true))), some (mi i), none, none] [] N := by
    intro d
    induction d using Nat.strongRecOn with
    | ind d ih =>
      intro i D2 N hd i0 i1 hW2 hF hE
      obtain ⟨hvN, eN, hwN⟩ := same N hF
      have hbN := hvN.yb
      have m109 : i < b → ∀ (j s k : Int) (D3 : List Ev) (N3 : Mem), i < j → j ≤ b → WY D3 N3 → FW M N3 → D ++ wdE V w a b = D3 ++ wEv V w a b g j → Z 15 [some (mr 73), some (mi a), some (mi b), some (mi w), some (mi (b2i (g = true))), some (mi j), some (mi s), some (mi k)] [] N3 := by
        intro hib j s k D3 N3 j0 j1 h1 h2 h3
        refine w_fg8_6 hZ ?_
        refine w_fg8_7 hZ ?_
        refine ih (b - j).toNat (by omega) j D3 N3 rfl (by omega) (by omega) h1 h2 ?_
        unfold Hid
        rw [h3, if_neg (by omega)]
        rfl
      have m96 : i < b → ∀ (k : Int) (D3 : List Ev) (N3 : Mem), WY D3 N3 → FW M N3 → Hid (D ++ wdE V w a b = D3 ++ ([(ltN (vS V i), -1, i, 1)] ++ wEv V w a b g (i + 1))) → Z 96 [some (mr 73), some (mi a), some (mi b), some (mi w), some (mi (b2i (g = true))), some (mi i), some (mi (vS V i)), some (mi k)] [] N3 := by
        intro hib k D3 N3 h1 h2 h3
        have hq := congrArg List.length h3.u
        rw [List.length_append, List.length_append, List.length_append] at hq
        have h17 := h1.1
        have hli := hl i i0 hib
        have hsr : 65 ≤ vS V i ∧ vS V i ≤ 122 := by simp only [isLt, isSm, isCp] at hli; omega
        replace hq : D3.length + 1 ≤ 400 := by simp only [List.length_cons, List.length_nil] at hq; omega
        refine w_aload hZ 96 97 rfl rfl rfl ?_
        refine w_iload hZ 97 98 rfl rfl rfl ?_
        refine k_X7_isGreat hZ 98 99 rfl rfl (Nat.le_of_ble_eq_true rfl)  ?_
        refine w_ifeq hZ 99 100 rfl rfl (fun c99 => ?_) (fun c99 => ?_)
        · refine w_iload hZ 104 105 rfl rfl rfl ?_
          refine w_const hZ 105 106 rfl rfl  ?_
          refine w_sub hZ 106 107 rfl rfl (by unfold InR; omega) ?_
          refine k_X7_addCell hZ 107 108 rfl rfl (Nat.le_of_ble_eq_true rfl) ⟨by omega, by omega⟩ (fun M107 p107 => ?_)
          refine w_in8_5 hZ 108 109 rfl rfl rfl (by unfold InR; omega) ?_
          refine w_goto hZ 109 15 rfl ?_
          subst p107
          have q := h1.app (ApC_cell h1.nn (ltN (vS V i), -1, i, 1)) (fun e he => by rw [List.mem_singleton.mp he]; exact ⟨rfl, by show 0 ≤ i; omega⟩)
          have q2 := h2.trans (ApC_cell h1.nn (ltN (vS V i), -1, i, 1)).fw
          have hlt : ltN (vS V i) = if isCp (vS V i) then vS V i - 64 else vS V i - 96 := rfl
          have h3' := h3.u
          first
            | (rw [hlt, if_pos (b2i_e.mp c99)] at q q2 h3'; exact m109 hib (i + 1) _ _ _ _ (by omega) (by omega) q q2 (by rw [h3', List.append_assoc]))
            | (rw [hlt, if_neg (b2i_z.mp c99)] at q q2 h3'; exact m109 hib (i + 1) _ _ _ _ (by omega) (by omega) q q2 (by rw [h3', List.append_assoc]))
        · refine w_iload hZ 100 101 rfl rfl rfl ?_
          refine w_const hZ 101 102 rfl rfl  ?_
          refine w_sub hZ 102 103 rfl rfl (by unfold InR; omega) ?_
          refine w_goto hZ 103 107 rfl ?_
          refine k_X7_addCell hZ 107 108 rfl rfl (Nat.le_of_ble_eq_true rfl) ⟨by omega, by omega⟩ (fun M107 p107 => ?_)
          refine w_in8_5 hZ 108 109 rfl rfl rfl (by unfold InR; omega) ?_
          refine w_goto hZ 109 15 rfl ?_
          subst p107
          have q := h1.app (ApC_cell h1.nn (ltN (vS V i), -1, i, 1)) (fun e he => by rw [List.mem_singleton.mp he]; exact ⟨rfl, by show 0 ≤ i; omega⟩)
          have q2 := h2.trans (ApC_cell h1.nn (ltN (vS V i), -1, i, 1)).fw
          have hlt : ltN (vS V i) = if isCp (vS V i) then vS V i - 64 else vS V i - 96 := rfl
          have h3' := h3.u
          first
            | (rw [hlt, if_pos (b2i_e.mp c99)] at q q2 h3'; exact m109 hib (i + 1) _ _ _ _ (by omega) (by omega) q q2 (by rw [h3', List.append_assoc]))
            | (rw [hlt, if_neg (b2i_z.mp c99)] at q q2 h3'; exact m109 hib (i + 1) _ _ _ _ (by omega) (by omega) q q2 (by rw [h3', List.append_assoc]))
      have m44 : i < b → ∀ (k : Int) (D3 : List Ev) (N3 : Mem), k = sv V w a b g i → WY D3 N3 → FW M N3 → Hid (D ++ wdE V w a b = D3 ++ wEv V w a b g i) → Z 44 [some (mr 73), some (mi a), some (mi b), some (mi w), some (mi (b2i (g = true))), some (mi i), some (mi (vS V i)), some (mi k)] [] N3 := by
        intro hib k D3 N3 hk h1 h2 h3
        obtain ⟨hv3, e3, hw3⟩ := same N3 h2
        have hq := congrArg List.length h3.u
        rw [List.length_append, List.length_append] at hq
        have h17 := h1.1
        have rul : ¬ k = -1 → 0 ≤ k ∧ k < vR V ∧ D3.length + 1 ≤ 400 ∧ i + lnC (vC' V k.toNat) ≤ b ∧ 2 ≤ lnC (vC' V k.toNat) ∧ Hid (D ++ wdE V w a b = (D3 ++ [(vE V k.toNat, k, i, 1)]) ++ wEv V w a b g (i + lnC (vC' V k.toNat))) := by
          intro z
          rw [hk] at z
          have q1 := hvo.sv_ln z
          have q2 := sv_in hvo (fun j j0 j1 => hl j (by omega) j1) z
          have q3 := wEv_rule hvo hib z
          have q4 := congrArg List.length q3
          rw [List.length_cons] at q4
          rw [hk]
          refine ⟨q1.1, q1.2.1, by omega, q2, q1.2.2.1, ?_⟩
          unfold Hid
          rw [h3.u, q3, List.append_assoc]
          rfl
        have ltr : k = -1 → D ++ wdE V w a b = D3 ++ (leE V g i ++ wEv V w a b g (i + 1)) := by
          intro z
          rw [h3.u, wEv_let hvo hib (by omega)]
        have hz := smV_z hwd i0 hib
        have hle : leE V g i = if smV V g i = 0 then [(60, -1, i, 1), (ltN (vS V i), -1, i, 1)] else [(ltN (vS V i), -1, i, 1)] := rfl
        have ltrC : k = -1 → isCp (vS V i) → ¬ g = true → D3.length + 1 ≤ 400 ∧ Hid (D ++ wdE V w a b = (D3 ++ [(60, -1, i, 1)]) ++ ([(ltN (vS V i), -1, i, 1)] ++ wEv V w a b g (i + 1))) := by
          intro z1 z2 z3
          have q := ltr z1
          rw [hle, if_pos (hz.mpr ⟨z2, z3⟩)] at q
          have q2 := congrArg List.length q
          rw [List.length_append, List.length_append, List.length_append] at q2
          simp only [List.length_cons, List.length_nil] at q2
          refine ⟨by omega, ?_⟩
          unfold Hid
          rw [q, List.append_assoc]
          rfl
        have ltrS : k = -1 → ¬ (isCp (vS V i) ∧ ¬ g = true) → Hid (D ++ wdE V w a b = D3 ++ ([(ltN (vS V i), -1, i, 1)] ++ wEv V w a b g (i + 1))) := by
          intro z1 z2
          have q := ltr z1
          rw [hle, if_neg (fun z => z2 (hz.mp z))] at q
          exact q
        replace ltr : True := trivial
        replace hz : True := trivial
        have hkr : k = -1 ∨ 0 ≤ k := by
          by_cases z : k = -1
          · exact Or.inl z
          · exact Or.inr (rul z).1
        refine w_iload hZ 44 45 rfl rfl rfl ?_
        refine w_iflt hZ 45 46 rfl rfl (fun c45 => ?_) (fun c45 => ?_)
        · refine w_iload hZ 88 89 rfl rfl rfl ?_
          refine k_X7_isGreat hZ 89 90 rfl rfl (Nat.le_of_ble_eq_true rfl)  ?_
          refine w_ifeq hZ 90 91 rfl rfl (fun c90 => ?_) (fun c90 => ?_)
          · first
              | exact m96 hib k _ _ h1 h2 (ltrS (by omega) (fun z => (b2i_z.mp c90) z.1))
              | exact m96 hib k _ _ h1 h2 (ltrS (by omega) (fun z => z.2 (b2i_e.mp c92)))
          · refine w_iload hZ 91 92 rfl rfl rfl ?_
            refine w_ifne hZ 92 93 rfl rfl (fun c92 => ?_) (fun c92 => ?_)
            · first
                | exact m96 hib k _ _ h1 h2 (ltrS (by omega) (fun z => (b2i_z.mp c90) z.1))
                | exact m96 hib k _ _ h1 h2 (ltrS (by omega) (fun z => z.2 (b2i_e.mp c92)))
            · have hq3 := (ltrC (by omega) (b2i_e.mp c90) (b2i_z.mp c92)).1
              refine w_aload hZ 93 94 rfl rfl rfl ?_
              refine w_const hZ 94 95 rfl rfl  ?_
              refine k_X7_addCell hZ 95 96 rfl rfl (Nat.le_of_ble_eq_true rfl) ⟨by omega, by omega⟩ (fun M95 p95 => ?_)
              subst p95
              exact m96 hib k _ _ (h1.app (ApC_cell h1.nn (60, -1, i, 1)) (fun e he => by rw [List.mem_singleton.mp he]; exact ⟨rfl, by show 0 ≤ i; omega⟩)) (h2.trans (ApC_cell h1.nn (60, -1, i, 1)).fw) (ltrC (by omega) (b2i_e.mp c90) (b2i_z.mp c92)).2
        · have hr := rul (by omega)
          have hr0 := hr.1
          have hr1 := hr.2.1
          have hr2 := hr.2.2.1
          have hc79 := (h1.2.2.1 k.toNat (by omega)).1
          have hcn := cntE_nn D3 ((k.toNat : Nat) : Int)
          have hcl := cntE_le D3 ((k.toNat : Nat) : Int)
          have hin := hr.2.2.2.1
          have hin2 := hr.2.2.2.2.1
          have hEq := hr.2.2.2.2.2
          refine w_aload hZ 46 47 rfl rfl rfl ?_
          refine w_aload hZ 47 48 rfl rfl rfl ?_
          refine w_getr hZ 48 49 rfl rfl rfl rfl rfl ?_
          refine w_const hZ 49 50 rfl rfl  ?_
          refine w_iload hZ 50 51 rfl rfl rfl ?_
          refine w_add hZ 51 52 rfl rfl (by unfold InR; omega) ?_
          refine w_ialdv hZ 52 53 rfl rfl rfl (by omega) (by omega) (v := vE V k.toNat) (Y_e e3 hr.1 hr.2.1) ?_
          refine k_X7_addCell hZ 53 54 rfl rfl (Nat.le_of_ble_eq_true rfl) ⟨by omega, by omega⟩ (fun M53 p53 => ?_)
          refine w_aload hZ 54 55 rfl rfl rfl ?_
          refine w_getr hZ 55 56 rfl rfl rfl rfl rfl ?_
          refine w_iload hZ 56 57 rfl rfl rfl ?_
          refine w_dup2 hZ 57 58 rfl rfl rfl rfl ?_
          refine w_ialdv hZ 58 59 rfl rfl rfl (by omega) (by omega) (v := N3 79 k.toNat) (by rw [p53]; simp [adY, mup_at]) ?_
          refine w_const hZ 59 60 rfl rfl  ?_
          refine w_add hZ 60 61 rfl rfl (by unfold InR; omega) ?_
          refine w_iast hZ 61 62 rfl rfl rfl (by omega) (by omega) ?_
          refine w_aload hZ 62 63 rfl rfl rfl ?_
          refine w_getr hZ 63 64 rfl rfl rfl rfl rfl ?_
          refine w_iload hZ 64 65 rfl rfl rfl ?_
          refine w_aload hZ 65 66 rfl rfl rfl ?_
          refine w_getr hZ 66 67 rfl rfl rfl rfl rfl ?_
          refine w_iload hZ 67 68 rfl rfl rfl ?_
          refine w_ialdv hZ 68 69 rfl rfl rfl (by omega) (by omega) (v := N3 80 k.toNat) (by rw [p53]; simp [adY, mup_at]) ?_
          refine w_ifge hZ 69 70 rfl rfl (fun c69 => ?_) (fun c69 => ?_)
          · refine w_aload hZ 72 73 rfl rfl rfl ?_
            refine w_getr hZ 73 74 rfl rfl rfl rfl rfl ?_
            refine w_iload hZ 74 75 rfl rfl rfl ?_
            refine w_ialdv hZ 75 76 rfl rfl rfl (by omega) (by omega) (v := N3 80 k.toNat) (by rw [p53]; simp [adY, mup_at]) ?_
            refine w_iast hZ 76 77 rfl rfl rfl (by omega) (by omega) ?_
            refine w_iload hZ 77 78 rfl rfl rfl ?_
            refine w_aload hZ 78 79 rfl rfl rfl ?_
            refine w_getr hZ 79 80 rfl rfl rfl rfl rfl ?_
            refine w_const hZ 80 81 rfl rfl  ?_
            refine w_iload hZ 81 82 rfl rfl rfl ?_
            refine w_add hZ 82 83 rfl rfl (by unfold InR; omega) ?_
            refine w_ialdv hZ 83 84 rfl rfl rfl (by omega) (by omega) (v := vC' V k.toNat) (by rw [mup_at, if_neg (by omega), mup_at, if_neg (by omega), p53]; have := Y_c e3 hr.1 hr.2.1; rw [← this]; simp [adY, mup_at]) ?_
            refine k_X7_lettersOf hZ 84 85 rfl rfl (Nat.le_of_ble_eq_true rfl) (hvo.2.2.2.2.2.2.1 k.toNat (by omega)).1.2.1 ?_
            refine w_add hZ 85 86 rfl rfl (by unfold InR; omega) ?_
            refine w_st8_5 hZ 86 87 rfl rfl rfl ?_
            refine w_goto hZ 87 109 rfl ?_
            refine w_goto hZ 109 15 rfl ?_
            have hrule : ∀ x : Int, x = (if N3 80 k.toNat < 0 then i else N3 80 k.toNat) → WY (D3 ++ [(vE V k.toNat, k, i, 1)]) (mup (mup M53 79 k.toNat (N3 79 k.toNat + 1)) 80 k.toNat x) := by
              intro x hx
              have q := h1.rule (k := k.toNat) (i := i) (c := vE V k.toNat) (N := mup (mup M53 79 k.toNat (N3 79 k.toNat + 1)) 80 k.toNat x) (by omega) (by omega) (by rw [p53]; simp [adY, mup_at]) (fun j => by rw [p53]; simp [adY, mup_at]) (fun j => by rw [p53]; simp [adY, mup_at]) (fun j => by rw [p53, hx]; simp [adY, mup_at])
              rw [Int.toNat_of_nonneg hr0] at q
              exact q
            have hfr : ∀ x : Int, FW M (mup (mup M53 79 k.toNat (N3 79 k.toNat + 1)) 80 k.toNat x) := fun x => h2.trans ⟨fun o o1 o2 o3 o4 => by rw [p53]; funext j; simp [adY, mup_at, o1, o2, o3, o4], fun f hf => by rw [p53]; simp [adY, mup_at, hf]⟩
            first
              | exact m109 hib _ _ _ _ _ (by omega) hin (hrule _ (by rw [if_neg (by omega)])) (hfr _) hEq.u
              | exact m109 hib _ _ _ _ _ (by omega) hin (hrule _ (by rw [if_pos (by omega)])) (hfr _) hEq.u
          · refine w_iload hZ 70 71 rfl rfl rfl ?_
            refine w_goto hZ 71 76 rfl ?_
            refine w_iast hZ 76 77 rfl rfl rfl (by omega) (by omega) ?_
            refine w_iload hZ 77 78 rfl rfl rfl ?_
            refine w_aload hZ 78 79 rfl rfl rfl ?_
            refine w_getr hZ 79 80 rfl rfl rfl rfl rfl ?_
            refine w_const hZ 80 81 rfl rfl  ?_
            refine w_iload hZ 81 82 rfl rfl rfl ?_
            refine w_add hZ 82 83 rfl rfl (by unfold InR; omega) ?_
            refine w_ialdv hZ 83 84 rfl rfl rfl (by omega) (by omega) (v := vC' V k.toNat) (by rw [mup_at, if_neg (by omega), mup_at, if_neg (by omega), p53]; have := Y_c e3 hr.1 hr.2.1; rw [← this]; simp [adY, mup_at]) ?_
            refine k_X7_lettersOf hZ 84 85 rfl rfl (Nat.le_of_ble_eq_true rfl) (hvo.2.2.2.2.2.2.1 k.toNat (by omega)).1.2.1 ?_
            refine w_add hZ 85 86 rfl rfl (by unfold InR; omega) ?_
            refine w_st8_5 hZ 86 87 rfl rfl rfl ?_
            refine w_goto hZ 87 109 rfl ?_
            refine w_goto hZ 109 15 rfl ?_
            have hrule : ∀ x : Int, x = (if N3 80 k.toNat < 0 then i else N3 80 k.toNat) → WY (D3 ++ [(vE V k.toNat, k, i, 1)]) (mup (mup M53 79 k.toNat (N3 79 k.toNat + 1)) 80 k.toNat x) := by
              intro x hx
              have q := h1.rule (k := k.toNat) (i := i) (c := vE V k.toNat) (N := mup (mup M53 79 k.toNat (N3 79 k.toNat + 1)) 80 k.toNat x) (by omega) (by omega) (by rw [p53]; simp [adY, mup_at]) (fun j => by rw [p53]; simp [adY, mup_at]) (fun j => by rw [p53]; simp [adY, mup_at]) (fun j => by rw [p53, hx]; simp [adY, mup_at])
              rw [Int.toNat_of_nonneg hr0] at q
              exact q
            have hfr : ∀ x : Int, FW M (mup (mup M53 79 k.toNat (N3 79 k.toNat + 1)) 80 k.toNat x) := fun x => h2.trans ⟨fun o o1 o2 o3 o4 => by rw [p53]; funext j; simp [adY, mup_at, o1, o2, o3, o4], fun f hf => by rw [p53]; simp [adY, mup_at, hf]⟩
            first
              | exact m109 hib _ _ _ _ _ (by omega) hin (hrule _ (by rw [if_neg (by omega)])) (hfr _) hEq.u
              | exact m109 hib _ _ _ _ _ (by omega) hin (hrule _ (by rw [if_pos (by omega)])) (hfr _) hEq.u
      have m36 : i < b → ∀ k : Int, k = sv V w a b g i → Z 36 [some (mr 73), some (mi a), some (mi b), some (mi w), some (mi (b2i (g = true))), some (mi i), some (mi (vS V i)), none] [mi k] N := by
        intro hib k hk
        refine w_st8_7 hZ 36 37 rfl rfl rfl ?_
        refine w_aload hZ 37 38 rfl rfl rfl ?_
        refine w_iload hZ 38 39 rfl rfl rfl ?_
        refine k_X7_wantsLetters hZ 39 40 rfl rfl (Nat.le_of_ble_eq_true rfl) ⟨hbN, by omega, by omega⟩ ?_
        rw [eN]
        refine w_ifeq hZ 40 41 rfl rfl (fun c40 => ?_) (fun c40 => ?_)
        · refine m44 hib k _ _ hk hW2 hF ?_
          unfold Hid
          rw [hE.u, if_neg (fun z => (b2i_z.mp c40) (by rw [z.1]; exact z.2))]
          rfl
        · replace c40 := b2i_e.mp c40
          have hia : i = a := Decidable.byContradiction fun z => wnt_in hwd (i := i) (by omega) hib c40
          have hwa : wnt V a := by rw [← hia]; exact c40
          have hE2 := hE.u
          rw [if_pos ⟨hia, hwa⟩] at hE2
          have hq := congrArg List.length hE2
          rw [List.length_append, List.length_append, List.length_append] at hq
          simp only [List.length_cons, List.length_nil] at hq
          have h17 := hW2.1
          replace hE2 := Hid.u hE2
          refine w_aload hZ 41 42 rfl rfl rfl ?_
          refine w_const hZ 42 43 rfl rfl  ?_
          refine k_X7_addCell hZ 43 44 rfl rfl (Nat.le_of_ble_eq_true rfl) ⟨by omega, by omega⟩ (fun M43 p43 => ?_)
          subst p43
          refine m44 hib k _ _ hk (hW2.app (ApC_cell hW2.nn (62, -1, a, 0)) (fun e he => by rw [List.mem_singleton.mp he]; exact ⟨rfl, a0⟩)) (hF.trans (ApC_cell hW2.nn (62, -1, a, 0)).fw) ?_
          unfold Hid
          rw [hE2, List.append_assoc]
      refine w_iload hZ 15 16 rfl rfl rfl ?_
      refine w_iload hZ 16 17 rfl rfl rfl ?_
      refine w_cge hZ 17 18 rfl rfl (fun c17 => ?_) (fun c17 => ?_)
      · refine w_vret hZ 110 rfl ?_
        refine hR' N ?_ hF
        have hE2 := hE.u
        rw [if_neg (by omega), wEv_end (by omega)] at hE2
        rw [hE2]
        simpa using hW2
      · refine w_aload hZ 18 19 rfl rfl rfl ?_
        refine w_iload hZ 19 20 rfl rfl rfl ?_
        refine k_X7_sign0 hZ 20 21 rfl rfl (Nat.le_of_ble_eq_true rfl) hbN ?_
        rw [eN]
        refine w_st8_6 hZ 21 22 rfl rfl rfl ?_
        refine w_iload hZ 22 23 rfl rfl rfl ?_
        refine w_ifne hZ 23 24 rfl rfl (fun c23 => ?_) (fun c23 => ?_)
        · refine w_aload hZ 27 28 rfl rfl rfl ?_
          refine w_iload hZ 28 29 rfl rfl rfl ?_
          refine w_iload hZ 29 30 rfl rfl rfl ?_
          refine w_iload hZ 30 31 rfl rfl rfl ?_
          refine w_iload hZ 31 32 rfl rfl rfl ?_
          refine w_iload hZ 32 33 rfl rfl rfl ?_
          refine k_X7_ruleAt hZ 33 34 rfl rfl (Nat.le_of_ble_eq_true rfl) ⟨hvN, hwN, i0, by omega, rfl⟩ ?_
          rw [eN]
          refine w_goto hZ 34 36 rfl ?_
          first
            | exact m36 (by omega) _ rfl
            | exact m36 (by omega) _ (sv_0 (by unfold smV; rw [if_neg (fun z => z.elim (fun z => absurd (b2i_t z) (by omega)) (b2i_z.mp c26))])).symm
        · refine w_iload hZ 24 25 rfl rfl rfl ?_
          refine k_X7_isSmall hZ 25 26 rfl rfl (Nat.le_of_ble_eq_true rfl)  ?_
          refine w_ifeq hZ 26 27 rfl rfl (fun c26 => ?_) (fun c26 => ?_)
          · refine w_const hZ 35 36 rfl rfl  ?_
            first
              | exact m36 (by omega) _ rfl
              | exact m36 (by omega) _ (sv_0 (by unfold smV; rw [if_neg (fun z => z.elim (fun z => absurd (b2i_t z) (by omega)) (b2i_z.mp c26))])).symm
          · refine w_aload hZ 27 28 rfl rfl rfl ?_
            refine w_iload hZ 28 29 rfl rfl rfl ?_
            refine w_iload hZ 29 30 rfl rfl rfl ?_
            refine w_iload hZ 30 31 rfl rfl rfl ?_
            refine w_iload hZ 31 32 rfl rfl rfl ?_
            refine w_iload hZ 32 33 rfl rfl rfl ?_
            refine k_X7_ruleAt hZ 33 34 rfl rfl (Nat.le_of_ble_eq_true rfl) ⟨hvN, hwN, i0, by omega, rfl⟩ ?_
            rw [eN]
            refine w_goto hZ 34 36 rfl ?_
            first
              | exact m36 (by omega) _ rfl
              | exact m36 (by omega) _ (sv_0 (by unfold smV; rw [if_neg (fun z => z.elim (fun z => absurd (b2i_t z) (by omega)) (b2i_z.mp c26))])).symm
  refine w_aload hZ 0 1 rfl rfl rfl ?_
  refine w_iload hZ 1 2 rfl rfl rfl ?_
  refine w_iload hZ 2 3 rfl rfl rfl ?_
  refine k_X7_isAllGreat hZ 3 4 rfl rfl (Nat.le_of_ble_eq_true rfl) ⟨(by rw [hV]; exact hvo : vOk (YV M)).yb, a0, by omega, by omega⟩ ?_
  rw [hV, hg]
  refine w_st8_4 hZ 4 5 rfl rfl rfl ?_
  refine w_iload hZ 5 6 rfl rfl rfl ?_
  refine w_ifeq hZ 6 7 rfl rfl (fun c6 => ?_) (fun c6 => ?_)
  · refine w_iload hZ 13 14 rfl rfl rfl ?_
    refine w_st8_5 hZ 14 15 rfl rfl rfl ?_
    first
      | (subst p9
         subst p12
         refine loop _ a _ _ rfl (Int.le_refl _) (by omega) ((hW.app (ApC_cell hW.nn (60, -1, a, 0)) (fun e he => by rw [List.mem_singleton.mp he]; exact ⟨rfl, a0⟩)).app (ApC_cell (ApC_cell hW.nn (60, -1, a, 0) |> fun q => by rw [q.1]; have := hW.nn; simp; omega) (60, -1, a, 0)) (fun e he => by rw [List.mem_singleton.mp he]; exact ⟨rfl, a0⟩)) ((ApC_cell hW.nn (60, -1, a, 0)).fw.trans (ApC_cell (ApC_cell hW.nn (60, -1, a, 0) |> fun q => by rw [q.1]; have := hW.nn; simp; omega) (60, -1, a, 0)).fw) ?_
         unfold Hid
         rw [htot.u, if_pos c6]
         simp)
      | (refine loop _ a D M rfl (Int.le_refl _) (by omega) hW (FW.refl M) ?_
         unfold Hid
         rw [htot.u, if_neg (b2i_z.mp c6)]
         simp)
  · replace c6 := b2i_e.mp c6
    have h17 := hW.1
    have hq := congrArg List.length htot.u
    rw [if_pos c6, List.length_append, List.length_append] at hq
    simp only [List.length_cons, List.length_nil] at hq
    refine w_aload hZ 7 8 rfl rfl rfl ?_
    refine w_const hZ 8 9 rfl rfl  ?_
    refine k_X7_addCell hZ 9 10 rfl rfl (Nat.le_of_ble_eq_true rfl) ⟨by omega, by omega⟩ (fun M9 p9 => ?_)
    refine w_aload hZ 10 11 rfl rfl rfl ?_
    refine w_const hZ 11 12 rfl rfl  ?_
    refine k_X7_addCell hZ 12 13 rfl rfl (Nat.le_of_ble_eq_true rfl) ⟨by rw [p9]; simp [adY, mup_at]; omega, by rw [p9]; simp [adY, mup_at]; omega⟩ (fun M12 p12 => ?_)
    refine w_iload hZ 13 14 rfl rfl rfl ?_
    refine w_st8_5 hZ 14 15 rfl rfl rfl ?_
    first
      | (subst p9
         subst p12
         refine loop _ a _ _ rfl (Int.le_refl _) (by omega) ((hW.app (ApC_cell hW.nn (60, -1, a, 0)) (fun e he => by rw [List.mem_singleton.mp he]; exact ⟨rfl, a0⟩)).app (ApC_cell (ApC_cell hW.nn (60, -1, a, 0) |> fun q => by rw [q.1]; have := hW.nn; simp; omega) (60, -1, a, 0)) (fun e he => by rw [List.mem_singleton.mp he]; exact ⟨rfl, a0⟩)) ((ApC_cell hW.nn (60, -1, a, 0)).fw.trans (ApC_cell (ApC_cell hW.nn (60, -1, a, 0) |> fun q => by rw [q.1]; have := hW.nn; simp; omega) (60, -1, a, 0)).fw) ?_
         unfold Hid
         rw [htot.u, if_pos c6]
         simp)
      | (refine loop _ a D M rfl (Int.le_refl _) (by omega) hW (FW.refl M) ?_
         unfold Hid
         rw [htot.u, if_neg (b2i_z.mp c6)]
         simp)
set_option maxRecDepth 100000 in
set_option maxHeartbeats 4000000 in
theorem ao_X7_putWord : AllOk yX7_putWord.cls cX7_putWord 8 4 103 none none pc_X7_putWord 0 cd_X7_putWord := ⟨s_aload_n (k := 0) (by decide +kernel) rfl rfl, ⟨s_iload_n (k := 1) (by decide +kernel) rfl rfl, ⟨s_iload_n (k := 2) (by decide +kernel) rfl rfl, ⟨s_callV (C := RX7) (T := TX7) (N := 22) rfl ct_X7_isAllGreat (by decide) (by decide) ⟨rfl, by decide +kernel, by decide +kernel, by decide +kernel⟩ tw_4_114 tw_4_116 ts_3_15 tw_1_8 tw_4_117 (by decide +kernel) rfl, ⟨s_istore (by decide +kernel) rfl, ⟨s_iload (by decide +kernel) rfl, ⟨s_ifeq (off := (15)) (by decide +kernel) rfl rfl, ⟨s_aload_n (k := 0) (by decide +kernel) rfl rfl, ⟨s_bipush (by decide +kernel) rfl ⟨by decide, by decide⟩ (by decide +kernel), ⟨s_callV (C := RX7) (T := TX7) (N := 22) rfl ct_X7_addCell (by decide) (by decide) ⟨rfl, by decide +kernel, by decide +kernel, by decide +kernel⟩ tw_4_118 tw_4_120 ts_4_0 tw_1_8 tw_4_121 (by decide +kernel) rfl, ⟨s_aload_n (k := 0) (by decide +kernel) rfl rfl, ⟨s_bipush (by decide +kernel) rfl ⟨by decide, by decide⟩ (by decide +kernel), ⟨s_callV (C := RX7) (T := TX7) (N := 22) rfl ct_X7_addCell (by decide) (by decide) ⟨rfl, by decide +kernel, by decide +kernel, by decide +kernel⟩ tw_4_118 tw_4_120 ts_4_0 tw_1_8 tw_4_121 (by decide +kernel) rfl, ⟨s_iload_n (k := 1) (by decide +kernel) rfl rfl, ⟨s_istore (by decide +kernel) rfl, ⟨s_iload (by decide +kernel) rfl, ⟨s_iload_n (k := 2) (by decide +kernel) rfl rfl, ⟨s_cge (off := (185)) (by decide +kernel) rfl rfl, ⟨s_aload_n (k := 0) (by decide +kernel) rfl rfl, ⟨s_iload (by decide +kernel) rfl, ⟨s_callV (C := RX7) (T := TX7) (N := 22) rfl ct_X7_sign0 (by decide) (by decide) ⟨rfl, by decide +kernel, by decide +kernel, by decide +kernel⟩ tw_4_90 tw_4_92 ts_3_9 tw_1_8 tw_4_93 (by decide +kernel) rfl, ⟨s_istore (by decide +kernel) rfl, ⟨s_iload (by decide +kernel) rfl, ⟨s_ifne (off := (11)) (by decide +kernel) rfl rfl, ⟨s_iload (by decide +kernel) rfl, ⟨s_callS ct_X7_isSmall (by decide) (by decide) ⟨by decide +kernel, by decide +kernel, by decide +kernel⟩ tw_4_59 tw_4_60 tw_1_8 tw_4_61 (by decide +kernel) rfl, ⟨s_ifeq (off := (17)) (by decide +kernel) rfl rfl, ⟨s_aload_n (k := 0) (by decide +kernel) rfl rfl, ⟨s_iload (by decide +kernel) rfl, ⟨s_iload_n (k := 1) (by decide +kernel) rfl rfl, ⟨s_iload_n (k := 2) (by decide +kernel) rfl rfl, ⟨s_iload (by decide +kernel) rfl, ⟨s_iload_n (k := 3) (by decide +kernel) rfl rfl, ⟨s_callV (C := RX7) (T := TX7) (N := 22) rfl ct_X7_ruleAt (by decide) (by decide) ⟨rfl, by decide +kernel, by decide +kernel, by decide +kernel⟩ tw_4_122 tw_4_124 ts_4_1 tw_1_8 tw_4_125 (by decide +kernel) rfl, ⟨s_goto (off := (4)) (by decide +kernel) rfl, ⟨s_iconst (by decide +kernel) rfl ⟨by decide, by decide⟩, ⟨s_istore (by decide +kernel) rfl, ⟨s_aload_n (k := 0) (by decide +kernel) rfl rfl, ⟨s_iload (by decide +kernel) rfl, ⟨s_callV (C := RX7) (T := TX7) (N := 22) rfl ct_X7_wantsLetters (by decide) (by decide) ⟨rfl, by decide +kernel, by decide +kernel, by decide +kernel⟩ tw_4_133 tw_4_135 ts_4_3 tw_1_8 tw_4_136 (by decide +kernel) rfl, ⟨s_ifeq (off := (9)) (by decide +kernel) rfl rfl, ⟨s_aload_n (k := 0) (by decide +kernel) rfl rfl, ⟨s_bipush (by decide +kernel) rfl ⟨by decide, by decide⟩ (by decide +kernel), ⟨s_callV (C := RX7) (T := TX7) (N := 22) rfl ct_X7_addCell (by decide) (by decide) ⟨rfl, by decide +kernel, by decide +kernel, by decide +kernel⟩ tw_4_118 tw_4_120 ts_4_0 tw_1_8 tw_4_121 (by decide +kernel) rfl, ⟨s_iload (by decide +kernel) rfl, ⟨s_iflt (off := (77)) (by decide +kernel) rfl rfl, ⟨s_aload_n (k := 0) (by decide +kernel) rfl rfl, ⟨s_aload_n (k := 0) (by decide +kernel) rfl rfl, ⟨s_get (C := RX7) (T := TX7) (N := 22) rfl inT7 (by decide) tw_3_159 (by decide +kernel) rfl, ⟨s_bipush (by decide +kernel) rfl ⟨by decide, by decide⟩ (by decide +kernel), ⟨s_iload (by decide +kernel) rfl, ⟨s_add (by decide +kernel) rfl, ⟨s_iald (by decide +kernel) rfl, ⟨s_callV (C := RX7) (T := TX7) (N := 22) rfl ct_X7_addCell (by decide) (by decide) ⟨rfl, by decide +kernel, by decide +kernel, by decide +kernel⟩ tw_4_118 tw_4_120 ts_4_0 tw_1_8 tw_4_121 (by decide +kernel) rfl, ⟨s_aload_n (k := 0) (by decide +kernel) rfl rfl, ⟨s_get (C := RX7) (T := TX7) (N := 22) rfl inT7 (by decide) tw_3_167 (by decide +kernel) rfl, ⟨s_iload (by decide +kernel) rfl, ⟨s_dup2 (by decide +kernel) rfl, ⟨s_iald (by decide +kernel) rfl, ⟨s_iconst (by decide +kernel) rfl ⟨by decide, by decide⟩, ⟨s_add (by decide +kernel) rfl, ⟨s_iast (by decide +kernel) rfl, ⟨s_aload_n (k := 0) (by decide +kernel) rfl rfl, ⟨s_get (C := RX7) (T := TX7) (N := 22) rfl inT7 (by decide) tw_3_168 (by decide +kernel) rfl, ⟨s_iload (by decide +kernel) rfl, ⟨s_aload_n (k := 0) (by decide +kernel) rfl rfl, ⟨s_get (C := RX7) (T := TX7) (N := 22) rfl inT7 (by decide) tw_3_168 (by decide +kernel) rfl, ⟨s_iload (by decide +kernel) rfl, ⟨s_iald (by decide +kernel) rfl, ⟨s_ifge (off := (8)) (by decide +kernel) rfl rfl, ⟨s_iload (by decide +kernel) rfl, ⟨s_goto (off := (10)) (by decide +kernel) rfl, ⟨s_aload_n (k := 0) (by decide +kernel) rfl rfl, ⟨s_get (C := RX7) (T := TX7) (N := 22) rfl inT7 (by decide) tw_3_168 (by decide +kernel) rfl, ⟨s_iload (by decide +kernel) rfl, ⟨s_iald (by decide +kernel) rfl, ⟨s_iast (by decide +kernel) rfl, ⟨s_iload (by decide +kernel) rfl, ⟨s_aload_n (k := 0) (by decide +kernel) rfl rfl, ⟨s_get (C := RX7) (T := TX7) (N := 22) rfl inT7 (by decide) tw_3_159 (by decide +kernel) rfl, ⟨s_iconst (by decide +kernel) rfl ⟨by decide, by decide⟩, ⟨s_iload (by decide +kernel) rfl, ⟨s_add (by decide +kernel) rfl, ⟨s_iald (by decide +kernel) rfl, ⟨s_callS ct_X7_lettersOf (by decide) (by decide) ⟨by decide +kernel, by decide +kernel, by decide +kernel⟩ tw_3_237 tw_3_238 tw_1_8 tw_3_239 (by decide +kernel) rfl, ⟨s_add (by decide +kernel) rfl, ⟨s_istore (by decide +kernel) rfl, ⟨s_goto (off := (50)) (by decide +kernel) rfl, ⟨s_iload (by decide +kernel) rfl, ⟨s_callS ct_X7_isGreat (by decide) (by decide) ⟨by decide +kernel, by decide +kernel, by decide +kernel⟩ tw_4_64 tw_4_65 tw_1_8 tw_4_66 (by decide +kernel) rfl, ⟨s_ifeq (off := (14)) (by decide +kernel) rfl rfl, ⟨s_iload (by decide +kernel) rfl, ⟨s_ifne (off := (9)) (by decide +kernel) rfl rfl, ⟨s_aload_n (k := 0) (by decide +kernel) rfl rfl, ⟨s_bipush (by decide +kernel) rfl ⟨by decide, by decide⟩ (by decide +kernel), ⟨s_callV (C := RX7) (T := TX7) (N := 22) rfl ct_X7_addCell (by decide) (by decide) ⟨rfl, by decide +kernel, by decide +kernel, by decide +kernel⟩ tw_4_118 tw_4_120 ts_4_0 tw_1_8 tw_4_121 (by decide +kernel) rfl, ⟨s_aload_n (k := 0) (by decide +kernel) rfl rfl, ⟨s_iload (by decide +kernel) rfl, ⟨s_callS ct_X7_isGreat (by decide) (by decide) ⟨by decide +kernel, by decide +kernel, by decide +kernel⟩ tw_4_64 tw_4_65 tw_1_8 tw_4_66 (by decide +kernel) rfl, ⟨s_ifeq (off := (11)) (by decide +kernel) rfl rfl, ⟨s_iload (by decide +kernel) rfl, ⟨s_bipush (by decide +kernel) rfl ⟨by decide, by decide⟩ (by decide +kernel), ⟨s_sub (by decide +kernel) rfl, ⟨s_goto (off := (8)) (by decide +kernel) rfl, ⟨s_iload (by decide +kernel) rfl, ⟨s_bipush (by decide +kernel) rfl ⟨by decide, by decide⟩ (by decide +kernel), ⟨s_sub (by decide +kernel) rfl, ⟨s_callV (C := RX7) (T := TX7) (N := 22) rfl ct_X7_addCell (by decide) (by decide) ⟨rfl, by decide +kernel, by decide +kernel, by decide +kernel⟩ tw_4_118 tw_4_120 ts_4_0 tw_1_8 tw_4_121 (by decide +kernel) rfl, ⟨s_iinc (by decide +kernel) rfl, ⟨s_goto (off := (-185)) (by decide +kernel) rfl, ⟨s_vret rfl (by decide +kernel), trivial⟩⟩⟩⟩⟩⟩⟩⟩⟩⟩⟩⟩⟩⟩⟩⟩⟩⟩⟩⟩⟩⟩⟩⟩⟩⟩⟩⟩⟩⟩⟩⟩⟩⟩⟩⟩⟩⟩⟩⟩⟩⟩⟩⟩⟩⟩⟩⟩⟩⟩⟩⟩⟩⟩⟩⟩⟩⟩⟩⟩⟩⟩⟩⟩⟩⟩⟩⟩⟩⟩⟩⟩⟩⟩⟩⟩⟩⟩⟩⟩⟩⟩⟩⟩⟩⟩⟩⟩⟩⟩⟩⟩⟩⟩⟩⟩⟩⟩⟩⟩⟩⟩⟩⟩⟩⟩⟩⟩⟩⟩⟩
theorem ct_X7_putWord : Ctr yX7_putWord cX7_putWord 8 none 4 103 sp_X7_putWord := by
  refine ctr_of (by decide +kernel) ao_X7_putWord rfl ?_
  rintro av M Ret ⟨D, a, b, w, rfl, hp, hR⟩ hok hM
  exact ⟨Nat.le_of_ble_eq_true rfl, fun Z hZ => b_X7_putWord D a (hok _ (List.mem_of_getElem? (i := 1) rfl)) b (hok _ (List.mem_of_getElem? (i := 2) rfl)) w (hok _ (List.mem_of_getElem? (i := 3) rfl)) M Ret hp hR hM Z hZ⟩
