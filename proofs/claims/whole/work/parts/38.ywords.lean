/-! THE REFERENCE: words, RULES that may serve -/
def Wd (V : BV) (a b : Int) (g : Bool) : Prop := 0 ≤ a ∧ a < b ∧ b ≤ vN V ∧ (∀ j, a ≤ j → j < b → isLt (vS V j)) ∧ (g = true → ∀ j, a ≤ j → j < b → isCp (vS V j))
theorem rA_k {V : BV} (h : vOk V) {w a b : Int} {g : Bool} {i k : Int} (hw : Wd V a b g) (i0 : a ≤ i) (k0 : 0 ≤ k) (k1 : k < vR V) : rA V w a b g i (lnC (vC' V k.toNat)) = k ↔ (¬ k = w ∧ i + lnC (vC' V k.toNat) ≤ b ∧ kdOk (vK V k.toNat) i (i + lnC (vC' V k.toNat)) a b ∧ ∀ e, 0 ≤ e → e < lnC (vC' V k.toNat) → smV V g (i + e) = dgC (vC' V k.toNat) e) := by
  have hc := (h.2.2.2.2.2.2.1 k.toNat (by omega)).1
  have hln := h.ln k0 k1
  constructor
  · intro q
    rcases rA_cases V w a b g i (lnC (vC' V k.toNat)) h.2.2.1 with z | ⟨z1, z2, z3, z4, z5, z6, z7⟩
    · omega
    · rw [q] at z4 z5 z7
      refine ⟨z4, z3, z7, fun e e0 e1 => ?_⟩
      have := (cd_ln hln.1 hln.2 (fun j j0 j1 => smV_rng V g (hw.2.2.2.1 j (by omega) (by omega))) z6).2 e e0 e1
      rw [← z5] at this
      exact this
  · rintro ⟨h1, h2, h3, h4⟩
    have hcd := cd_of (i := i) hc h4
    have hf : fIx (vC' V) (vC' V k.toNat) (vR V) = k := by
      refine fIx_eq h.2.2.1 (Or.inr ⟨k0, k1, rfl, fun j j0 j1 q => ?_⟩)
      have := h.2.2.2.2.2.2.2.1 j.toNat k.toNat (by omega) (by omega) q
      omega
    unfold rA
    rw [if_neg (by omega), hcd, if_neg (by have := hc.1; omega), hf, if_neg]
    rintro (q | q | q)
    · omega
    · exact h1 q
    · exact q h3
abbrev mayV (V : BV) (a b : Int) (g : Bool) (i k : Int) : Prop := rA V (-1) a b g i (lnC (vC' V k.toNat)) = k
/-- r is the best RULE ahead of k; -1: none -/
def Bst (V : BV) (w a b : Int) (g : Bool) (i k r : Int) : Prop := (r = -1 ∧ ∀ j, 0 ≤ j → j < k → ¬ j = w → ¬ mayV V a b g i j) ∨ (0 ≤ r ∧ r < k ∧ ¬ r = w ∧ mayV V a b g i r ∧ ∀ j, 0 ≤ j → j < k → ¬ j = w → mayV V a b g i j → lnC (vC' V j.toNat) ≤ lnC (vC' V r.toNat))
theorem Bst_y {V : BV} {w a b : Int} {g : Bool} {i k r : Int} (h : Bst V w a b g i k r) (k0 : 0 ≤ k) (hw : ¬ k = w) (hm : mayV V a b g i k) (hl : r < 0 ∨ lnC (vC' V r.toNat) < lnC (vC' V k.toNat)) : Bst V w a b g i (k + 1) k := by
  refine Or.inr ⟨k0, by omega, hw, hm, fun j j0 j1 jw jm => ?_⟩
  by_cases q : j = k
  · rw [q]; exact Int.le_refl _
  · rcases h with ⟨a1, a2⟩ | ⟨a1, a2, a3, a4, a5⟩
    · exact absurd jm (a2 j j0 (by omega) jw)
    · have := a5 j j0 (by omega) jw jm
      omega
theorem Bst_n {V : BV} {w a b : Int} {g : Bool} {i k r : Int} (h : Bst V w a b g i k r) (hn : k = w ∨ ¬ mayV V a b g i k ∨ (0 ≤ r ∧ lnC (vC' V k.toNat) ≤ lnC (vC' V r.toNat))) : Bst V w a b g i (k + 1) r := by
  rcases h with ⟨a1, a2⟩ | ⟨a1, a2, a3, a4, a5⟩
  · refine Or.inl ⟨a1, fun j j0 j1 jw jm => ?_⟩
    by_cases q : j = k
    · rw [q] at jw jm
      rcases hn with z | z | z
      · exact jw z
      · exact z jm
      · omega
    · exact a2 j j0 (by omega) jw jm
  · refine Or.inr ⟨a1, by omega, a3, a4, fun j j0 j1 jw jm => ?_⟩
    by_cases q : j = k
    · rw [q] at jw jm ⊢
      rcases hn with z | z | z
      · exact absurd z jw
      · exact absurd jm z
      · exact z.2
    · exact a5 j j0 (by omega) jw jm
theorem rA_may {V : BV} (h : vOk V) {w a b : Int} {g : Bool} {i L : Int} (hw : Wd V a b g) (i0 : a ≤ i) (l2 : 2 ≤ L) (l4 : L ≤ 4) (hr : ¬ rA V w a b g i L = -1) : 0 ≤ rA V w a b g i L ∧ rA V w a b g i L < vR V ∧ ¬ rA V w a b g i L = w ∧ lnC (vC' V (rA V w a b g i L).toNat) = L ∧ mayV V a b g i (rA V w a b g i L) := by
  rcases rA_cases V w a b g i L h.2.2.1 with z | ⟨z1, z2, z3, z4, z5, z6, z7⟩
  · exact absurd z hr
  · have hl := (cd_ln l2 l4 (fun j j0 j1 => smV_rng V g (hw.2.2.2.1 j (by omega) (by omega))) z6).1
    rw [← z5] at hl
    refine ⟨z1, z2, z4, hl, ?_⟩
    have q := (rA_k (w := w) h hw i0 z1 z2).mp (by rw [hl])
    exact (rA_k (w := -1) h hw i0 z1 z2).mpr ⟨by omega, q.2⟩
theorem Bst_sv {V : BV} (h : vOk V) {w a b : Int} {g : Bool} {i r : Int} (hw : Wd V a b g) (i0 : a ≤ i) (hb : Bst V w a b g i (vR V) r) : sv V w a b g i = r := by
  rcases hb with ⟨a1, a2⟩ | ⟨a1, a2, a3, a4, a5⟩
  · have nn : ∀ L : Int, 2 ≤ L → L ≤ 4 → rA V w a b g i L = -1 := fun L l2 l4 => Decidable.byContradiction fun q => by
      obtain ⟨z1, z2, z3, z4, z5⟩ := rA_may h hw i0 l2 l4 q
      exact a2 _ z1 z2 z3 z5
    unfold sv
    rw [if_neg (by rw [nn 4 (by omega) (by omega)]; omega), if_neg (by rw [nn 3 (by omega) (by omega)]; omega), nn 2 (by omega) (by omega), a1]
  · have hln := h.ln a1 a2
    have hr : rA V w a b g i (lnC (vC' V r.toNat)) = r := by
      have q := (rA_k (w := -1) h hw i0 a1 a2).mp a4
      exact (rA_k (w := w) h hw i0 a1 a2).mpr ⟨a3, q.2⟩
    have nn : ∀ L : Int, lnC (vC' V r.toNat) < L → L ≤ 4 → rA V w a b g i L = -1 := fun L l2 l4 => Decidable.byContradiction fun q => by
      obtain ⟨z1, z2, z3, z4, z5⟩ := rA_may h hw i0 (by omega) l4 q
      have := a5 _ z1 z2 z3 z5
      omega
    unfold sv
    generalize hL : lnC (vC' V r.toNat) = L at *
    rcases (by omega : L = 2 ∨ L = 3 ∨ L = 4) with rfl | rfl | rfl
    · rw [if_neg (by rw [nn 4 (by omega) (by omega)]; omega), if_neg (by rw [nn 3 (by omega) (by omega)]; omega), hr]
    · rw [if_neg (by rw [nn 4 (by omega) (by omega)]; omega), if_pos (by omega), hr]
    · rw [if_pos (by omega), hr]
theorem mt0 {V : BV} {g : Bool} {j d : Int} (hl : isLt (vS V j)) (hg : ¬ g = true) (hd : 1 ≤ d) (hd2 : d ≤ 26) : d + 96 = vS V j ↔ smV V g j = d := by
  unfold smV
  by_cases q : isSm (vS V j)
  · rw [if_pos (Or.inr q)]; unfold ltN; rw [if_neg (by simp only [isSm, isCp] at *; omega)]; omega
  · rw [if_neg (fun z => z.elim hg q)]; simp only [isLt, isSm, isCp] at *; omega
theorem mt1 {V : BV} {g : Bool} {j d : Int} (hg : g = true) (hc : isCp (vS V j)) : d + 96 = vS V j + 32 ↔ smV V g j = d := by
  unfold smV
  rw [if_pos (Or.inl hg)]; unfold ltN; rw [if_pos hc]; omega
theorem dg_rng {c : Int} (h : vC c) {e : Int} (e0 : 0 ≤ e) (e1 : e < lnC c) : 1 ≤ dgC c e ∧ dgC c e ≤ 26 := by
  have := (vC_iff h.1 h.2.1).mp h e e0 e1
  refine ⟨by omega, ?_⟩
  unfold dgC; omega
def sp_X7_sign0 : SP := fun av M Ret => ∃ i : Int, av = [mr 73, mi i] ∧ (By M) ∧ (Ret (some (mi (vS (YV M) i))) M)
theorem k_X7_sign0 {code : List Sem} {Z : KZ} {Ret : KR} {ls : List (Option MV)} {M : Mem} {r : List MV} (hZ : Sim code Z Ret) (ip np : Nat) {i : Int} (hc : code[ip]? = some (I_callV 7 1 sp_X7_sign0)) (hn : ip + 1 = np) (h3 : catS r ≤ 8)  (hp : By M) (kz : Z np ls (mi (vS (YV M) i) :: r) M) : Z ip ls (mi i :: mr 73 :: r) M := w_callV1 hZ ip np hc hn rfl rfl h3 ⟨_, rfl, hp, kz⟩
def cd_X7_sign0 : List Sem := [I_iload 1, I_i2l, I_lconst (0), I_aload 0, I_get 7 0, I_const (39), I_iald, I_const (1), I_sub, I_i2l, I_callS 3 sp_X7_in, I_ifeq 19, I_aload 0, I_get 7 0, I_const (40), I_iload 1, I_add, I_iald, I_goto 20, I_const (-1), I_iret]
def pc_X7_sign0 : List Nat := [0, 1, 2, 3, 4, 7, 9, 10, 11, 12, 13, 16, 19, 20, 23, 25, 26, 27, 28, 31, 32]
set_option maxRecDepth 100000 in
set_option maxHeartbeats 4000000 in
theorem b_X7_sign0 (i : Int) (i_i : InR i) (M : Mem) (Ret : KR) (hp : By M) (hR : Ret (some (mi (vS (YV M) i))) M) (hM : MOk M) (Z : KZ) (hZ : Sim cd_X7_sign0 Z Ret) : Z 0 [some (mr 73), some (mi i)] [] M := by
  obtain ⟨b1, b2, b3, b4⟩ := hp
  refine w_iload hZ 0 1 rfl rfl rfl ?_
  refine w_i2l hZ 1 2 rfl rfl  ?_
  refine w_lconst hZ 2 3 rfl rfl  ?_
  refine w_aload hZ 3 4 rfl rfl rfl ?_
  refine w_getr hZ 4 5 rfl rfl rfl rfl rfl ?_
  refine w_const hZ 5 6 rfl rfl  ?_
  refine w_ialdk hZ 6 7 39 rfl rfl rfl rfl (by decide) ?_
  refine w_const hZ 7 8 rfl rfl  ?_
  refine w_sub hZ 8 9 rfl rfl (by unfold InR; omega) ?_
  refine w_i2l hZ 9 10 rfl rfl  ?_
  refine k_X7_in hZ 10 11 rfl rfl (Nat.le_of_ble_eq_true rfl)  ?_
  refine w_ifeq hZ 11 12 rfl rfl (fun c11 => ?_) (fun c11 => ?_)
  · refine w_const hZ 19 20 rfl rfl  ?_
    refine w_iret hZ 20 rfl ?_
    first
      | exact ret_i hR (Y_s rfl c11.1 (by show i < M 74 39; omega)).symm
      | exact ret_i hR (if_neg (fun z => (b2i_z.mp c11) ⟨z.1, by have h2 : i < M 74 39 := z.2; omega⟩))
  · replace c11 := b2i_e.mp c11
    refine w_aload hZ 12 13 rfl rfl rfl ?_
    refine w_getr hZ 13 14 rfl rfl rfl rfl rfl ?_
    refine w_const hZ 14 15 rfl rfl  ?_
    refine w_iload hZ 15 16 rfl rfl rfl ?_
    refine w_add hZ 16 17 rfl rfl (by unfold InR; omega) ?_
    refine w_iald hZ 17 18 rfl rfl rfl (by omega) (by omega) ?_
    refine w_goto hZ 18 20 rfl ?_
    refine w_iret hZ 20 rfl ?_
    first
      | exact ret_i hR (Y_s rfl c11.1 (by show i < M 74 39; omega)).symm
      | exact ret_i hR (if_neg (fun z => (b2i_z.mp c11) ⟨z.1, by have h2 : i < M 74 39 := z.2; omega⟩))
set_option maxRecDepth 100000 in
set_option maxHeartbeats 4000000 in
theorem ao_X7_sign0 : AllOk yX7_sign0.cls cX7_sign0 2 1 25 (some .int) none pc_X7_sign0 0 cd_X7_sign0 := ⟨s_iload_n (k := 1) (by decide +kernel) rfl rfl, ⟨s_i2l (by decide +kernel) rfl, ⟨s_lconst (k := 0) (by decide +kernel) rfl ⟨by decide, by decide⟩ (by decide +kernel), ⟨s_aload_n (k := 0) (by decide +kernel) rfl rfl, ⟨s_get (C := RX7) (T := TX7) (N := 22) rfl inT7 (by decide) tw_3_159 (by decide +kernel) rfl, ⟨s_bipush (by decide +kernel) rfl ⟨by decide, by decide⟩ (by decide +kernel), ⟨s_iald (by decide +kernel) rfl, ⟨s_iconst (by decide +kernel) rfl ⟨by decide, by decide⟩, ⟨s_sub (by decide +kernel) rfl, ⟨s_i2l (by decide +kernel) rfl, ⟨s_callS ct_X7_in (by decide) (by decide) ⟨by decide +kernel, by decide +kernel, by decide +kernel⟩ tw_3_234 tw_3_235 tw_1_8 tw_3_236 (by decide +kernel) rfl, ⟨s_ifeq (off := (15)) (by decide +kernel) rfl rfl, ⟨s_aload_n (k := 0) (by decide +kernel) rfl rfl, ⟨s_get (C := RX7) (T := TX7) (N := 22) rfl inT7 (by decide) tw_3_159 (by decide +kernel) rfl, ⟨s_bipush (by decide +kernel) rfl ⟨by decide, by decide⟩ (by decide +kernel), ⟨s_iload_n (k := 1) (by decide +kernel) rfl rfl, ⟨s_add (by decide +kernel) rfl, ⟨s_iald (by decide +kernel) rfl, ⟨s_goto (off := (4)) (by decide +kernel) rfl, ⟨s_iconst (by decide +kernel) rfl ⟨by decide, by decide⟩, ⟨s_iret rfl (by decide +kernel), trivial⟩⟩⟩⟩⟩⟩⟩⟩⟩⟩⟩⟩⟩⟩⟩⟩⟩⟩⟩⟩⟩
theorem ct_X7_sign0 : Ctr yX7_sign0 cX7_sign0 2 (some .int) 1 25 sp_X7_sign0 := by
  refine ctr_of (by decide +kernel) ao_X7_sign0 rfl ?_
  rintro av M Ret ⟨i, rfl, hp, hR⟩ hok hM
  exact ⟨Nat.le_of_ble_eq_true rfl, fun Z hZ => b_X7_sign0  i (hok _ (List.mem_of_getElem? (i := 1) rfl)) M Ret hp hR hM Z hZ⟩
def sp_X7_wordTo : SP := fun av M Ret => ∃ b : Int, av = [mr 73, mi b] ∧ (vOk (YV M) ∧ 0 ≤ b ∧ b ≤ vN (YV M)) ∧ (Ret (some (mi (we (vN (YV M)) (vS (YV M)) b))) M)
theorem k_X7_wordTo {code : List Sem} {Z : KZ} {Ret : KR} {ls : List (Option MV)} {M : Mem} {r : List MV} (hZ : Sim code Z Ret) (ip np : Nat) {b : Int} (hc : code[ip]? = some (I_callV 7 1 sp_X7_wordTo)) (hn : ip + 1 = np) (h3 : catS r ≤ 8)  (hp : vOk (YV M) ∧ 0 ≤ b ∧ b ≤ vN (YV M)) (kz : Z np ls (mi (we (vN (YV M)) (vS (YV M)) b) :: r) M) : Z ip ls (mi b :: mr 73 :: r) M := w_callV1 hZ ip np hc hn rfl rfl h3 ⟨_, rfl, hp, kz⟩
def cd_X7_wordTo : List Sem := [I_iload 1, I_istore 2, I_aload 0, I_iload 2, I_callV 7 1 sp_X7_sign0, I_callS 1 sp_X7_isLetter, I_ifeq 9, I_iinc 2 (1), I_goto 2, I_iload 2, I_iret]
def pc_X7_wordTo : List Nat := [0, 1, 2, 3, 4, 7, 10, 13, 16, 19, 20]
set_option maxRecDepth 100000 in
set_option maxHeartbeats 4000000 in
theorem b_X7_wordTo (b : Int) (i_b : InR b) (M : Mem) (Ret : KR) (hp : vOk (YV M) ∧ 0 ≤ b ∧ b ≤ vN (YV M)) (hR : Ret (some (mi (we (vN (YV M)) (vS (YV M)) b))) M) (hM : MOk M) (Z : KZ) (hZ : Sim cd_X7_wordTo Z Ret) : Z 0 [some (mr 73), some (mi b), none] [] M := by
  obtain ⟨hvo, k0, k1⟩ := hp
  have hb := hvo.yb
  have n120 := hvo.2.1
  have hn := hvo.nl
  have loop : ∀ (d : Nat) (i : Int), d = (vN (YV M) - i).toNat → b ≤ i → i ≤ vN (YV M) → (∀ j : Int, b ≤ j → j < i → isLt (vS (YV M) j)) → Z 2 [some (mr 73), some (mi b), some (mi i)] [] M := by
    intro d
    induction d using Nat.strongRecOn with
    | ind d ih =>
      intro i hd h0 h1 hj
      refine w_aload hZ 2 3 rfl rfl rfl ?_
      refine w_iload hZ 3 4 rfl rfl rfl ?_
      refine k_X7_sign0 hZ 4 5 rfl rfl (Nat.le_of_ble_eq_true rfl) hb ?_
      refine k_X7_isLetter hZ 5 6 rfl rfl (Nat.le_of_ble_eq_true rfl)  ?_
      refine w_ifeq hZ 6 7 rfl rfl (fun c6 => ?_) (fun c6 => ?_)
      · refine w_iload hZ 9 10 rfl rfl rfl ?_
        refine w_iret hZ 10 rfl ?_
        exact ret_i hR (we_eq h0 h1 hn hj (b2i_z.mp c6))
      · replace c6 := b2i_e.mp c6
        have hi : i < vN (YV M) := by
          rcases Int.lt_or_eq_of_le h1 with q | q
          · exact q
          · rw [q] at c6; exact absurd c6 hn
        refine w_in3_2 hZ 7 8 rfl rfl rfl (by unfold InR; omega) ?_
        refine w_goto hZ 8 2 rfl ?_
        refine ih (vN (YV M) - (i + 1)).toNat (by omega) (i + 1) rfl (by omega) (by omega) (fun j j0 j1 => ?_)
        by_cases q : j = i
        · rw [q]; exact c6
        · exact hj j j0 (by omega)
  refine w_iload hZ 0 1 rfl rfl rfl ?_
  refine w_st3_2 hZ 1 2 rfl rfl rfl ?_
  exact loop _ b rfl (Int.le_refl _) k1 (fun j j0 j1 => absurd j1 (by omega))
set_option maxRecDepth 100000 in
set_option maxHeartbeats 4000000 in
theorem ao_X7_wordTo : AllOk yX7_wordTo.cls cX7_wordTo 3 3 65 (some .int) none pc_X7_wordTo 0 cd_X7_wordTo := ⟨s_iload_n (k := 1) (by decide +kernel) rfl rfl, ⟨s_istore_n (k := 2) (by decide +kernel) rfl rfl, ⟨s_aload_n (k := 0) (by decide +kernel) rfl rfl, ⟨s_iload_n (k := 2) (by decide +kernel) rfl rfl, ⟨s_callV (C := RX7) (T := TX7) (N := 22) rfl ct_X7_sign0 (by decide) (by decide) ⟨rfl, by decide +kernel, by decide +kernel, by decide +kernel⟩ tw_4_90 tw_4_92 ts_3_9 tw_1_8 tw_4_93 (by decide +kernel) rfl, ⟨s_callS ct_X7_isLetter (by decide) (by decide) ⟨by decide +kernel, by decide +kernel, by decide +kernel⟩ tw_4_56 tw_4_57 tw_1_8 tw_4_58 (by decide +kernel) rfl, ⟨s_ifeq (off := (9)) (by decide +kernel) rfl rfl, ⟨s_iinc (by decide +kernel) rfl, ⟨s_goto (off := (-14)) (by decide +kernel) rfl, ⟨s_iload_n (k := 2) (by decide +kernel) rfl rfl, ⟨s_iret rfl (by decide +kernel), trivial⟩⟩⟩⟩⟩⟩⟩⟩⟩⟩⟩
theorem ct_X7_wordTo : Ctr yX7_wordTo cX7_wordTo 3 (some .int) 3 65 sp_X7_wordTo := by
  refine ctr_of (by decide +kernel) ao_X7_wordTo rfl ?_
  rintro av M Ret ⟨b, rfl, hp, hR⟩ hok hM
  exact ⟨Nat.le_of_ble_eq_true rfl, fun Z hZ => b_X7_wordTo  b (hok _ (List.mem_of_getElem? (i := 1) rfl)) M Ret hp hR hM Z hZ⟩
def sp_X7_wordFrom : SP := fun av M Ret => ∃ i : Int, av = [mr 73, mi i] ∧ (vOk (YV M) ∧ 0 ≤ i ∧ i ≤ 120) ∧ (Ret (some (mi (wb (vS (YV M)) i))) M)
theorem k_X7_wordFrom {code : List Sem} {Z : KZ} {Ret : KR} {ls : List (Option MV)} {M : Mem} {r : List MV} (hZ : Sim code Z Ret) (ip np : Nat) {i : Int} (hc : code[ip]? = some (I_callV 7 1 sp_X7_wordFrom)) (hn : ip + 1 = np) (h3 : catS r ≤ 8)  (hp : vOk (YV M) ∧ 0 ≤ i ∧ i ≤ 120) (kz : Z np ls (mi (wb (vS (YV M)) i) :: r) M) : Z ip ls (mi i :: mr 73 :: r) M := w_callV1 hZ ip np hc hn rfl rfl h3 ⟨_, rfl, hp, kz⟩
def cd_X7_wordFrom : List Sem := [I_iload 1, I_istore 2, I_aload 0, I_iload 2, I_const (1), I_sub, I_callV 7 1 sp_X7_sign0, I_callS 1 sp_X7_isLetter, I_ifeq 11, I_iinc 2 (-1), I_goto 2, I_iload 2, I_iret]
def pc_X7_wordFrom : List Nat := [0, 1, 2, 3, 4, 5, 6, 9, 12, 15, 18, 21, 22]
set_option maxRecDepth 100000 in
set_option maxHeartbeats 4000000 in
theorem b_X7_wordFrom (i : Int) (i_i : InR i) (M : Mem) (Ret : KR) (hp : vOk (YV M) ∧ 0 ≤ i ∧ i ≤ 120) (hR : Ret (some (mi (wb (vS (YV M)) i))) M) (hM : MOk M) (Z : KZ) (hZ : Sim cd_X7_wordFrom Z Ret) : Z 0 [some (mr 73), some (mi i), none] [] M := by
  obtain ⟨hvo, k0, k1⟩ := hp
  have hb := hvo.yb
  have loop : ∀ (d : Nat) (a : Int), d = a.toNat → 0 ≤ a → a ≤ i → wbF (vS (YV M)) a.toNat a = wb (vS (YV M)) i → Z 2 [some (mr 73), some (mi i), some (mi a)] [] M := by
    intro d
    induction d using Nat.strongRecOn with
    | ind d ih =>
      intro a hd h0 h1 hj
      refine w_aload hZ 2 3 rfl rfl rfl ?_
      refine w_iload hZ 3 4 rfl rfl rfl ?_
      refine w_const hZ 4 5 rfl rfl  ?_
      refine w_sub hZ 5 6 rfl rfl (by unfold InR; omega) ?_
      refine k_X7_sign0 hZ 6 7 rfl rfl (Nat.le_of_ble_eq_true rfl) hb ?_
      refine k_X7_isLetter hZ 7 8 rfl rfl (Nat.le_of_ble_eq_true rfl)  ?_
      refine w_ifeq hZ 8 9 rfl rfl (fun c8 => ?_) (fun c8 => ?_)
      · refine w_iload hZ 11 12 rfl rfl rfl ?_
        refine w_iret hZ 12 rfl ?_
        replace c8 := b2i_z.mp c8
        refine ret_i hR ?_
        rw [← hj]
        cases hk : a.toNat with
        | zero => rfl
        | succ k => show (if _ then _ else _) = _; rw [if_neg c8]
      · replace c8 := b2i_e.mp c8
        have ha : 0 < a := by
          rcases Int.lt_or_eq_of_le h0 with q | q
          · exact q
          · rw [hvo.2.2.2.2.2.1 (a - 1) (Or.inl (by omega))] at c8; exact absurd c8 isLt_m1
        refine w_in3_2 hZ 9 10 rfl rfl rfl (by unfold InR; omega) ?_
        refine w_goto hZ 10 2 rfl ?_
        refine ih (a + -1).toNat (by omega) (a + -1) rfl (by omega) (by omega) ?_
        rw [← hj, show a.toNat = (a + -1).toNat + 1 by omega]
        show _ = (if isLt (vS (YV M) (a - 1)) then wbF (vS (YV M)) (a + -1).toNat (a - 1) else a)
        rw [if_pos c8]
        rfl
  refine w_iload hZ 0 1 rfl rfl rfl ?_
  refine w_st3_2 hZ 1 2 rfl rfl rfl ?_
  exact loop _ i rfl k0 (Int.le_refl _) rfl
set_option maxRecDepth 100000 in
set_option maxHeartbeats 4000000 in
theorem ao_X7_wordFrom : AllOk yX7_wordFrom.cls cX7_wordFrom 3 3 65 (some .int) none pc_X7_wordFrom 0 cd_X7_wordFrom := ⟨s_iload_n (k := 1) (by decide +kernel) rfl rfl, ⟨s_istore_n (k := 2) (by decide +kernel) rfl rfl, ⟨s_aload_n (k := 0) (by decide +kernel) rfl rfl, ⟨s_iload_n (k := 2) (by decide +kernel) rfl rfl, ⟨s_iconst (by decide +kernel) rfl ⟨by decide, by decide⟩, ⟨s_sub (by decide +kernel) rfl, ⟨s_callV (C := RX7) (T := TX7) (N := 22) rfl ct_X7_sign0 (by decide) (by decide) ⟨rfl, by decide +kernel, by decide +kernel, by decide +kernel⟩ tw_4_90 tw_4_92 ts_3_9 tw_1_8 tw_4_93 (by decide +kernel) rfl, ⟨s_callS ct_X7_isLetter (by decide) (by decide) ⟨by decide +kernel, by decide +kernel, by decide +kernel⟩ tw_4_56 tw_4_57 tw_1_8 tw_4_58 (by decide +kernel) rfl, ⟨s_ifeq (off := (9)) (by decide +kernel) rfl rfl, ⟨s_iinc (by decide +kernel) rfl, ⟨s_goto (off := (-16)) (by decide +kernel) rfl, ⟨s_iload_n (k := 2) (by decide +kernel) rfl rfl, ⟨s_iret rfl (by decide +kernel), trivial⟩⟩⟩⟩⟩⟩⟩⟩⟩⟩⟩⟩⟩
theorem ct_X7_wordFrom : Ctr yX7_wordFrom cX7_wordFrom 3 (some .int) 3 65 sp_X7_wordFrom := by
  refine ctr_of (by decide +kernel) ao_X7_wordFrom rfl ?_
  rintro av M Ret ⟨i, rfl, hp, hR⟩ hok hM
  exact ⟨Nat.le_of_ble_eq_true rfl, fun Z hZ => b_X7_wordFrom  i (hok _ (List.mem_of_getElem? (i := 1) rfl)) M Ret hp hR hM Z hZ⟩
def sp_X7_words : SP := fun av M Ret => av = [mr 73] ∧ (vOk (YV M)) ∧ (Ret (some (mi (cntW (vS (YV M)) (vN (YV M)).toNat))) M)
theorem k_X7_words {code : List Sem} {Z : KZ} {Ret : KR} {ls : List (Option MV)} {M : Mem} {r : List MV} (hZ : Sim code Z Ret) (ip np : Nat)  (hc : code[ip]? = some (I_callV 7 0 sp_X7_words)) (hn : ip + 1 = np) (h3 : catS r ≤ 8)  (hp : vOk (YV M)) (kz : Z np ls (mi (cntW (vS (YV M)) (vN (YV M)).toNat) :: r) M) : Z ip ls (mr 73 :: r) M := w_callV0 hZ ip np hc hn rfl rfl h3 ⟨rfl, hp, kz⟩
def cd_X7_words : List Sem := [I_const (0), I_istore 1, I_const (0), I_istore 2, I_iload 2, I_aload 0, I_get 7 0, I_const (39), I_iald, I_cge 28, I_iload 1, I_aload 0, I_iload 2, I_callV 7 1 sp_X7_sign0, I_callS 1 sp_X7_isLetter, I_ifeq 23, I_aload 0, I_iload 2, I_callV 7 1 sp_X7_wordFrom, I_iload 2, I_cne 23, I_const (1), I_goto 24, I_const (0), I_add, I_istore 1, I_iinc 2 (1), I_goto 4, I_iload 1, I_iret]
def pc_X7_words : List Nat := [0, 1, 2, 3, 4, 5, 6, 9, 11, 12, 15, 16, 17, 18, 21, 24, 27, 28, 29, 32, 33, 36, 37, 40, 41, 42, 43, 46, 49, 50]
set_option maxRecDepth 100000 in
set_option maxHeartbeats 4000000 in
theorem b_X7_words  (M : Mem) (Ret : KR) (hp : vOk (YV M)) (hR : Ret (some (mi (cntW (vS (YV M)) (vN (YV M)).toNat))) M) (hM : MOk M) (Z : KZ) (hZ : Sim cd_X7_words Z Ret) : Z 0 [some (mr 73), none, none] [] M := by
  have hb := hp.yb
  have n0 := hp.1
  have n120 := hp.2.1
  have e39 : M 74 39 = vN (YV M) := rfl
  have hm1 : ¬ isLt (vS (YV M) (-1)) := by rw [hp.2.2.2.2.2.1 (-1) (Or.inl (by omega))]; exact isLt_m1
  have loop : ∀ (d k : Nat), d + k = (vN (YV M)).toNat → Z 4 [some (mr 73), some (mi (cntW (vS (YV M)) k)), some (mi (k : Int))] [] M := by
    intro d
    induction d with
    | zero =>
      intro k hk
      refine w_iload hZ 4 5 rfl rfl rfl ?_
      refine w_aload hZ 5 6 rfl rfl rfl ?_
      refine w_getr hZ 6 7 rfl rfl rfl rfl rfl ?_
      refine w_const hZ 7 8 rfl rfl  ?_
      refine w_ialdv hZ 8 9 rfl rfl rfl (by omega) (by omega) (v := vN (YV M)) rfl ?_
      refine w_cge hZ 9 10 rfl rfl (fun c9 => ?_) (fun c9 => absurd c9 (by omega))
      refine w_iload hZ 28 29 rfl rfl rfl ?_
      refine w_iret hZ 29 rfl ?_
      exact ret_i hR (by congr 1; omega)
    | succ d ih =>
      intro k hk
      have hc := cntW_le (vS (YV M)) k
      have hwb := wb_eq hm1 (i := (k : Int)) (by omega)
      have step : ∀ z : Int, z = b2i (isLt (vS (YV M) k) ∧ ¬ isLt (vS (YV M) ((k : Int) - 1))) → Z 24 [some (mr 73), some (mi (cntW (vS (YV M)) k)), some (mi (k : Int))] [mi z, mi (cntW (vS (YV M)) k)] M := by
        intro z hz
        have hz1 := b2i_01 (isLt (vS (YV M) k) ∧ ¬ isLt (vS (YV M) ((k : Int) - 1)))
        refine w_add hZ 24 25 rfl rfl (by unfold InR; omega) ?_
        refine w_st3_1 hZ 25 26 rfl rfl rfl ?_
        refine w_in3_2 hZ 26 27 rfl rfl rfl (by unfold InR; omega) ?_
        refine w_goto hZ 27 4 rfl ?_
        have e := ih (k + 1) (by omega)
        unfold cntW at e
        rw [hz]
        exact e
      refine w_iload hZ 4 5 rfl rfl rfl ?_
      refine w_aload hZ 5 6 rfl rfl rfl ?_
      refine w_getr hZ 6 7 rfl rfl rfl rfl rfl ?_
      refine w_const hZ 7 8 rfl rfl  ?_
      refine w_ialdv hZ 8 9 rfl rfl rfl (by omega) (by omega) (v := vN (YV M)) rfl ?_
      refine w_cge hZ 9 10 rfl rfl (fun c9 => absurd c9 (by omega)) (fun c9 => ?_)
      refine w_iload hZ 10 11 rfl rfl rfl ?_
      refine w_aload hZ 11 12 rfl rfl rfl ?_
      refine w_iload hZ 12 13 rfl rfl rfl ?_
      refine k_X7_sign0 hZ 13 14 rfl rfl (Nat.le_of_ble_eq_true rfl) hb ?_
      refine k_X7_isLetter hZ 14 15 rfl rfl (Nat.le_of_ble_eq_true rfl)  ?_
      refine w_ifeq hZ 15 16 rfl rfl (fun c15 => ?_) (fun c15 => ?_)
      · refine w_const hZ 23 24 rfl rfl  ?_
        first
          | exact step _ (b2i_t ⟨b2i_e.mp c15, hwb.mp c20⟩).symm
          | exact step _ (b2i_f (fun z => (b2i_z.mp c15) z.1)).symm
          | exact step _ (b2i_f (fun z => c20 (hwb.mpr z.2))).symm
      · refine w_aload hZ 16 17 rfl rfl rfl ?_
        refine w_iload hZ 17 18 rfl rfl rfl ?_
        refine k_X7_wordFrom hZ 18 19 rfl rfl (Nat.le_of_ble_eq_true rfl) ⟨hp, by omega, by omega⟩ ?_
        refine w_iload hZ 19 20 rfl rfl rfl ?_
        refine w_cne hZ 20 21 rfl rfl (fun c20 => ?_) (fun c20 => ?_)
        · refine w_const hZ 23 24 rfl rfl  ?_
          first
            | exact step _ (b2i_t ⟨b2i_e.mp c15, hwb.mp c20⟩).symm
            | exact step _ (b2i_f (fun z => (b2i_z.mp c15) z.1)).symm
            | exact step _ (b2i_f (fun z => c20 (hwb.mpr z.2))).symm
        · refine w_const hZ 21 22 rfl rfl  ?_
          refine w_goto hZ 22 24 rfl ?_
          first
            | exact step _ (b2i_t ⟨b2i_e.mp c15, hwb.mp c20⟩).symm
            | exact step _ (b2i_f (fun z => (b2i_z.mp c15) z.1)).symm
            | exact step _ (b2i_f (fun z => c20 (hwb.mpr z.2))).symm
  refine w_const hZ 0 1 rfl rfl  ?_
  refine w_st3_1 hZ 1 2 rfl rfl rfl ?_
  refine w_const hZ 2 3 rfl rfl  ?_
  refine w_st3_2 hZ 3 4 rfl rfl rfl ?_
  exact loop (vN (YV M)).toNat 0 (by omega)
set_option maxRecDepth 100000 in
set_option maxHeartbeats 4000000 in
theorem ao_X7_words : AllOk yX7_words.cls cX7_words 3 4 87 (some .int) none pc_X7_words 0 cd_X7_words := ⟨s_iconst (by decide +kernel) rfl ⟨by decide, by decide⟩, ⟨s_istore_n (k := 1) (by decide +kernel) rfl rfl, ⟨s_iconst (by decide +kernel) rfl ⟨by decide, by decide⟩, ⟨s_istore_n (k := 2) (by decide +kernel) rfl rfl, ⟨s_iload_n (k := 2) (by decide +kernel) rfl rfl, ⟨s_aload_n (k := 0) (by decide +kernel) rfl rfl, ⟨s_get (C := RX7) (T := TX7) (N := 22) rfl inT7 (by decide) tw_3_159 (by decide +kernel) rfl, ⟨s_bipush (by decide +kernel) rfl ⟨by decide, by decide⟩ (by decide +kernel), ⟨s_iald (by decide +kernel) rfl, ⟨s_cge (off := (37)) (by decide +kernel) rfl rfl, ⟨s_iload_n (k := 1) (by decide +kernel) rfl rfl, ⟨s_aload_n (k := 0) (by decide +kernel) rfl rfl, ⟨s_iload_n (k := 2) (by decide +kernel) rfl rfl, ⟨s_callV (C := RX7) (T := TX7) (N := 22) rfl ct_X7_sign0 (by decide) (by decide) ⟨rfl, by decide +kernel, by decide +kernel, by decide +kernel⟩ tw_4_90 tw_4_92 ts_3_9 tw_1_8 tw_4_93 (by decide +kernel) rfl, ⟨s_callS ct_X7_isLetter (by decide) (by decide) ⟨by decide +kernel, by decide +kernel, by decide +kernel⟩ tw_4_56 tw_4_57 tw_1_8 tw_4_58 (by decide +kernel) rfl, ⟨s_ifeq (off := (16)) (by decide +kernel) rfl rfl, ⟨s_aload_n (k := 0) (by decide +kernel) rfl rfl, ⟨s_iload_n (k := 2) (by decide +kernel) rfl rfl, ⟨s_callV (C := RX7) (T := TX7) (N := 22) rfl ct_X7_wordFrom (by decide) (by decide) ⟨rfl, by decide +kernel, by decide +kernel, by decide +kernel⟩ tw_4_94 tw_4_96 ts_3_10 tw_1_8 tw_4_97 (by decide +kernel) rfl, ⟨s_iload_n (k := 2) (by decide +kernel) rfl rfl, ⟨s_cne (off := (7)) (by decide +kernel) rfl rfl, ⟨s_iconst (by decide +kernel) rfl ⟨by decide, by decide⟩, ⟨s_goto (off := (4)) (by decide +kernel) rfl, ⟨s_iconst (by decide +kernel) rfl ⟨by decide, by decide⟩, ⟨s_add (by decide +kernel) rfl, ⟨s_istore_n (k := 1) (by decide +kernel) rfl rfl, ⟨s_iinc (by decide +kernel) rfl, ⟨s_goto (off := (-42)) (by decide +kernel) rfl, ⟨s_iload_n (k := 1) (by decide +kernel) rfl rfl, ⟨s_iret rfl (by decide +kernel), trivial⟩⟩⟩⟩⟩⟩⟩⟩⟩⟩⟩⟩⟩⟩⟩⟩⟩⟩⟩⟩⟩⟩⟩⟩⟩⟩⟩⟩⟩⟩
theorem ct_X7_words : Ctr yX7_words cX7_words 3 (some .int) 4 87 sp_X7_words := by
  refine ctr_of (by decide +kernel) ao_X7_words rfl ?_
  rintro av M Ret ⟨rfl, hp, hR⟩ hok hM
  exact ⟨Nat.le_of_ble_eq_true rfl, fun Z hZ => b_X7_words   M Ret hp hR hM Z hZ⟩
def sp_X7_isAllGreat : SP := fun av M Ret => ∃ a : Int, ∃ b : Int, av = [mr 73, mi a, mi b] ∧ (By M ∧ 0 ≤ a ∧ a ≤ b ∧ b ≤ 120) ∧ (Ret (some (mi (b2i (alC (YV M) a b = true)))) M)
theorem k_X7_isAllGreat {code : List Sem} {Z : KZ} {Ret : KR} {ls : List (Option MV)} {M : Mem} {r : List MV} (hZ : Sim code Z Ret) (ip np : Nat) {a b : Int} (hc : code[ip]? = some (I_callV 7 2 sp_X7_isAllGreat)) (hn : ip + 1 = np) (h3 : catS r ≤ 8)  (hp : By M ∧ 0 ≤ a ∧ a ≤ b ∧ b ≤ 120) (kz : Z np ls (mi (b2i (alC (YV M) a b = true)) :: r) M) : Z ip ls (mi b :: mi a :: mr 73 :: r) M := w_callV2 hZ ip np hc hn rfl rfl h3 ⟨_, _, rfl, hp, kz⟩
def cd_X7_isAllGreat : List Sem := [I_iload 2, I_iload 1, I_sub, I_const (1), I_cle 7, I_const (1), I_goto 8, I_const (0), I_istore 3, I_iload 1, I_istore 4, I_iload 4, I_iload 2, I_cge 27, I_iload 3, I_ifeq 23, I_aload 0, I_iload 4, I_callV 7 1 sp_X7_sign0, I_callS 1 sp_X7_isGreat, I_ifeq 23, I_const (1), I_goto 24, I_const (0), I_istore 3, I_iinc 4 (1), I_goto 11, I_iload 3, I_zret]
def pc_X7_isAllGreat : List Nat := [0, 1, 2, 3, 4, 7, 8, 11, 12, 13, 14, 16, 18, 19, 22, 23, 26, 27, 29, 32, 35, 38, 39, 42, 43, 44, 47, 50, 51]
set_option maxRecDepth 100000 in
set_option maxHeartbeats 4000000 in
theorem b_X7_isAllGreat (a : Int) (i_a : InR a) (b : Int) (i_b : InR b) (M : Mem) (Ret : KR) (hp : By M ∧ 0 ≤ a ∧ a ≤ b ∧ b ≤ 120) (hR : Ret (some (mi (b2i (alC (YV M) a b = true)))) M) (hM : MOk M) (Z : KZ) (hZ : Sim cd_X7_isAllGreat Z Ret) : Z 0 [some (mr 73), some (mi a), some (mi b), none, none] [] M := by
  obtain ⟨hb, a0, ab, b0⟩ := hp
  have hal : Hid (alC (YV M) a b = true ↔ 2 ≤ b - a ∧ ∀ j, a ≤ j → j < b → isCp (vS (YV M) j)) := alC_iff (YV M) a b
  have loop : ∀ (d : Nat) (is i : Int), d = (b - i).toNat → a ≤ i → i ≤ b → (is = 0 ∨ is = 1) → Hid (is = 1 ↔ 2 ≤ b - a ∧ ∀ j, a ≤ j → j < i → isCp (vS (YV M) j)) → Z 11 [some (mr 73), some (mi a), some (mi b), some (mi is), some (mi i)] [] M := by
    intro d
    induction d using Nat.strongRecOn with
    | ind d ih =>
      intro is i hd h0 h1 his hI
      have step : i < b → ∀ is2 : Int, (is2 = 0 ∨ is2 = 1) → (is2 = 1 ↔ is = 1 ∧ isCp (vS (YV M) i)) → Z 25 [some (mr 73), some (mi a), some (mi b), some (mi is2), some (mi i)] [] M := by
        intro hi is2 h01 h2
        refine w_in5_4 hZ 25 26 rfl rfl rfl (by unfold InR; omega) ?_
        refine w_goto hZ 26 11 rfl ?_
        refine ih (b - (i + 1)).toNat (by omega) is2 (i + 1) rfl (by omega) (by omega) h01 ?_
        unfold Hid
        rw [h2, hI.u]
        constructor
        · rintro ⟨⟨q1, q2⟩, q3⟩
          refine ⟨q1, fun j j0 j1 => ?_⟩
          by_cases q : j = i
          · rw [q]; exact q3
          · exact q2 j j0 (by omega)
        · rintro ⟨q1, q2⟩
          exact ⟨⟨q1, fun j j0 j1 => q2 j j0 (by omega)⟩, q2 i h0 (by omega)⟩
      refine w_iload hZ 11 12 rfl rfl rfl ?_
      refine w_iload hZ 12 13 rfl rfl rfl ?_
      refine w_cge hZ 13 14 rfl rfl (fun c13 => ?_) (fun c13 => ?_)
      · refine w_iload hZ 27 28 rfl rfl rfl ?_
        refine w_zret hZ 28 rfl (by omega) ?_
        refine ret_i hR ?_
        have hI' := hI.u
        rw [show i = b by omega] at hI'
        by_cases q : is = 1
        · rw [q]; exact b2i_t (hal.u.mpr (hI'.mp q))
        · rw [show is = 0 by omega]; exact b2i_f (fun z => q (hI'.mpr (hal.u.mp z)))
      · refine w_iload hZ 14 15 rfl rfl rfl ?_
        refine w_ifeq hZ 15 16 rfl rfl (fun c15 => ?_) (fun c15 => ?_)
        · refine w_const hZ 23 24 rfl rfl  ?_
          refine w_st5_3 hZ 24 25 rfl rfl rfl ?_
          first
            | exact step (by omega) _ (Or.inr rfl) ⟨fun _ => ⟨by omega, b2i_e.mp c20⟩, fun _ => rfl⟩
            | exact step (by omega) _ (Or.inl rfl) ⟨fun z => absurd z (by decide), fun z => absurd z.2 (b2i_z.mp c20)⟩
            | exact step (by omega) _ (Or.inl rfl) ⟨fun z => absurd z (by decide), fun z => absurd z.1 (by omega)⟩
        · refine w_aload hZ 16 17 rfl rfl rfl ?_
          refine w_iload hZ 17 18 rfl rfl rfl ?_
          refine k_X7_sign0 hZ 18 19 rfl rfl (Nat.le_of_ble_eq_true rfl) hb ?_
          refine k_X7_isGreat hZ 19 20 rfl rfl (Nat.le_of_ble_eq_true rfl)  ?_
          refine w_ifeq hZ 20 21 rfl rfl (fun c20 => ?_) (fun c20 => ?_)
          · refine w_const hZ 23 24 rfl rfl  ?_
            refine w_st5_3 hZ 24 25 rfl rfl rfl ?_
            first
              | exact step (by omega) _ (Or.inr rfl) ⟨fun _ => ⟨by omega, b2i_e.mp c20⟩, fun _ => rfl⟩
              | exact step (by omega) _ (Or.inl rfl) ⟨fun z => absurd z (by decide), fun z => absurd z.2 (b2i_z.mp c20)⟩
              | exact step (by omega) _ (Or.inl rfl) ⟨fun z => absurd z (by decide), fun z => absurd z.1 (by omega)⟩
          · refine w_const hZ 21 22 rfl rfl  ?_
            refine w_goto hZ 22 24 rfl ?_
            refine w_st5_3 hZ 24 25 rfl rfl rfl ?_
            first
              | exact step (by omega) _ (Or.inr rfl) ⟨fun _ => ⟨by omega, b2i_e.mp c20⟩, fun _ => rfl⟩
              | exact step (by omega) _ (Or.inl rfl) ⟨fun z => absurd z (by decide), fun z => absurd z.2 (b2i_z.mp c20)⟩
              | exact step (by omega) _ (Or.inl rfl) ⟨fun z => absurd z (by decide), fun z => absurd z.1 (by omega)⟩
  refine w_iload hZ 0 1 rfl rfl rfl ?_
  refine w_iload hZ 1 2 rfl rfl rfl ?_
  refine w_sub hZ 2 3 rfl rfl (by unfold InR; omega) ?_
  refine w_const hZ 3 4 rfl rfl  ?_
  refine w_cle hZ 4 5 rfl rfl (fun c4 => ?_) (fun c4 => ?_)
  · refine w_const hZ 7 8 rfl rfl  ?_
    refine w_st5_3 hZ 8 9 rfl rfl rfl ?_
    refine w_iload hZ 9 10 rfl rfl rfl ?_
    refine w_st5_4 hZ 10 11 rfl rfl rfl ?_
    first
      | exact loop _ _ a rfl (Int.le_refl _) ab (Or.inr rfl) ⟨fun _ => ⟨by omega, fun j j0 j1 => absurd j1 (by omega)⟩, fun _ => rfl⟩
      | exact loop _ _ a rfl (Int.le_refl _) ab (Or.inl rfl) ⟨fun z => absurd z (by decide), fun z => absurd z.1 (by omega)⟩
  · refine w_const hZ 5 6 rfl rfl  ?_
    refine w_goto hZ 6 8 rfl ?_
    refine w_st5_3 hZ 8 9 rfl rfl rfl ?_
    refine w_iload hZ 9 10 rfl rfl rfl ?_
    refine w_st5_4 hZ 10 11 rfl rfl rfl ?_
    first
      | exact loop _ _ a rfl (Int.le_refl _) ab (Or.inr rfl) ⟨fun _ => ⟨by omega, fun j j0 j1 => absurd j1 (by omega)⟩, fun _ => rfl⟩
      | exact loop _ _ a rfl (Int.le_refl _) ab (Or.inl rfl) ⟨fun z => absurd z (by decide), fun z => absurd z.1 (by omega)⟩
set_option maxRecDepth 100000 in
set_option maxHeartbeats 4000000 in
theorem ao_X7_isAllGreat : AllOk yX7_isAllGreat.cls cX7_isAllGreat 5 2 46 (some .boolean) none pc_X7_isAllGreat 0 cd_X7_isAllGreat := ⟨s_iload_n (k := 2) (by decide +kernel) rfl rfl, ⟨s_iload_n (k := 1) (by decide +kernel) rfl rfl, ⟨s_sub (by decide +kernel) rfl, ⟨s_iconst (by decide +kernel) rfl ⟨by decide, by decide⟩, ⟨s_cle (off := (7)) (by decide +kernel) rfl rfl, ⟨s_iconst (by decide +kernel) rfl ⟨by decide, by decide⟩, ⟨s_goto (off := (4)) (by decide +kernel) rfl, ⟨s_iconst (by decide +kernel) rfl ⟨by decide, by decide⟩, ⟨s_istore_n (k := 3) (by decide +kernel) rfl rfl, ⟨s_iload_n (k := 1) (by decide +kernel) rfl rfl, ⟨s_istore (by decide +kernel) rfl, ⟨s_iload (by decide +kernel) rfl, ⟨s_iload_n (k := 2) (by decide +kernel) rfl rfl, ⟨s_cge (off := (31)) (by decide +kernel) rfl rfl, ⟨s_iload_n (k := 3) (by decide +kernel) rfl rfl, ⟨s_ifeq (off := (19)) (by decide +kernel) rfl rfl, ⟨s_aload_n (k := 0) (by decide +kernel) rfl rfl, ⟨s_iload (by decide +kernel) rfl, ⟨s_callV (C := RX7) (T := TX7) (N := 22) rfl ct_X7_sign0 (by decide) (by decide) ⟨rfl, by decide +kernel, by decide +kernel, by decide +kernel⟩ tw_4_90 tw_4_92 ts_3_9 tw_1_8 tw_4_93 (by decide +kernel) rfl, ⟨s_callS ct_X7_isGreat (by decide) (by decide) ⟨by decide +kernel, by decide +kernel, by decide +kernel⟩ tw_4_64 tw_4_65 tw_1_8 tw_4_66 (by decide +kernel) rfl, ⟨s_ifeq (off := (7)) (by decide +kernel) rfl rfl, ⟨s_iconst (by decide +kernel) rfl ⟨by decide, by decide⟩, ⟨s_goto (off := (4)) (by decide +kernel) rfl, ⟨s_iconst (by decide +kernel) rfl ⟨by decide, by decide⟩, ⟨s_istore_n (k := 3) (by decide +kernel) rfl rfl, ⟨s_iinc (by decide +kernel) rfl, ⟨s_goto (off := (-31)) (by decide +kernel) rfl, ⟨s_iload_n (k := 3) (by decide +kernel) rfl rfl, ⟨s_zret rfl (by decide +kernel), trivial⟩⟩⟩⟩⟩⟩⟩⟩⟩⟩⟩⟩⟩⟩⟩⟩⟩⟩⟩⟩⟩⟩⟩⟩⟩⟩⟩⟩⟩
theorem ct_X7_isAllGreat : Ctr yX7_isAllGreat cX7_isAllGreat 5 (some .boolean) 2 46 sp_X7_isAllGreat := by
  refine ctr_of (by decide +kernel) ao_X7_isAllGreat rfl ?_
  rintro av M Ret ⟨a, b, rfl, hp, hR⟩ hok hM
  exact ⟨Nat.le_of_ble_eq_true rfl, fun Z hZ => b_X7_isAllGreat  a (hok _ (List.mem_of_getElem? (i := 1) rfl)) b (hok _ (List.mem_of_getElem? (i := 2) rfl)) M Ret hp hR hM Z hZ⟩
def sp_X7_mayServe : SP := fun av M Ret => ∃ g : Bool, ∃ k : Int, ∃ i : Int, ∃ a : Int, ∃ b : Int, ∃ gi : Int, av = [mr 73, mi k, mi i, mi a, mi b, mi gi] ∧ (vOk (YV M) ∧ Wd (YV M) a b g ∧ a ≤ i ∧ i < b ∧ 0 ≤ k ∧ k < vR (YV M) ∧ gi = b2i (g = true)) ∧ (Ret (some (mi (b2i (mayV (YV M) a b g i k)))) M)
theorem k_X7_mayServe {code : List Sem} {Z : KZ} {Ret : KR} {ls : List (Option MV)} {M : Mem} {r : List MV} (hZ : Sim code Z Ret) (ip np : Nat) {g : Bool} {k i a b gi : Int} (hc : code[ip]? = some (I_callV 7 5 sp_X7_mayServe)) (hn : ip + 1 = np) (h3 : catS r ≤ 8)  (hp : vOk (YV M) ∧ Wd (YV M) a b g ∧ a ≤ i ∧ i < b ∧ 0 ≤ k ∧ k < vR (YV M) ∧ gi = b2i (g = true)) (kz : Z np ls (mi (b2i (mayV (YV M) a b g i k)) :: r) M) : Z ip ls (mi gi :: mi b :: mi a :: mi i :: mi k :: mr 73 :: r) M := w_callV5 hZ ip np hc hn rfl rfl h3 ⟨_, _, _, _, _, _, rfl, hp, kz⟩
def cd_X7_mayServe : List Sem := [I_aload 0, I_get 7 0, I_const (1), I_iload 1, I_add, I_iald, I_callS 1 sp_X7_lettersOf, I_istore 6, I_iload 2, I_iload 6, I_add, I_iload 4, I_cgt 29, I_aload 0, I_get 7 0, I_const (25), I_iload 1, I_add, I_iald, I_iload 2, I_iload 2, I_iload 6, I_add, I_iload 3, I_iload 4, I_callS 5 sp_X7_mayByKind, I_ifeq 29, I_const (1), I_goto 30, I_const (0), I_istore 7, I_const (0), I_istore 8, I_iload 8, I_iload 6, I_cge 66, I_iload 7, I_ifeq 66, I_aload 0, I_iload 2, I_iload 8, I_add, I_callV 7 1 sp_X7_sign0, I_istore 9, I_aload 0, I_get 7 0, I_const (1), I_iload 1, I_add, I_iald, I_iload 8, I_callS 2 sp_X7_letterOf, I_iload 5, I_ifeq 58, I_iload 9, I_const (32), I_add, I_goto 59, I_iload 9, I_cne 62, I_const (1), I_goto 63, I_const (0), I_istore 7, I_iinc 8 (1), I_goto 33, I_iload 7, I_zret]
def pc_X7_mayServe : List Nat := [0, 1, 4, 5, 6, 7, 8, 11, 13, 14, 16, 17, 19, 22, 23, 26, 28, 29, 30, 31, 32, 33, 35, 36, 37, 39, 42, 45, 46, 49, 50, 52, 53, 55, 57, 59, 62, 64, 67, 68, 69, 71, 72, 75, 77, 78, 81, 82, 83, 84, 85, 87, 90, 92, 95, 97, 99, 100, 103, 105, 108, 109, 112, 113, 115, 118, 121, 123]
set_option maxRecDepth 100000 in
set_option maxHeartbeats 4000000 in
theorem b_X7_mayServe (g : Bool) (k : Int) (i_k : InR k) (i : Int) (i_i : InR i) (a : Int) (i_a : InR a) (b : Int) (i_b : InR b) (gi : Int) (i_gi : InR gi) (M : Mem) (Ret : KR) (hp : vOk (YV M) ∧ Wd (YV M) a b g ∧ a ≤ i ∧ i < b ∧ 0 ≤ k ∧ k < vR (YV M) ∧ gi = b2i (g = true)) (hR : Ret (some (mi (b2i (mayV (YV M) a b g i k)))) M) (hM : MOk M) (Z : KZ) (hZ : Sim cd_X7_mayServe Z Ret) : Z 0 [some (mr 73), some (mi k), some (mi i), some (mi a), some (mi b), some (mi gi), none, none, none, none] [] M := by
  obtain ⟨hvo, hw, i0, i1, k0, k1, hgi⟩ := hp
  have hb := hvo.yb
  have n120 := hvo.2.1
  have hvR : vR (YV M) ≤ 12 := hvo.2.2.2.1
  have hw0 := hw.1
  have hw2 := hw.2.2.1
  have hwl : ∀ j, a ≤ j → j < b → isLt (vS (YV M) j) := hw.2.2.2.1
  have hwg : g = true → ∀ j, a ≤ j → j < b → isCp (vS (YV M) j) := hw.2.2.2.2
  have hk : Hid (mayV (YV M) a b g i k ↔ (¬ k = -1 ∧ i + lnC (vC' (YV M) k.toNat) ≤ b ∧ kdOk (vK (YV M) k.toNat) i (i + lnC (vC' (YV M) k.toNat)) a b ∧ ∀ e, 0 ≤ e → e < lnC (vC' (YV M) k.toNat) → smV (YV M) g (i + e) = dgC (vC' (YV M) k.toNat) e)) := rA_k (w := -1) hvo hw i0 k0 k1
  have hc := (hvo.2.2.2.2.2.2.1 k.toNat (by omega)).1
  have hc5 : vC' (YV M) k.toNat < 531441 := hc.2.1
  have hc0 : 27 ≤ vC' (YV M) k.toNat := hc.1
  have hln := hvo.ln k0 k1
  have hcy : M 74 (1 + k).toNat = vC' (YV M) k.toNat := Y_c rfl k0 k1
  have hky : M 74 (25 + k).toNat = vK (YV M) k.toNat := Y_k rfl k0 k1
  replace hc : Hid (vC (vC' (YV M) k.toNat)) := hc
  obtain ⟨c, hC⟩ : ∃ c, vC' (YV M) k.toNat = c := ⟨_, rfl⟩
  rw [hC] at hk hc hc5 hc0 hln hcy
  obtain ⟨L, hL⟩ : ∃ L, lnC c = L := ⟨_, rfl⟩
  rw [hL] at hk hln
  have end0 : ∀ (e : Int) (x : Option MV), ¬ mayV (YV M) a b g i k → Z 33 [some (mr 73), some (mi k), some (mi i), some (mi a), some (mi b), some (mi gi), some (mi L), some (mi 0), some (mi e), x] [] M := by
    intro e x hn
    refine w_iload hZ 33 34 rfl rfl rfl ?_
    refine w_iload hZ 34 35 rfl rfl rfl ?_
    refine w_cge hZ 35 36 rfl rfl (fun c35 => ?_) (fun c35 => ?_)
    · refine w_iload hZ 66 67 rfl rfl rfl ?_
      refine w_zret hZ 67 rfl (by omega) ?_
      exact ret_i hR (b2i_f hn)
    · refine w_iload hZ 36 37 rfl rfl rfl ?_
      refine w_ifeq hZ 37 38 rfl rfl (fun c37 => ?_) (fun c37 => absurd c37 (by omega))
      refine w_iload hZ 66 67 rfl rfl rfl ?_
      refine w_zret hZ 67 rfl (by omega) ?_
      exact ret_i hR (b2i_f hn)
  have loop : i + L ≤ b → kdOk (vK (YV M) k.toNat) i (i + L) a b → ∀ (d : Nat) (e : Int) (x : Option MV), noL [some (mr 73), some (mi k), some (mi i), some (mi a), some (mi b), some (mi gi), some (mi L), some (mi 1), some (mi e), x] = true → d = (L - e).toNat → 0 ≤ e → e ≤ L → Hid (∀ q, 0 ≤ q → q < e → smV (YV M) g (i + q) = dgC c q) → Z 33 [some (mr 73), some (mi k), some (mi i), some (mi a), some (mi b), some (mi gi), some (mi L), some (mi 1), some (mi e), x] [] M := by
    intro hib hkd d
    replace hkd : Hid (kdOk (vK (YV M) k.toNat) i (i + L) a b) := hkd
    induction d using Nat.strongRecOn with
    | ind d ih =>
      intro e x hx hd e0 e1 hI
      refine w_fg10_9 hZ ?_
      have y1 : e < L → smV (YV M) g (i + e) = dgC c e → ∀ s : Int, Z 64 [some (mr 73), some (mi k), some (mi i), some (mi a), some (mi b), some (mi gi), some (mi L), some (mi 1), some (mi e), some (mi s)] [] M := by
        intro he hm s
        refine w_in10_8 hZ 64 65 rfl rfl rfl (by unfold InR; omega) ?_
        refine w_goto hZ 65 33 rfl ?_
        refine ih (L - (e + 1)).toNat (by omega) (e + 1) _ rfl rfl (by omega) (by omega) (fun q q0 q1 => ?_)
        by_cases z : q = e
        · rw [z]; exact hm
        · exact hI.u q q0 (by omega)
      have y0 : e < L → ¬ smV (YV M) g (i + e) = dgC c e → ∀ s : Int, Z 64 [some (mr 73), some (mi k), some (mi i), some (mi a), some (mi b), some (mi gi), some (mi L), some (mi 0), some (mi e), some (mi s)] [] M := by
        intro he hm s
        refine w_in10_8 hZ 64 65 rfl rfl rfl (by unfold InR; omega) ?_
        refine w_goto hZ 65 33 rfl ?_
        refine end0 _ _ (fun z => hm ?_)
        have := (hk.u.mp z).2.2.2 e e0 he
        exact this
      refine w_iload hZ 33 34 rfl rfl rfl ?_
      refine w_iload hZ 34 35 rfl rfl rfl ?_
      refine w_cge hZ 35 36 rfl rfl (fun c35 => ?_) (fun c35 => ?_)
      · refine w_iload hZ 66 67 rfl rfl rfl ?_
        refine w_zret hZ 67 rfl (by omega) ?_
        refine ret_i hR (b2i_t ?_)
        exact hk.u.mpr ⟨by omega, hib, hkd.u, fun q q0 q1 => hI.u q q0 (by omega)⟩
      · refine w_iload hZ 36 37 rfl rfl rfl ?_
        refine w_ifeq hZ 37 38 rfl rfl (fun c37 => absurd c37 (by omega)) (fun c37 => ?_)
        have hlt := hwl (i + e) (by omega) (by omega)
        have hsr : -1 ≤ vS (YV M) (i + e) ∧ vS (YV M) (i + e) ≤ 200 := by simp only [isLt, isSm, isCp] at hlt; omega
        have hdr := dg_rng hc.u e0 (by omega)
        refine w_aload hZ 38 39 rfl rfl rfl ?_
        refine w_iload hZ 39 40 rfl rfl rfl ?_
        refine w_iload hZ 40 41 rfl rfl rfl ?_
        refine w_add hZ 41 42 rfl rfl (by unfold InR; omega) ?_
        refine k_X7_sign0 hZ 42 43 rfl rfl (Nat.le_of_ble_eq_true rfl) hb ?_
        refine w_st10_9 hZ 43 44 rfl rfl rfl ?_
        refine w_aload hZ 44 45 rfl rfl rfl ?_
        refine w_getr hZ 45 46 rfl rfl rfl rfl rfl ?_
        refine w_const hZ 46 47 rfl rfl  ?_
        refine w_iload hZ 47 48 rfl rfl rfl ?_
        refine w_add hZ 48 49 rfl rfl (by unfold InR; omega) ?_
        refine w_ialdv hZ 49 50 rfl rfl rfl (by omega) (by omega) (v := c) hcy ?_
        refine w_iload hZ 50 51 rfl rfl rfl ?_
        refine k_X7_letterOf hZ 51 52 rfl rfl (Nat.le_of_ble_eq_true rfl) ⟨by omega, hc5, e0, by omega⟩ ?_
        refine w_iload hZ 52 53 rfl rfl rfl ?_
        refine w_ifeq hZ 53 54 rfl rfl (fun c53 => ?_) (fun c53 => ?_)
        · refine w_iload hZ 58 59 rfl rfl rfl ?_
          refine w_cne hZ 59 60 rfl rfl (fun c59 => ?_) (fun c59 => ?_)
          · refine w_const hZ 62 63 rfl rfl  ?_
            refine w_st10_7 hZ 63 64 rfl rfl rfl ?_
            first
              | exact y1 (by omega) ((mt0 hlt (b2i_z.mp (by omega)) hdr.1 hdr.2).mp c59) _
              | exact y1 (by omega) ((mt1 (b2i_e.mp (by omega)) (hwg (b2i_e.mp (by omega)) _ (by omega) (by omega))).mp c59) _
              | exact y0 (by omega) (fun z => c59 ((mt0 hlt (b2i_z.mp (by omega)) hdr.1 hdr.2).mpr z)) _
              | exact y0 (by omega) (fun z => c59 ((mt1 (b2i_e.mp (by omega)) (hwg (b2i_e.mp (by omega)) _ (by omega) (by omega))).mpr z)) _
          · refine w_const hZ 60 61 rfl rfl  ?_
            refine w_goto hZ 61 63 rfl ?_
            refine w_st10_7 hZ 63 64 rfl rfl rfl ?_
            first
              | exact y1 (by omega) ((mt0 hlt (b2i_z.mp (by omega)) hdr.1 hdr.2).mp c59) _
              | exact y1 (by omega) ((mt1 (b2i_e.mp (by omega)) (hwg (b2i_e.mp (by omega)) _ (by omega) (by omega))).mp c59) _
              | exact y0 (by omega) (fun z => c59 ((mt0 hlt (b2i_z.mp (by omega)) hdr.1 hdr.2).mpr z)) _
              | exact y0 (by omega) (fun z => c59 ((mt1 (b2i_e.mp (by omega)) (hwg (b2i_e.mp (by omega)) _ (by omega) (by omega))).mpr z)) _
        · refine w_iload hZ 54 55 rfl rfl rfl ?_
          refine w_const hZ 55 56 rfl rfl  ?_
          refine w_add hZ 56 57 rfl rfl (by unfold InR; omega) ?_
          refine w_goto hZ 57 59 rfl ?_
          refine w_cne hZ 59 60 rfl rfl (fun c59 => ?_) (fun c59 => ?_)
          · refine w_const hZ 62 63 rfl rfl  ?_
            refine w_st10_7 hZ 63 64 rfl rfl rfl ?_
            first
              | exact y1 (by omega) ((mt0 hlt (b2i_z.mp (by omega)) hdr.1 hdr.2).mp c59) _
              | exact y1 (by omega) ((mt1 (b2i_e.mp (by omega)) (hwg (b2i_e.mp (by omega)) _ (by omega) (by omega))).mp c59) _
              | exact y0 (by omega) (fun z => c59 ((mt0 hlt (b2i_z.mp (by omega)) hdr.1 hdr.2).mpr z)) _
              | exact y0 (by omega) (fun z => c59 ((mt1 (b2i_e.mp (by omega)) (hwg (b2i_e.mp (by omega)) _ (by omega) (by omega))).mpr z)) _
          · refine w_const hZ 60 61 rfl rfl  ?_
            refine w_goto hZ 61 63 rfl ?_
            refine w_st10_7 hZ 63 64 rfl rfl rfl ?_
            first
              | exact y1 (by omega) ((mt0 hlt (b2i_z.mp (by omega)) hdr.1 hdr.2).mp c59) _
              | exact y1 (by omega) ((mt1 (b2i_e.mp (by omega)) (hwg (b2i_e.mp (by omega)) _ (by omega) (by omega))).mp c59) _
              | exact y0 (by omega) (fun z => c59 ((mt0 hlt (b2i_z.mp (by omega)) hdr.1 hdr.2).mpr z)) _
              | exact y0 (by omega) (fun z => c59 ((mt1 (b2i_e.mp (by omega)) (hwg (b2i_e.mp (by omega)) _ (by omega) (by omega))).mpr z)) _
  refine w_aload hZ 0 1 rfl rfl rfl ?_
  refine w_getr hZ 1 2 rfl rfl rfl rfl rfl ?_
  refine w_const hZ 2 3 rfl rfl  ?_
  refine w_iload hZ 3 4 rfl rfl rfl ?_
  refine w_add hZ 4 5 rfl rfl (by unfold InR; omega) ?_
  refine w_ialdv hZ 5 6 rfl rfl rfl (by omega) (by omega) (v := c) hcy ?_
  refine k_X7_lettersOf hZ 6 7 rfl rfl (Nat.le_of_ble_eq_true rfl) hc5 ?_
  rw [hL]
  refine w_st10_6 hZ 7 8 rfl rfl rfl ?_
  refine w_iload hZ 8 9 rfl rfl rfl ?_
  refine w_iload hZ 9 10 rfl rfl rfl ?_
  refine w_add hZ 10 11 rfl rfl (by unfold InR; omega) ?_
  refine w_iload hZ 11 12 rfl rfl rfl ?_
  refine w_cgt hZ 12 13 rfl rfl (fun c12 => ?_) (fun c12 => ?_)
  · refine w_const hZ 29 30 rfl rfl  ?_
    refine w_st10_7 hZ 30 31 rfl rfl rfl ?_
    refine w_const hZ 31 32 rfl rfl  ?_
    refine w_st10_8 hZ 32 33 rfl rfl rfl ?_
    first
      | exact loop (by omega) (b2i_e.mp c26) _ 0 _ rfl rfl (Int.le_refl _) (by omega) (fun q q0 q1 => absurd q1 (by omega))
      | exact end0 0 _ (fun z => absurd (hk.u.mp z).2.1 (by omega))
      | exact end0 0 _ (fun z => absurd (hk.u.mp z).2.2.1 (b2i_z.mp c26))
  · refine w_aload hZ 13 14 rfl rfl rfl ?_
    refine w_getr hZ 14 15 rfl rfl rfl rfl rfl ?_
    refine w_const hZ 15 16 rfl rfl  ?_
    refine w_iload hZ 16 17 rfl rfl rfl ?_
    refine w_add hZ 17 18 rfl rfl (by unfold InR; omega) ?_
    refine w_ialdv hZ 18 19 rfl rfl rfl (by omega) (by omega) (v := vK (YV M) k.toNat) hky ?_
    refine w_iload hZ 19 20 rfl rfl rfl ?_
    refine w_iload hZ 20 21 rfl rfl rfl ?_
    refine w_iload hZ 21 22 rfl rfl rfl ?_
    refine w_add hZ 22 23 rfl rfl (by unfold InR; omega) ?_
    refine w_iload hZ 23 24 rfl rfl rfl ?_
    refine w_iload hZ 24 25 rfl rfl rfl ?_
    refine k_X7_mayByKind hZ 25 26 rfl rfl (Nat.le_of_ble_eq_true rfl)  ?_
    refine w_ifeq hZ 26 27 rfl rfl (fun c26 => ?_) (fun c26 => ?_)
    · refine w_const hZ 29 30 rfl rfl  ?_
      refine w_st10_7 hZ 30 31 rfl rfl rfl ?_
      refine w_const hZ 31 32 rfl rfl  ?_
      refine w_st10_8 hZ 32 33 rfl rfl rfl ?_
      first
        | exact loop (by omega) (b2i_e.mp c26) _ 0 _ rfl rfl (Int.le_refl _) (by omega) (fun q q0 q1 => absurd q1 (by omega))
        | exact end0 0 _ (fun z => absurd (hk.u.mp z).2.1 (by omega))
        | exact end0 0 _ (fun z => absurd (hk.u.mp z).2.2.1 (b2i_z.mp c26))
    · refine w_const hZ 27 28 rfl rfl  ?_
      refine w_goto hZ 28 30 rfl ?_
      refine w_st10_7 hZ 30 31 rfl rfl rfl ?_
      refine w_const hZ 31 32 rfl rfl  ?_
      refine w_st10_8 hZ 32 33 rfl rfl rfl ?_
      first
        | exact loop (by omega) (b2i_e.mp c26) _ 0 _ rfl rfl (Int.le_refl _) (by omega) (fun q q0 q1 => absurd q1 (by omega))
        | exact end0 0 _ (fun z => absurd (hk.u.mp z).2.1 (by omega))
        | exact end0 0 _ (fun z => absurd (hk.u.mp z).2.2.1 (b2i_z.mp c26))
set_option maxRecDepth 100000 in
set_option maxHeartbeats 4000000 in
theorem ao_X7_mayServe : AllOk yX7_mayServe.cls cX7_mayServe 10 2 46 (some .boolean) none pc_X7_mayServe 0 cd_X7_mayServe := ⟨s_aload_n (k := 0) (by decide +kernel) rfl rfl, ⟨s_get (C := RX7) (T := TX7) (N := 22) rfl inT7 (by decide) tw_3_159 (by decide +kernel) rfl, ⟨s_iconst (by decide +kernel) rfl ⟨by decide, by decide⟩, ⟨s_iload_n (k := 1) (by decide +kernel) rfl rfl, ⟨s_add (by decide +kernel) rfl, ⟨s_iald (by decide +kernel) rfl, ⟨s_callS ct_X7_lettersOf (by decide) (by decide) ⟨by decide +kernel, by decide +kernel, by decide +kernel⟩ tw_3_237 tw_3_238 tw_1_8 tw_3_239 (by decide +kernel) rfl, ⟨s_istore (by decide +kernel) rfl, ⟨s_iload_n (k := 2) (by decide +kernel) rfl rfl, ⟨s_iload (by decide +kernel) rfl, ⟨s_add (by decide +kernel) rfl, ⟨s_iload (by decide +kernel) rfl, ⟨s_cgt (off := (30)) (by decide +kernel) rfl rfl, ⟨s_aload_n (k := 0) (by decide +kernel) rfl rfl, ⟨s_get (C := RX7) (T := TX7) (N := 22) rfl inT7 (by decide) tw_3_159 (by decide +kernel) rfl, ⟨s_bipush (by decide +kernel) rfl ⟨by decide, by decide⟩ (by decide +kernel), ⟨s_iload_n (k := 1) (by decide +kernel) rfl rfl, ⟨s_add (by decide +kernel) rfl, ⟨s_iald (by decide +kernel) rfl, ⟨s_iload_n (k := 2) (by decide +kernel) rfl rfl, ⟨s_iload_n (k := 2) (by decide +kernel) rfl rfl, ⟨s_iload (by decide +kernel) rfl, ⟨s_add (by decide +kernel) rfl, ⟨s_iload_n (k := 3) (by decide +kernel) rfl rfl, ⟨s_iload (by decide +kernel) rfl, ⟨s_callS ct_X7_mayByKind (by decide) (by decide) ⟨by decide +kernel, by decide +kernel, by decide +kernel⟩ tw_4_130 tw_4_131 tw_1_8 tw_4_132 (by decide +kernel) rfl, ⟨s_ifeq (off := (7)) (by decide +kernel) rfl rfl, ⟨s_iconst (by decide +kernel) rfl ⟨by decide, by decide⟩, ⟨s_goto (off := (4)) (by decide +kernel) rfl, ⟨s_iconst (by decide +kernel) rfl ⟨by decide, by decide⟩, ⟨s_istore (by decide +kernel) rfl, ⟨s_iconst (by decide +kernel) rfl ⟨by decide, by decide⟩, ⟨s_istore (by decide +kernel) rfl, ⟨s_iload (by decide +kernel) rfl, ⟨s_iload (by decide +kernel) rfl, ⟨s_cge (off := (62)) (by decide +kernel) rfl rfl, ⟨s_iload (by decide +kernel) rfl, ⟨s_ifeq (off := (57)) (by decide +kernel) rfl rfl, ⟨s_aload_n (k := 0) (by decide +kernel) rfl rfl, ⟨s_iload_n (k := 2) (by decide +kernel) rfl rfl, ⟨s_iload (by decide +kernel) rfl, ⟨s_add (by decide +kernel) rfl, ⟨s_callV (C := RX7) (T := TX7) (N := 22) rfl ct_X7_sign0 (by decide) (by decide) ⟨rfl, by decide +kernel, by decide +kernel, by decide +kernel⟩ tw_4_90 tw_4_92 ts_3_9 tw_1_8 tw_4_93 (by decide +kernel) rfl, ⟨s_istore (by decide +kernel) rfl, ⟨s_aload_n (k := 0) (by decide +kernel) rfl rfl, ⟨s_get (C := RX7) (T := TX7) (N := 22) rfl inT7 (by decide) tw_3_159 (by decide +kernel) rfl, ⟨s_iconst (by decide +kernel) rfl ⟨by decide, by decide⟩, ⟨s_iload_n (k := 1) (by decide +kernel) rfl rfl, ⟨s_add (by decide +kernel) rfl, ⟨s_iald (by decide +kernel) rfl, ⟨s_iload (by decide +kernel) rfl, ⟨s_callS ct_X7_letterOf (by decide) (by decide) ⟨by decide +kernel, by decide +kernel, by decide +kernel⟩ tw_4_2 tw_4_3 tw_1_8 tw_4_4 (by decide +kernel) rfl, ⟨s_iload (by decide +kernel) rfl, ⟨s_ifeq (off := (11)) (by decide +kernel) rfl rfl, ⟨s_iload (by decide +kernel) rfl, ⟨s_bipush (by decide +kernel) rfl ⟨by decide, by decide⟩ (by decide +kernel), ⟨s_add (by decide +kernel) rfl, ⟨s_goto (off := (5)) (by decide +kernel) rfl, ⟨s_iload (by decide +kernel) rfl, ⟨s_cne (off := (7)) (by decide +kernel) rfl rfl, ⟨s_iconst (by decide +kernel) rfl ⟨by decide, by decide⟩, ⟨s_goto (off := (4)) (by decide +kernel) rfl, ⟨s_iconst (by decide +kernel) rfl ⟨by decide, by decide⟩, ⟨s_istore (by decide +kernel) rfl, ⟨s_iinc (by decide +kernel) rfl, ⟨s_goto (off := (-63)) (by decide +kernel) rfl, ⟨s_iload (by decide +kernel) rfl, ⟨s_zret rfl (by decide +kernel), trivial⟩⟩⟩⟩⟩⟩⟩⟩⟩⟩⟩⟩⟩⟩⟩⟩⟩⟩⟩⟩⟩⟩⟩⟩⟩⟩⟩⟩⟩⟩⟩⟩⟩⟩⟩⟩⟩⟩⟩⟩⟩⟩⟩⟩⟩⟩⟩⟩⟩⟩⟩⟩⟩⟩⟩⟩⟩⟩⟩⟩⟩⟩⟩⟩⟩⟩⟩⟩
theorem ct_X7_mayServe : Ctr yX7_mayServe cX7_mayServe 10 (some .boolean) 2 46 sp_X7_mayServe := by
  refine ctr_of (by decide +kernel) ao_X7_mayServe rfl ?_
  rintro av M Ret ⟨g, k, i, a, b, gi, rfl, hp, hR⟩ hok hM
  exact ⟨Nat.le_of_ble_eq_true rfl, fun Z hZ => b_X7_mayServe g k (hok _ (List.mem_of_getElem? (i := 1) rfl)) i (hok _ (List.mem_of_getElem? (i := 2) rfl)) a (hok _ (List.mem_of_getElem? (i := 3) rfl)) b (hok _ (List.mem_of_getElem? (i := 4) rfl)) gi (hok _ (List.mem_of_getElem? (i := 5) rfl)) M Ret hp hR hM Z hZ⟩
def sp_X7_ruleAt : SP := fun av M Ret => ∃ g : Bool, ∃ i : Int, ∃ a : Int, ∃ b : Int, ∃ gi : Int, ∃ w : Int, av = [mr 73, mi i, mi a, mi b, mi gi, mi w] ∧ (vOk (YV M) ∧ Wd (YV M) a b g ∧ a ≤ i ∧ i < b ∧ gi = b2i (g = true)) ∧ (Ret (some (mi (sv (YV M) w a b g i))) M)
theorem k_X7_ruleAt {code : List Sem} {Z : KZ} {Ret : KR} {ls : List (Option MV)} {M : Mem} {r : List MV} (hZ : Sim code Z Ret) (ip np : Nat) {g : Bool} {i a b gi w : Int} (hc : code[ip]? = some (I_callV 7 5 sp_X7_ruleAt)) (hn : ip + 1 = np) (h3 : catS r ≤ 8)  (hp : vOk (YV M) ∧ Wd (YV M) a b g ∧ a ≤ i ∧ i < b ∧ gi = b2i (g = true)) (kz : Z np ls (mi (sv (YV M) w a b g i) :: r) M) : Z ip ls (mi w :: mi gi :: mi b :: mi a :: mi i :: mr 73 :: r) M := w_callV5 hZ ip np hc hn rfl rfl h3 ⟨_, _, _, _, _, _, rfl, hp, kz⟩
def cd_X7_ruleAt : List Sem := [I_const (-1), I_istore 6, I_const (0), I_istore 7, I_iload 7, I_aload 0, I_get 7 0, I_const (0), I_iald, I_cge 57, I_iload 6, I_iflt 34, I_aload 0, I_get 7 0, I_const (1), I_iload 7, I_add, I_iald, I_ifle 36, I_aload 0, I_get 7 0, I_const (1), I_iload 7, I_add, I_iald, I_callS 1 sp_X7_lettersOf, I_aload 0, I_get 7 0, I_const (1), I_iload 6, I_add, I_iald, I_callS 1 sp_X7_lettersOf, I_cle 36, I_const (1), I_goto 37, I_const (0), I_istore 8, I_iload 7, I_iload 5, I_ceq 53, I_iload 8, I_ifeq 53, I_aload 0, I_iload 7, I_iload 1, I_iload 2, I_iload 3, I_iload 4, I_callV 7 5 sp_X7_mayServe, I_ifeq 53, I_iload 7, I_goto 54, I_iload 6, I_istore 6, I_iinc 7 (1), I_goto 4, I_iload 6, I_iret]
def pc_X7_ruleAt : List Nat := [0, 1, 3, 4, 6, 8, 9, 12, 13, 14, 17, 19, 22, 23, 26, 27, 29, 30, 31, 34, 35, 38, 39, 41, 42, 43, 46, 47, 50, 51, 53, 54, 55, 58, 61, 62, 65, 66, 68, 70, 72, 75, 77, 80, 81, 83, 84, 85, 86, 88, 91, 94, 96, 99, 101, 103, 106, 109, 111]
set_option maxRecDepth 100000 in
set_option maxHeartbeats 4000000 in
theorem b_X7_ruleAt (g : Bool) (i : Int) (i_i : InR i) (a : Int) (i_a : InR a) (b : Int) (i_b : InR b) (gi : Int) (i_gi : InR gi) (w : Int) (i_w : InR w) (M : Mem) (Ret : KR) (hp : vOk (YV M) ∧ Wd (YV M) a b g ∧ a ≤ i ∧ i < b ∧ gi = b2i (g = true)) (hR : Ret (some (mi (sv (YV M) w a b g i))) M) (hM : MOk M) (Z : KZ) (hZ : Sim cd_X7_ruleAt Z Ret) : Z 0 [some (mr 73), some (mi i), some (mi a), some (mi b), some (mi gi), some (mi w), none, none, none] [] M := by
  obtain ⟨hvo, hw, i0, i1, hgi⟩ := hp
  have hvR : vR (YV M) ≤ 12 := hvo.2.2.2.1
  have hv0 : 0 ≤ vR (YV M) := hvo.2.2.1
  have loop : ∀ (d : Nat) (r k : Int), d = (vR (YV M) - k).toNat → 0 ≤ k → k ≤ vR (YV M) → (r = -1 ∨ 0 ≤ r ∧ r < k) → Hid (Bst (YV M) w a b g i k r) → Z 4 [some (mr 73), some (mi i), some (mi a), some (mi b), some (mi gi), some (mi w), some (mi r), some (mi k), none] [] M := by
    intro d
    induction d using Nat.strongRecOn with
    | ind d ih =>
      intro r k hd k0 k1 hr hB
      have nxt : k < vR (YV M) → ∀ r2 lg : Int, (r2 = -1 ∨ 0 ≤ r2 ∧ r2 < k + 1) → Bst (YV M) w a b g i (k + 1) r2 → Z 55 [some (mr 73), some (mi i), some (mi a), some (mi b), some (mi gi), some (mi w), some (mi r2), some (mi k), some (mi lg)] [] M := by
        intro hk r2 lg h2 hB2
        refine w_in9_7 hZ 55 56 rfl rfl rfl (by unfold InR; omega) ?_
        refine w_goto hZ 56 4 rfl ?_
        refine w_fg9_8 hZ ?_
        exact ih (vR (YV M) - (k + 1)).toNat (by omega) r2 (k + 1) rfl (by omega) (by omega) h2 hB2
      have mid : k < vR (YV M) → ∀ lg : Int, ((lg = 1 ∧ (r < 0 ∨ lnC (vC' (YV M) r.toNat) < lnC (vC' (YV M) k.toNat))) ∨ (lg = 0 ∧ 0 ≤ r ∧ lnC (vC' (YV M) k.toNat) ≤ lnC (vC' (YV M) r.toNat))) → Z 37 [some (mr 73), some (mi i), some (mi a), some (mi b), some (mi gi), some (mi w), some (mi r), some (mi k), none] [mi lg] M := by
        intro hk lg hlg
        refine w_st9_8 hZ 37 38 rfl rfl rfl ?_
        refine w_iload hZ 38 39 rfl rfl rfl ?_
        refine w_iload hZ 39 40 rfl rfl rfl ?_
        refine w_ceq hZ 40 41 rfl rfl (fun c40 => ?_) (fun c40 => ?_)
        · refine w_iload hZ 53 54 rfl rfl rfl ?_
          refine w_st9_6 hZ 54 55 rfl rfl rfl ?_
          first
            | exact nxt hk _ _ (by omega) (Bst_y hB.u k0 c40 (b2i_e.mp c50) (by omega))
            | exact nxt hk _ _ (by omega) (Bst_n hB.u (Or.inr (Or.inl (b2i_z.mp c50))))
            | exact nxt hk _ _ (by omega) (Bst_n hB.u (Or.inl c40))
            | exact nxt hk _ _ (by omega) (Bst_n hB.u (Or.inr (Or.inr (by omega))))
        · refine w_iload hZ 41 42 rfl rfl rfl ?_
          refine w_ifeq hZ 42 43 rfl rfl (fun c42 => ?_) (fun c42 => ?_)
          · refine w_iload hZ 53 54 rfl rfl rfl ?_
            refine w_st9_6 hZ 54 55 rfl rfl rfl ?_
            first
              | exact nxt hk _ _ (by omega) (Bst_y hB.u k0 c40 (b2i_e.mp c50) (by omega))
              | exact nxt hk _ _ (by omega) (Bst_n hB.u (Or.inr (Or.inl (b2i_z.mp c50))))
              | exact nxt hk _ _ (by omega) (Bst_n hB.u (Or.inl c40))
              | exact nxt hk _ _ (by omega) (Bst_n hB.u (Or.inr (Or.inr (by omega))))
          · refine w_aload hZ 43 44 rfl rfl rfl ?_
            refine w_iload hZ 44 45 rfl rfl rfl ?_
            refine w_iload hZ 45 46 rfl rfl rfl ?_
            refine w_iload hZ 46 47 rfl rfl rfl ?_
            refine w_iload hZ 47 48 rfl rfl rfl ?_
            refine w_iload hZ 48 49 rfl rfl rfl ?_
            refine k_X7_mayServe hZ 49 50 rfl rfl (Nat.le_of_ble_eq_true rfl) ⟨hvo, hw, i0, i1, k0, hk, hgi⟩ ?_
            refine w_ifeq hZ 50 51 rfl rfl (fun c50 => ?_) (fun c50 => ?_)
            · refine w_iload hZ 53 54 rfl rfl rfl ?_
              refine w_st9_6 hZ 54 55 rfl rfl rfl ?_
              first
                | exact nxt hk _ _ (by omega) (Bst_y hB.u k0 c40 (b2i_e.mp c50) (by omega))
                | exact nxt hk _ _ (by omega) (Bst_n hB.u (Or.inr (Or.inl (b2i_z.mp c50))))
                | exact nxt hk _ _ (by omega) (Bst_n hB.u (Or.inl c40))
                | exact nxt hk _ _ (by omega) (Bst_n hB.u (Or.inr (Or.inr (by omega))))
            · refine w_iload hZ 51 52 rfl rfl rfl ?_
              refine w_goto hZ 52 54 rfl ?_
              refine w_st9_6 hZ 54 55 rfl rfl rfl ?_
              first
                | exact nxt hk _ _ (by omega) (Bst_y hB.u k0 c40 (b2i_e.mp c50) (by omega))
                | exact nxt hk _ _ (by omega) (Bst_n hB.u (Or.inr (Or.inl (b2i_z.mp c50))))
                | exact nxt hk _ _ (by omega) (Bst_n hB.u (Or.inl c40))
                | exact nxt hk _ _ (by omega) (Bst_n hB.u (Or.inr (Or.inr (by omega))))
      refine w_iload hZ 4 5 rfl rfl rfl ?_
      refine w_aload hZ 5 6 rfl rfl rfl ?_
      refine w_getr hZ 6 7 rfl rfl rfl rfl rfl ?_
      refine w_const hZ 7 8 rfl rfl  ?_
      refine w_ialdv hZ 8 9 rfl rfl rfl (by omega) (by omega) (v := vR (YV M)) rfl ?_
      refine w_cge hZ 9 10 rfl rfl (fun c9 => ?_) (fun c9 => ?_)
      · refine w_iload hZ 57 58 rfl rfl rfl ?_
        refine w_iret hZ 58 rfl ?_
        refine ret_i hR (Bst_sv hvo hw i0 ?_)
        have hB' := hB.u
        rw [show k = vR (YV M) by omega] at hB'
        exact hB'
      · have hck := (hvo.2.2.2.2.2.2.1 k.toNat (by omega)).1
        have hck0 := hck.1
        have hcy : M 74 (1 + k).toNat = vC' (YV M) k.toNat := Y_c rfl k0 (by omega)
        refine w_iload hZ 10 11 rfl rfl rfl ?_
        refine w_iflt hZ 11 12 rfl rfl (fun c11 => ?_) (fun c11 => ?_)
        · refine w_const hZ 34 35 rfl rfl  ?_
          refine w_goto hZ 35 37 rfl ?_
          first
            | exact mid (by omega) _ (Or.inl ⟨rfl, Or.inl (by omega)⟩)
            | exact mid (by omega) _ (Or.inl ⟨rfl, Or.inr (by omega)⟩)
            | exact mid (by omega) _ (Or.inr ⟨rfl, by omega, by omega⟩)
        · have hcr := (hvo.2.2.2.2.2.2.1 r.toNat (by omega)).1
          refine w_aload hZ 12 13 rfl rfl rfl ?_
          refine w_getr hZ 13 14 rfl rfl rfl rfl rfl ?_
          refine w_const hZ 14 15 rfl rfl  ?_
          refine w_iload hZ 15 16 rfl rfl rfl ?_
          refine w_add hZ 16 17 rfl rfl (by unfold InR; omega) ?_
          refine w_ialdv hZ 17 18 rfl rfl rfl (by omega) (by omega) (v := vC' (YV M) k.toNat) hcy ?_
          refine w_ifle hZ 18 19 rfl rfl (fun c18 => absurd c18 (by omega)) (fun c18 => ?_)
          refine w_aload hZ 19 20 rfl rfl rfl ?_
          refine w_getr hZ 20 21 rfl rfl rfl rfl rfl ?_
          refine w_const hZ 21 22 rfl rfl  ?_
          refine w_iload hZ 22 23 rfl rfl rfl ?_
          refine w_add hZ 23 24 rfl rfl (by unfold InR; omega) ?_
          refine w_ialdv hZ 24 25 rfl rfl rfl (by omega) (by omega) (v := vC' (YV M) k.toNat) hcy ?_
          refine k_X7_lettersOf hZ 25 26 rfl rfl (Nat.le_of_ble_eq_true rfl) hck.2.1 ?_
          refine w_aload hZ 26 27 rfl rfl rfl ?_
          refine w_getr hZ 27 28 rfl rfl rfl rfl rfl ?_
          refine w_const hZ 28 29 rfl rfl  ?_
          refine w_iload hZ 29 30 rfl rfl rfl ?_
          refine w_add hZ 30 31 rfl rfl (by unfold InR; omega) ?_
          refine w_ialdv hZ 31 32 rfl rfl rfl (by omega) (by omega) (v := vC' (YV M) r.toNat) (Y_c rfl (by omega) (by omega)) ?_
          refine k_X7_lettersOf hZ 32 33 rfl rfl (Nat.le_of_ble_eq_true rfl) hcr.2.1 ?_
          refine w_cle hZ 33 34 rfl rfl (fun c33 => ?_) (fun c33 => ?_)
          · refine w_const hZ 36 37 rfl rfl  ?_
            first
              | exact mid (by omega) _ (Or.inl ⟨rfl, Or.inl (by omega)⟩)
              | exact mid (by omega) _ (Or.inl ⟨rfl, Or.inr (by omega)⟩)
              | exact mid (by omega) _ (Or.inr ⟨rfl, by omega, by omega⟩)
          · refine w_const hZ 34 35 rfl rfl  ?_
            refine w_goto hZ 35 37 rfl ?_
            first
              | exact mid (by omega) _ (Or.inl ⟨rfl, Or.inl (by omega)⟩)
              | exact mid (by omega) _ (Or.inl ⟨rfl, Or.inr (by omega)⟩)
              | exact mid (by omega) _ (Or.inr ⟨rfl, by omega, by omega⟩)
  refine w_const hZ 0 1 rfl rfl  ?_
  refine w_st9_6 hZ 1 2 rfl rfl rfl ?_
  refine w_const hZ 2 3 rfl rfl  ?_
  refine w_st9_7 hZ 3 4 rfl rfl rfl ?_
  exact loop _ (-1) 0 rfl (Int.le_refl _) hv0 (Or.inl rfl) (Or.inl ⟨rfl, fun j j0 j1 => absurd j1 (by omega)⟩)
set_option maxRecDepth 100000 in
set_option maxHeartbeats 4000000 in
theorem ao_X7_ruleAt : AllOk yX7_ruleAt.cls cX7_ruleAt 9 3 75 (some .int) none pc_X7_ruleAt 0 cd_X7_ruleAt := ⟨s_iconst (by decide +kernel) rfl ⟨by decide, by decide⟩, ⟨s_istore (by decide +kernel) rfl, ⟨s_iconst (by decide +kernel) rfl ⟨by decide, by decide⟩, ⟨s_istore (by decide +kernel) rfl, ⟨s_iload (by decide +kernel) rfl, ⟨s_aload_n (k := 0) (by decide +kernel) rfl rfl, ⟨s_get (C := RX7) (T := TX7) (N := 22) rfl inT7 (by decide) tw_3_159 (by decide +kernel) rfl, ⟨s_iconst (by decide +kernel) rfl ⟨by decide, by decide⟩, ⟨s_iald (by decide +kernel) rfl, ⟨s_cge (off := (95)) (by decide +kernel) rfl rfl, ⟨s_iload (by decide +kernel) rfl, ⟨s_iflt (off := (42)) (by decide +kernel) rfl rfl, ⟨s_aload_n (k := 0) (by decide +kernel) rfl rfl, ⟨s_get (C := RX7) (T := TX7) (N := 22) rfl inT7 (by decide) tw_3_159 (by decide +kernel) rfl, ⟨s_iconst (by decide +kernel) rfl ⟨by decide, by decide⟩, ⟨s_iload (by decide +kernel) rfl, ⟨s_add (by decide +kernel) rfl, ⟨s_iald (by decide +kernel) rfl, ⟨s_ifle (off := (34)) (by decide +kernel) rfl rfl, ⟨s_aload_n (k := 0) (by decide +kernel) rfl rfl, ⟨s_get (C := RX7) (T := TX7) (N := 22) rfl inT7 (by decide) tw_3_159 (by decide +kernel) rfl, ⟨s_iconst (by decide +kernel) rfl ⟨by decide, by decide⟩, ⟨s_iload (by decide +kernel) rfl, ⟨s_add (by decide +kernel) rfl, ⟨s_iald (by decide +kernel) rfl, ⟨s_callS ct_X7_lettersOf (by decide) (by decide) ⟨by decide +kernel, by decide +kernel, by decide +kernel⟩ tw_3_237 tw_3_238 tw_1_8 tw_3_239 (by decide +kernel) rfl, ⟨s_aload_n (k := 0) (by decide +kernel) rfl rfl, ⟨s_get (C := RX7) (T := TX7) (N := 22) rfl inT7 (by decide) tw_3_159 (by decide +kernel) rfl, ⟨s_iconst (by decide +kernel) rfl ⟨by decide, by decide⟩, ⟨s_iload (by decide +kernel) rfl, ⟨s_add (by decide +kernel) rfl, ⟨s_iald (by decide +kernel) rfl, ⟨s_callS ct_X7_lettersOf (by decide) (by decide) ⟨by decide +kernel, by decide +kernel, by decide +kernel⟩ tw_3_237 tw_3_238 tw_1_8 tw_3_239 (by decide +kernel) rfl, ⟨s_cle (off := (7)) (by decide +kernel) rfl rfl, ⟨s_iconst (by decide +kernel) rfl ⟨by decide, by decide⟩, ⟨s_goto (off := (4)) (by decide +kernel) rfl, ⟨s_iconst (by decide +kernel) rfl ⟨by decide, by decide⟩, ⟨s_istore (by decide +kernel) rfl, ⟨s_iload (by decide +kernel) rfl, ⟨s_iload (by decide +kernel) rfl, ⟨s_ceq (off := (27)) (by decide +kernel) rfl rfl, ⟨s_iload (by decide +kernel) rfl, ⟨s_ifeq (off := (22)) (by decide +kernel) rfl rfl, ⟨s_aload_n (k := 0) (by decide +kernel) rfl rfl, ⟨s_iload (by decide +kernel) rfl, ⟨s_iload_n (k := 1) (by decide +kernel) rfl rfl, ⟨s_iload_n (k := 2) (by decide +kernel) rfl rfl, ⟨s_iload_n (k := 3) (by decide +kernel) rfl rfl, ⟨s_iload (by decide +kernel) rfl, ⟨s_callV (C := RX7) (T := TX7) (N := 22) rfl ct_X7_mayServe (by decide) (by decide) ⟨rfl, by decide +kernel, by decide +kernel, by decide +kernel⟩ tw_4_126 tw_4_128 ts_4_2 tw_1_8 tw_4_129 (by decide +kernel) rfl, ⟨s_ifeq (off := (8)) (by decide +kernel) rfl rfl, ⟨s_iload (by decide +kernel) rfl, ⟨s_goto (off := (5)) (by decide +kernel) rfl, ⟨s_iload (by decide +kernel) rfl, ⟨s_istore (by decide +kernel) rfl, ⟨s_iinc (by decide +kernel) rfl, ⟨s_goto (off := (-100)) (by decide +kernel) rfl, ⟨s_iload (by decide +kernel) rfl, ⟨s_iret rfl (by decide +kernel), trivial⟩⟩⟩⟩⟩⟩⟩⟩⟩⟩⟩⟩⟩⟩⟩⟩⟩⟩⟩⟩⟩⟩⟩⟩⟩⟩⟩⟩⟩⟩⟩⟩⟩⟩⟩⟩⟩⟩⟩⟩⟩⟩⟩⟩⟩⟩⟩⟩⟩⟩⟩⟩⟩⟩⟩⟩⟩⟩⟩
theorem ct_X7_ruleAt : Ctr yX7_ruleAt cX7_ruleAt 9 (some .int) 3 75 sp_X7_ruleAt := by
  refine ctr_of (by decide +kernel) ao_X7_ruleAt rfl ?_
  rintro av M Ret ⟨g, i, a, b, gi, w, rfl, hp, hR⟩ hok hM
  exact ⟨Nat.le_of_ble_eq_true rfl, fun Z hZ => b_X7_ruleAt g i (hok _ (List.mem_of_getElem? (i := 1) rfl)) a (hok _ (List.mem_of_getElem? (i := 2) rfl)) b (hok _ (List.mem_of_getElem? (i := 3) rfl)) gi (hok _ (List.mem_of_getElem? (i := 4) rfl)) w (hok _ (List.mem_of_getElem? (i := 5) rfl)) M Ret hp hR hM Z hZ⟩
def sp_X7_isBehindFigures : SP := fun av M Ret => ∃ i : Int, av = [mr 73, mi i] ∧ (By M ∧ InR (i - 1) ∧ InR (i - 2)) ∧ (Ret (some (mi (b2i (isBh (vS (YV M)) i)))) M)
theorem k_X7_isBehindFigures {code : List Sem} {Z : KZ} {Ret : KR} {ls : List (Option MV)} {M : Mem} {r : List MV} (hZ : Sim code Z Ret) (ip np : Nat) {i : Int} (hc : code[ip]? = some (I_callV 7 1 sp_X7_isBehindFigures)) (hn : ip + 1 = np) (h3 : catS r ≤ 8)  (hp : By M ∧ InR (i - 1) ∧ InR (i - 2)) (kz : Z np ls (mi (b2i (isBh (vS (YV M)) i)) :: r) M) : Z ip ls (mi i :: mr 73 :: r) M := w_callV1 hZ ip np hc hn rfl rfl h3 ⟨_, rfl, hp, kz⟩
def cd_X7_isBehindFigures : List Sem := [I_aload 0, I_iload 1, I_const (1), I_sub, I_callV 7 1 sp_X7_sign0, I_istore 2, I_iload 2, I_callS 1 sp_X7_isFigure, I_ifne 22, I_iload 2, I_const (46), I_ceq 15, I_iload 2, I_const (44), I_cne 24, I_aload 0, I_iload 1, I_const (2), I_sub, I_callV 7 1 sp_X7_sign0, I_callS 1 sp_X7_isFigure, I_ifeq 24, I_const (1), I_goto 25, I_const (0), I_zret]
def pc_X7_isBehindFigures : List Nat := [0, 1, 2, 3, 4, 7, 8, 9, 12, 15, 16, 18, 21, 22, 24, 27, 28, 29, 30, 31, 34, 37, 40, 41, 44, 45]
set_option maxRecDepth 100000 in
set_option maxHeartbeats 4000000 in
theorem b_X7_isBehindFigures (i : Int) (i_i : InR i) (M : Mem) (Ret : KR) (hp : By M ∧ InR (i - 1) ∧ InR (i - 2)) (hR : Ret (some (mi (b2i (isBh (vS (YV M)) i)))) M) (hM : MOk M) (Z : KZ) (hZ : Sim cd_X7_isBehindFigures Z Ret) : Z 0 [some (mr 73), some (mi i), none] [] M := by
  obtain ⟨hb, hi, hi2⟩ := hp
  refine w_aload hZ 0 1 rfl rfl rfl ?_
  refine w_iload hZ 1 2 rfl rfl rfl ?_
  refine w_const hZ 2 3 rfl rfl  ?_
  refine w_sub hZ 3 4 rfl rfl hi ?_
  refine k_X7_sign0 hZ 4 5 rfl rfl (Nat.le_of_ble_eq_true rfl) hb ?_
  refine w_st3_2 hZ 5 6 rfl rfl rfl ?_
  refine w_iload hZ 6 7 rfl rfl rfl ?_
  refine k_X7_isFigure hZ 7 8 rfl rfl (Nat.le_of_ble_eq_true rfl)  ?_
  refine w_ifne hZ 8 9 rfl rfl (fun c8 => ?_) (fun c8 => ?_)
  · refine w_const hZ 22 23 rfl rfl  ?_
    refine w_goto hZ 23 25 rfl ?_
    refine w_zret hZ 25 rfl (by omega) ?_
    exact ret_i hR (by (first | refine b2i_t ?_ | refine b2i_f ?_); (try replace c8 := b2i_z.mp c8); (try replace c8 := b2i_e.mp c8); (try replace c21 := b2i_z.mp c21); (try replace c21 := b2i_e.mp c21); simp only [isBh, isFg, isPC] at *; omega)
  · refine w_iload hZ 9 10 rfl rfl rfl ?_
    refine w_const hZ 10 11 rfl rfl  ?_
    refine w_ceq hZ 11 12 rfl rfl (fun c11 => ?_) (fun c11 => ?_)
    · refine w_aload hZ 15 16 rfl rfl rfl ?_
      refine w_iload hZ 16 17 rfl rfl rfl ?_
      refine w_const hZ 17 18 rfl rfl  ?_
      refine w_sub hZ 18 19 rfl rfl hi2 ?_
      refine k_X7_sign0 hZ 19 20 rfl rfl (Nat.le_of_ble_eq_true rfl) hb ?_
      refine k_X7_isFigure hZ 20 21 rfl rfl (Nat.le_of_ble_eq_true rfl)  ?_
      refine w_ifeq hZ 21 22 rfl rfl (fun c21 => ?_) (fun c21 => ?_)
      · refine w_const hZ 24 25 rfl rfl  ?_
        refine w_zret hZ 25 rfl (by omega) ?_
        exact ret_i hR (by (first | refine b2i_t ?_ | refine b2i_f ?_); (try replace c8 := b2i_z.mp c8); (try replace c8 := b2i_e.mp c8); (try replace c21 := b2i_z.mp c21); (try replace c21 := b2i_e.mp c21); simp only [isBh, isFg, isPC] at *; omega)
      · refine w_const hZ 22 23 rfl rfl  ?_
        refine w_goto hZ 23 25 rfl ?_
        refine w_zret hZ 25 rfl (by omega) ?_
        exact ret_i hR (by (first | refine b2i_t ?_ | refine b2i_f ?_); (try replace c8 := b2i_z.mp c8); (try replace c8 := b2i_e.mp c8); (try replace c21 := b2i_z.mp c21); (try replace c21 := b2i_e.mp c21); simp only [isBh, isFg, isPC] at *; omega)
    · refine w_iload hZ 12 13 rfl rfl rfl ?_
      refine w_const hZ 13 14 rfl rfl  ?_
      refine w_cne hZ 14 15 rfl rfl (fun c14 => ?_) (fun c14 => ?_)
      · refine w_const hZ 24 25 rfl rfl  ?_
        refine w_zret hZ 25 rfl (by omega) ?_
        exact ret_i hR (by (first | refine b2i_t ?_ | refine b2i_f ?_); (try replace c8 := b2i_z.mp c8); (try replace c8 := b2i_e.mp c8); (try replace c21 := b2i_z.mp c21); (try replace c21 := b2i_e.mp c21); simp only [isBh, isFg, isPC] at *; omega)
      · refine w_aload hZ 15 16 rfl rfl rfl ?_
        refine w_iload hZ 16 17 rfl rfl rfl ?_
        refine w_const hZ 17 18 rfl rfl  ?_
        refine w_sub hZ 18 19 rfl rfl hi2 ?_
        refine k_X7_sign0 hZ 19 20 rfl rfl (Nat.le_of_ble_eq_true rfl) hb ?_
        refine k_X7_isFigure hZ 20 21 rfl rfl (Nat.le_of_ble_eq_true rfl)  ?_
        refine w_ifeq hZ 21 22 rfl rfl (fun c21 => ?_) (fun c21 => ?_)
        · refine w_const hZ 24 25 rfl rfl  ?_
          refine w_zret hZ 25 rfl (by omega) ?_
          exact ret_i hR (by (first | refine b2i_t ?_ | refine b2i_f ?_); (try replace c8 := b2i_z.mp c8); (try replace c8 := b2i_e.mp c8); (try replace c21 := b2i_z.mp c21); (try replace c21 := b2i_e.mp c21); simp only [isBh, isFg, isPC] at *; omega)
        · refine w_const hZ 22 23 rfl rfl  ?_
          refine w_goto hZ 23 25 rfl ?_
          refine w_zret hZ 25 rfl (by omega) ?_
          exact ret_i hR (by (first | refine b2i_t ?_ | refine b2i_f ?_); (try replace c8 := b2i_z.mp c8); (try replace c8 := b2i_e.mp c8); (try replace c21 := b2i_z.mp c21); (try replace c21 := b2i_e.mp c21); simp only [isBh, isFg, isPC] at *; omega)
set_option maxRecDepth 100000 in
set_option maxHeartbeats 4000000 in
theorem ao_X7_isBehindFigures : AllOk yX7_isBehindFigures.cls cX7_isBehindFigures 3 2 46 (some .boolean) none pc_X7_isBehindFigures 0 cd_X7_isBehindFigures := ⟨s_aload_n (k := 0) (by decide +kernel) rfl rfl, ⟨s_iload_n (k := 1) (by decide +kernel) rfl rfl, ⟨s_iconst (by decide +kernel) rfl ⟨by decide, by decide⟩, ⟨s_sub (by decide +kernel) rfl, ⟨s_callV (C := RX7) (T := TX7) (N := 22) rfl ct_X7_sign0 (by decide) (by decide) ⟨rfl, by decide +kernel, by decide +kernel, by decide +kernel⟩ tw_4_90 tw_4_92 ts_3_9 tw_1_8 tw_4_93 (by decide +kernel) rfl, ⟨s_istore_n (k := 2) (by decide +kernel) rfl rfl, ⟨s_iload_n (k := 2) (by decide +kernel) rfl rfl, ⟨s_callS ct_X7_isFigure (by decide) (by decide) ⟨by decide +kernel, by decide +kernel, by decide +kernel⟩ tw_4_69 tw_4_70 tw_1_8 tw_4_71 (by decide +kernel) rfl, ⟨s_ifne (off := (28)) (by decide +kernel) rfl rfl, ⟨s_iload_n (k := 2) (by decide +kernel) rfl rfl, ⟨s_bipush (by decide +kernel) rfl ⟨by decide, by decide⟩ (by decide +kernel), ⟨s_ceq (off := (9)) (by decide +kernel) rfl rfl, ⟨s_iload_n (k := 2) (by decide +kernel) rfl rfl, ⟨s_bipush (by decide +kernel) rfl ⟨by decide, by decide⟩ (by decide +kernel), ⟨s_cne (off := (20)) (by decide +kernel) rfl rfl, ⟨s_aload_n (k := 0) (by decide +kernel) rfl rfl, ⟨s_iload_n (k := 1) (by decide +kernel) rfl rfl, ⟨s_iconst (by decide +kernel) rfl ⟨by decide, by decide⟩, ⟨s_sub (by decide +kernel) rfl, ⟨s_callV (C := RX7) (T := TX7) (N := 22) rfl ct_X7_sign0 (by decide) (by decide) ⟨rfl, by decide +kernel, by decide +kernel, by decide +kernel⟩ tw_4_90 tw_4_92 ts_3_9 tw_1_8 tw_4_93 (by decide +kernel) rfl, ⟨s_callS ct_X7_isFigure (by decide) (by decide) ⟨by decide +kernel, by decide +kernel, by decide +kernel⟩ tw_4_69 tw_4_70 tw_1_8 tw_4_71 (by decide +kernel) rfl, ⟨s_ifeq (off := (7)) (by decide +kernel) rfl rfl, ⟨s_iconst (by decide +kernel) rfl ⟨by decide, by decide⟩, ⟨s_goto (off := (4)) (by decide +kernel) rfl, ⟨s_iconst (by decide +kernel) rfl ⟨by decide, by decide⟩, ⟨s_zret rfl (by decide +kernel), trivial⟩⟩⟩⟩⟩⟩⟩⟩⟩⟩⟩⟩⟩⟩⟩⟩⟩⟩⟩⟩⟩⟩⟩⟩⟩⟩
theorem ct_X7_isBehindFigures : Ctr yX7_isBehindFigures cX7_isBehindFigures 3 (some .boolean) 2 46 sp_X7_isBehindFigures := by
  refine ctr_of (by decide +kernel) ao_X7_isBehindFigures rfl ?_
  rintro av M Ret ⟨i, rfl, hp, hR⟩ hok hM
  exact ⟨Nat.le_of_ble_eq_true rfl, fun Z hZ => b_X7_isBehindFigures  i (hok _ (List.mem_of_getElem? (i := 1) rfl)) M Ret hp hR hM Z hZ⟩
def sp_X7_wantsLetters : SP := fun av M Ret => ∃ i : Int, av = [mr 73, mi i] ∧ (By M ∧ 0 ≤ i ∧ i ≤ 200) ∧ (Ret (some (mi (b2i (wnt (YV M) i)))) M)
theorem k_X7_wantsLetters {code : List Sem} {Z : KZ} {Ret : KR} {ls : List (Option MV)} {M : Mem} {r : List MV} (hZ : Sim code Z Ret) (ip np : Nat) {i : Int} (hc : code[ip]? = some (I_callV 7 1 sp_X7_wantsLetters)) (hn : ip + 1 = np) (h3 : catS r ≤ 8)  (hp : By M ∧ 0 ≤ i ∧ i ≤ 200) (kz : Z np ls (mi (b2i (wnt (YV M) i)) :: r) M) : Z ip ls (mi i :: mr 73 :: r) M := w_callV1 hZ ip np hc hn rfl rfl h3 ⟨_, rfl, hp, kz⟩
def cd_X7_wantsLetters : List Sem := [I_aload 0, I_iload 1, I_callV 7 1 sp_X7_sign0, I_i2l, I_lconst (97), I_lconst (106), I_callS 3 sp_X7_in, I_ifeq 14, I_aload 0, I_iload 1, I_callV 7 1 sp_X7_isBehindFigures, I_ifeq 14, I_const (1), I_goto 15, I_const (0), I_zret]
def pc_X7_wantsLetters : List Nat := [0, 1, 2, 5, 6, 9, 12, 15, 18, 19, 20, 23, 26, 27, 30, 31]
set_option maxRecDepth 100000 in
set_option maxHeartbeats 4000000 in
theorem b_X7_wantsLetters (i : Int) (i_i : InR i) (M : Mem) (Ret : KR) (hp : By M ∧ 0 ≤ i ∧ i ≤ 200) (hR : Ret (some (mi (b2i (wnt (YV M) i)))) M) (hM : MOk M) (Z : KZ) (hZ : Sim cd_X7_wantsLetters Z Ret) : Z 0 [some (mr 73), some (mi i)] [] M := by
  obtain ⟨hb, hi, hi2⟩ := hp
  refine w_aload hZ 0 1 rfl rfl rfl ?_
  refine w_iload hZ 1 2 rfl rfl rfl ?_
  refine k_X7_sign0 hZ 2 3 rfl rfl (Nat.le_of_ble_eq_true rfl) hb ?_
  refine w_i2l hZ 3 4 rfl rfl  ?_
  refine w_lconst hZ 4 5 rfl rfl  ?_
  refine w_lconst hZ 5 6 rfl rfl  ?_
  refine k_X7_in hZ 6 7 rfl rfl (Nat.le_of_ble_eq_true rfl)  ?_
  refine w_ifeq hZ 7 8 rfl rfl (fun c7 => ?_) (fun c7 => ?_)
  · refine w_const hZ 14 15 rfl rfl  ?_
    refine w_zret hZ 15 rfl (by omega) ?_
    first
      | exact ret_i hR (b2i_t ⟨(b2i_e.mp c7).1, (b2i_e.mp c7).2, b2i_e.mp c11⟩)
      | exact ret_i hR (b2i_f (fun z => (b2i_z.mp c7) ⟨z.1, z.2.1⟩))
      | exact ret_i hR (b2i_f (fun z => (b2i_z.mp c11) z.2.2))
  · refine w_aload hZ 8 9 rfl rfl rfl ?_
    refine w_iload hZ 9 10 rfl rfl rfl ?_
    refine k_X7_isBehindFigures hZ 10 11 rfl rfl (Nat.le_of_ble_eq_true rfl) ⟨hb, by unfold InR; omega, by unfold InR; omega⟩ ?_
    refine w_ifeq hZ 11 12 rfl rfl (fun c11 => ?_) (fun c11 => ?_)
    · refine w_const hZ 14 15 rfl rfl  ?_
      refine w_zret hZ 15 rfl (by omega) ?_
      first
        | exact ret_i hR (b2i_t ⟨(b2i_e.mp c7).1, (b2i_e.mp c7).2, b2i_e.mp c11⟩)
        | exact ret_i hR (b2i_f (fun z => (b2i_z.mp c7) ⟨z.1, z.2.1⟩))
        | exact ret_i hR (b2i_f (fun z => (b2i_z.mp c11) z.2.2))
    · refine w_const hZ 12 13 rfl rfl  ?_
      refine w_goto hZ 13 15 rfl ?_
      refine w_zret hZ 15 rfl (by omega) ?_
      first
        | exact ret_i hR (b2i_t ⟨(b2i_e.mp c7).1, (b2i_e.mp c7).2, b2i_e.mp c11⟩)
        | exact ret_i hR (b2i_f (fun z => (b2i_z.mp c7) ⟨z.1, z.2.1⟩))
        | exact ret_i hR (b2i_f (fun z => (b2i_z.mp c11) z.2.2))
set_option maxRecDepth 100000 in
set_option maxHeartbeats 4000000 in
theorem ao_X7_wantsLetters : AllOk yX7_wantsLetters.cls cX7_wantsLetters 2 3 68 (some .boolean) none pc_X7_wantsLetters 0 cd_X7_wantsLetters := ⟨s_aload_n (k := 0) (by decide +kernel) rfl rfl, ⟨s_iload_n (k := 1) (by decide +kernel) rfl rfl, ⟨s_callV (C := RX7) (T := TX7) (N := 22) rfl ct_X7_sign0 (by decide) (by decide) ⟨rfl, by decide +kernel, by decide +kernel, by decide +kernel⟩ tw_4_90 tw_4_92 ts_3_9 tw_1_8 tw_4_93 (by decide +kernel) rfl, ⟨s_i2l (by decide +kernel) rfl, ⟨s_ldc2 (v := (97)) tw_4_62 (by decide +kernel) rfl ⟨by decide, by decide⟩ (by decide +kernel), ⟨s_ldc2 (v := (106)) tw_4_137 (by decide +kernel) rfl ⟨by decide, by decide⟩ (by decide +kernel), ⟨s_callS ct_X7_in (by decide) (by decide) ⟨by decide +kernel, by decide +kernel, by decide +kernel⟩ tw_3_234 tw_3_235 tw_1_8 tw_3_236 (by decide +kernel) rfl, ⟨s_ifeq (off := (15)) (by decide +kernel) rfl rfl, ⟨s_aload_n (k := 0) (by decide +kernel) rfl rfl, ⟨s_iload_n (k := 1) (by decide +kernel) rfl rfl, ⟨s_callV (C := RX7) (T := TX7) (N := 22) rfl ct_X7_isBehindFigures (by decide) (by decide) ⟨rfl, by decide +kernel, by decide +kernel, by decide +kernel⟩ tw_4_138 tw_4_140 ts_4_4 tw_1_8 tw_4_141 (by decide +kernel) rfl, ⟨s_ifeq (off := (7)) (by decide +kernel) rfl rfl, ⟨s_iconst (by decide +kernel) rfl ⟨by decide, by decide⟩, ⟨s_goto (off := (4)) (by decide +kernel) rfl, ⟨s_iconst (by decide +kernel) rfl ⟨by decide, by decide⟩, ⟨s_zret rfl (by decide +kernel), trivial⟩⟩⟩⟩⟩⟩⟩⟩⟩⟩⟩⟩⟩⟩⟩⟩
theorem ct_X7_wantsLetters : Ctr yX7_wantsLetters cX7_wantsLetters 2 (some .boolean) 3 68 sp_X7_wantsLetters := by
  refine ctr_of (by decide +kernel) ao_X7_wantsLetters rfl ?_
  rintro av M Ret ⟨i, rfl, hp, hR⟩ hok hM
  exact ⟨Nat.le_of_ble_eq_true rfl, fun Z hZ => b_X7_wantsLetters  i (hok _ (List.mem_of_getElem? (i := 1) rfl)) M Ret hp hR hM Z hZ⟩
def sp_X7_isJoint : SP := fun av M Ret => ∃ i : Int, av = [mr 73, mi i] ∧ (By M ∧ -1 ≤ i ∧ i ≤ 200) ∧ (Ret (some (mi (b2i (isPC (vS (YV M) i) ∧ isFg (vS (YV M) (i - 1)) ∧ isFg (vS (YV M) (i + 1)))))) M)
theorem k_X7_isJoint {code : List Sem} {Z : KZ} {Ret : KR} {ls : List (Option MV)} {M : Mem} {r : List MV} (hZ : Sim code Z Ret) (ip np : Nat) {i : Int} (hc : code[ip]? = some (I_callV 7 1 sp_X7_isJoint)) (hn : ip + 1 = np) (h3 : catS r ≤ 8)  (hp : By M ∧ -1 ≤ i ∧ i ≤ 200) (kz : Z np ls (mi (b2i (isPC (vS (YV M) i) ∧ isFg (vS (YV M) (i - 1)) ∧ isFg (vS (YV M) (i + 1)))) :: r) M) : Z ip ls (mi i :: mr 73 :: r) M := w_callV1 hZ ip np hc hn rfl rfl h3 ⟨_, rfl, hp, kz⟩
def cd_X7_isJoint : List Sem := [I_aload 0, I_iload 1, I_callV 7 1 sp_X7_sign0, I_istore 2, I_iload 2, I_const (46), I_ceq 10, I_iload 2, I_const (44), I_cne 26, I_aload 0, I_iload 1, I_const (1), I_sub, I_callV 7 1 sp_X7_sign0, I_callS 1 sp_X7_isFigure, I_ifeq 26, I_aload 0, I_iload 1, I_const (1), I_add, I_callV 7 1 sp_X7_sign0, I_callS 1 sp_X7_isFigure, I_ifeq 26, I_const (1), I_goto 27, I_const (0), I_zret]
def pc_X7_isJoint : List Nat := [0, 1, 2, 5, 6, 7, 9, 12, 13, 15, 18, 19, 20, 21, 22, 25, 28, 31, 32, 33, 34, 35, 38, 41, 44, 45, 48, 49]
set_option maxRecDepth 100000 in
set_option maxHeartbeats 4000000 in
theorem b_X7_isJoint (i : Int) (i_i : InR i) (M : Mem) (Ret : KR) (hp : By M ∧ -1 ≤ i ∧ i ≤ 200) (hR : Ret (some (mi (b2i (isPC (vS (YV M) i) ∧ isFg (vS (YV M) (i - 1)) ∧ isFg (vS (YV M) (i + 1)))))) M) (hM : MOk M) (Z : KZ) (hZ : Sim cd_X7_isJoint Z Ret) : Z 0 [some (mr 73), some (mi i), none] [] M := by
  obtain ⟨hb, hi, hi2⟩ := hp
  refine w_aload hZ 0 1 rfl rfl rfl ?_
  refine w_iload hZ 1 2 rfl rfl rfl ?_
  refine k_X7_sign0 hZ 2 3 rfl rfl (Nat.le_of_ble_eq_true rfl) hb ?_
  refine w_st3_2 hZ 3 4 rfl rfl rfl ?_
  refine w_iload hZ 4 5 rfl rfl rfl ?_
  refine w_const hZ 5 6 rfl rfl  ?_
  refine w_ceq hZ 6 7 rfl rfl (fun c6 => ?_) (fun c6 => ?_)
  · refine w_aload hZ 10 11 rfl rfl rfl ?_
    refine w_iload hZ 11 12 rfl rfl rfl ?_
    refine w_const hZ 12 13 rfl rfl  ?_
    refine w_sub hZ 13 14 rfl rfl (by unfold InR; omega) ?_
    refine k_X7_sign0 hZ 14 15 rfl rfl (Nat.le_of_ble_eq_true rfl) hb ?_
    refine k_X7_isFigure hZ 15 16 rfl rfl (Nat.le_of_ble_eq_true rfl)  ?_
    refine w_ifeq hZ 16 17 rfl rfl (fun c16 => ?_) (fun c16 => ?_)
    · refine w_const hZ 26 27 rfl rfl  ?_
      refine w_zret hZ 27 rfl (by omega) ?_
      exact ret_i hR (by (first | refine b2i_t ?_ | refine b2i_f ?_); (try replace c16 := b2i_z.mp c16); (try replace c16 := b2i_e.mp c16); (try replace c23 := b2i_z.mp c23); (try replace c23 := b2i_e.mp c23); simp only [isFg, isPC] at *; omega)
    · refine w_aload hZ 17 18 rfl rfl rfl ?_
      refine w_iload hZ 18 19 rfl rfl rfl ?_
      refine w_const hZ 19 20 rfl rfl  ?_
      refine w_add hZ 20 21 rfl rfl (by unfold InR; omega) ?_
      refine k_X7_sign0 hZ 21 22 rfl rfl (Nat.le_of_ble_eq_true rfl) hb ?_
      refine k_X7_isFigure hZ 22 23 rfl rfl (Nat.le_of_ble_eq_true rfl)  ?_
      refine w_ifeq hZ 23 24 rfl rfl (fun c23 => ?_) (fun c23 => ?_)
      · refine w_const hZ 26 27 rfl rfl  ?_
        refine w_zret hZ 27 rfl (by omega) ?_
        exact ret_i hR (by (first | refine b2i_t ?_ | refine b2i_f ?_); (try replace c16 := b2i_z.mp c16); (try replace c16 := b2i_e.mp c16); (try replace c23 := b2i_z.mp c23); (try replace c23 := b2i_e.mp c23); simp only [isFg, isPC] at *; omega)
      · refine w_const hZ 24 25 rfl rfl  ?_
        refine w_goto hZ 25 27 rfl ?_
        refine w_zret hZ 27 rfl (by omega) ?_
        exact ret_i hR (by (first | refine b2i_t ?_ | refine b2i_f ?_); (try replace c16 := b2i_z.mp c16); (try replace c16 := b2i_e.mp c16); (try replace c23 := b2i_z.mp c23); (try replace c23 := b2i_e.mp c23); simp only [isFg, isPC] at *; omega)
  · refine w_iload hZ 7 8 rfl rfl rfl ?_
    refine w_const hZ 8 9 rfl rfl  ?_
    refine w_cne hZ 9 10 rfl rfl (fun c9 => ?_) (fun c9 => ?_)
    · refine w_const hZ 26 27 rfl rfl  ?_
      refine w_zret hZ 27 rfl (by omega) ?_
      exact ret_i hR (by (first | refine b2i_t ?_ | refine b2i_f ?_); (try replace c16 := b2i_z.mp c16); (try replace c16 := b2i_e.mp c16); (try replace c23 := b2i_z.mp c23); (try replace c23 := b2i_e.mp c23); simp only [isFg, isPC] at *; omega)
    · refine w_aload hZ 10 11 rfl rfl rfl ?_
      refine w_iload hZ 11 12 rfl rfl rfl ?_
      refine w_const hZ 12 13 rfl rfl  ?_
      refine w_sub hZ 13 14 rfl rfl (by unfold InR; omega) ?_
      refine k_X7_sign0 hZ 14 15 rfl rfl (Nat.le_of_ble_eq_true rfl) hb ?_
      refine k_X7_isFigure hZ 15 16 rfl rfl (Nat.le_of_ble_eq_true rfl)  ?_
      refine w_ifeq hZ 16 17 rfl rfl (fun c16 => ?_) (fun c16 => ?_)
      · refine w_const hZ 26 27 rfl rfl  ?_
        refine w_zret hZ 27 rfl (by omega) ?_
        exact ret_i hR (by (first | refine b2i_t ?_ | refine b2i_f ?_); (try replace c16 := b2i_z.mp c16); (try replace c16 := b2i_e.mp c16); (try replace c23 := b2i_z.mp c23); (try replace c23 := b2i_e.mp c23); simp only [isFg, isPC] at *; omega)
      · refine w_aload hZ 17 18 rfl rfl rfl ?_
        refine w_iload hZ 18 19 rfl rfl rfl ?_
        refine w_const hZ 19 20 rfl rfl  ?_
        refine w_add hZ 20 21 rfl rfl (by unfold InR; omega) ?_
        refine k_X7_sign0 hZ 21 22 rfl rfl (Nat.le_of_ble_eq_true rfl) hb ?_
        refine k_X7_isFigure hZ 22 23 rfl rfl (Nat.le_of_ble_eq_true rfl)  ?_
        refine w_ifeq hZ 23 24 rfl rfl (fun c23 => ?_) (fun c23 => ?_)
        · refine w_const hZ 26 27 rfl rfl  ?_
          refine w_zret hZ 27 rfl (by omega) ?_
          exact ret_i hR (by (first | refine b2i_t ?_ | refine b2i_f ?_); (try replace c16 := b2i_z.mp c16); (try replace c16 := b2i_e.mp c16); (try replace c23 := b2i_z.mp c23); (try replace c23 := b2i_e.mp c23); simp only [isFg, isPC] at *; omega)
        · refine w_const hZ 24 25 rfl rfl  ?_
          refine w_goto hZ 25 27 rfl ?_
          refine w_zret hZ 27 rfl (by omega) ?_
          exact ret_i hR (by (first | refine b2i_t ?_ | refine b2i_f ?_); (try replace c16 := b2i_z.mp c16); (try replace c16 := b2i_e.mp c16); (try replace c23 := b2i_z.mp c23); (try replace c23 := b2i_e.mp c23); simp only [isFg, isPC] at *; omega)
set_option maxRecDepth 100000 in
set_option maxHeartbeats 4000000 in
theorem ao_X7_isJoint : AllOk yX7_isJoint.cls cX7_isJoint 3 2 46 (some .boolean) none pc_X7_isJoint 0 cd_X7_isJoint := ⟨s_aload_n (k := 0) (by decide +kernel) rfl rfl, ⟨s_iload_n (k := 1) (by decide +kernel) rfl rfl, ⟨s_callV (C := RX7) (T := TX7) (N := 22) rfl ct_X7_sign0 (by decide) (by decide) ⟨rfl, by decide +kernel, by decide +kernel, by decide +kernel⟩ tw_4_90 tw_4_92 ts_3_9 tw_1_8 tw_4_93 (by decide +kernel) rfl, ⟨s_istore_n (k := 2) (by decide +kernel) rfl rfl, ⟨s_iload_n (k := 2) (by decide +kernel) rfl rfl, ⟨s_bipush (by decide +kernel) rfl ⟨by decide, by decide⟩ (by decide +kernel), ⟨s_ceq (off := (9)) (by decide +kernel) rfl rfl, ⟨s_iload_n (k := 2) (by decide +kernel) rfl rfl, ⟨s_bipush (by decide +kernel) rfl ⟨by decide, by decide⟩ (by decide +kernel), ⟨s_cne (off := (33)) (by decide +kernel) rfl rfl, ⟨s_aload_n (k := 0) (by decide +kernel) rfl rfl, ⟨s_iload_n (k := 1) (by decide +kernel) rfl rfl, ⟨s_iconst (by decide +kernel) rfl ⟨by decide, by decide⟩, ⟨s_sub (by decide +kernel) rfl, ⟨s_callV (C := RX7) (T := TX7) (N := 22) rfl ct_X7_sign0 (by decide) (by decide) ⟨rfl, by decide +kernel, by decide +kernel, by decide +kernel⟩ tw_4_90 tw_4_92 ts_3_9 tw_1_8 tw_4_93 (by decide +kernel) rfl, ⟨s_callS ct_X7_isFigure (by decide) (by decide) ⟨by decide +kernel, by decide +kernel, by decide +kernel⟩ tw_4_69 tw_4_70 tw_1_8 tw_4_71 (by decide +kernel) rfl, ⟨s_ifeq (off := (20)) (by decide +kernel) rfl rfl, ⟨s_aload_n (k := 0) (by decide +kernel) rfl rfl, ⟨s_iload_n (k := 1) (by decide +kernel) rfl rfl, ⟨s_iconst (by decide +kernel) rfl ⟨by decide, by decide⟩, ⟨s_add (by decide +kernel) rfl, ⟨s_callV (C := RX7) (T := TX7) (N := 22) rfl ct_X7_sign0 (by decide) (by decide) ⟨rfl, by decide +kernel, by decide +kernel, by decide +kernel⟩ tw_4_90 tw_4_92 ts_3_9 tw_1_8 tw_4_93 (by decide +kernel) rfl, ⟨s_callS ct_X7_isFigure (by decide) (by decide) ⟨by decide +kernel, by decide +kernel, by decide +kernel⟩ tw_4_69 tw_4_70 tw_1_8 tw_4_71 (by decide +kernel) rfl, ⟨s_ifeq (off := (7)) (by decide +kernel) rfl rfl, ⟨s_iconst (by decide +kernel) rfl ⟨by decide, by decide⟩, ⟨s_goto (off := (4)) (by decide +kernel) rfl, ⟨s_iconst (by decide +kernel) rfl ⟨by decide, by decide⟩, ⟨s_zret rfl (by decide +kernel), trivial⟩⟩⟩⟩⟩⟩⟩⟩⟩⟩⟩⟩⟩⟩⟩⟩⟩⟩⟩⟩⟩⟩⟩⟩⟩⟩⟩⟩
theorem ct_X7_isJoint : Ctr yX7_isJoint cX7_isJoint 3 (some .boolean) 2 46 sp_X7_isJoint := by
  refine ctr_of (by decide +kernel) ao_X7_isJoint rfl ?_
  rintro av M Ret ⟨i, rfl, hp, hR⟩ hok hM
  exact ⟨Nat.le_of_ble_eq_true rfl, fun Z hZ => b_X7_isJoint  i (hok _ (List.mem_of_getElem? (i := 1) rfl)) M Ret hp hR hM Z hZ⟩
