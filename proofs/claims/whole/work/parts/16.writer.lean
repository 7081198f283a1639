/-! Writer -/
def gM (M : Mem) : Bool := decide (M 10 9 = 1)
/-- a word has been entered -/
def En (M : Mem) : Prop := 0 ≤ M 10 7 ∧ M 10 7 < M 10 8 ∧ M 10 8 ≤ M 1 5 ∧ ∀ i, M 10 7 ≤ i → i < M 10 8 → isLt (vS (bX M 1) i) ∧ M 14 i.toNat = smV (bX M 1) (gM M) i
theorem bX_same {M M2 : Mem} (k : Nat) (h : ∀ j, k ≤ j → j ≤ k + 4 → M2 j = M j) : bX M2 k = bX M k := by
  unfold bX
  rw [h k (by omega) (by omega), h (k + 1) (by omega) (by omega), h (k + 2) (by omega) (by omega), h (k + 3) (by omega) (by omega), h (k + 4) (by omega) (by omega)]
theorem vOk.bx {M : Mem} (h : vOk (bX M 1)) : Bx M := ⟨h.2.2.1, h.2.2.2.1, h.1, h.2.1⟩
def q27 (j : Int) : Int := if j ≤ 0 then 1 else if j = 1 then 27 else if j = 2 then 729 else if j = 3 then 19683 else 531441
theorem q27_step {j : Int} (h0 : 0 ≤ j) (h1 : j ≤ 3) : q27 (j + 1) = 27 * q27 j := by
  rcases (by omega : j = 0 ∨ j = 1 ∨ j = 2 ∨ j = 3) with rfl | rfl | rfl | rfl <;> decide
theorem q27_le {j : Int} (h1 : j ≤ 3) : q27 j ≤ 19683 := by unfold q27; repeat' split <;> omega
def addCl (M : Mem) (c : Int) : Mem := mup (mup M 11 (M 10 4).toNat c) 10 4 (M 10 4 + 1)
/-- the events D come behind what is written -/
def ApE (D : List Ev) (M M2 : Mem) : Prop := M2 10 4 = M 10 4 + D.length ∧ (∀ j : Nat, (j : Int) < M 10 4 → M2 11 j = M 11 j) ∧ (∀ j : Nat, j < D.length → M2 11 ((M 10 4).toNat + j) = (D.map fun e => e.1).getD j 0) ∧
  (∀ k : Nat, k < 12 → M2 12 k = M 12 k + cntE D k ∧ M2 13 k = if M 12 k = 0 ∧ ¬ cntE D k = 0 then fstE D k else M 13 k) ∧ (∀ f, ¬ f = 4 → M2 10 f = M 10 f) ∧ ∀ k, k < 10 ∨ 13 < k → M2 k = M k
theorem ApE_nil (M : Mem) : ApE [] M M := by
  refine ⟨by simp, fun _ _ => rfl, fun j h => by simp at h, fun k hk => ⟨by simp [cntE], ?_⟩, fun _ _ => rfl, fun _ _ => rfl⟩
  rw [if_neg (by simp [cntE])]
theorem ApE_cell {M : Mem} (h0 : 0 ≤ M 10 4) (e : Ev) (he : e.2.1 = -1) : ApE [e] M (addCl M e.1) := by
  have hc : ∀ k : Nat, cntE [e] k = 0 := fun k => by rw [cntE_1, if_neg (by omega)]
  refine ⟨by simp [addCl, mup_at], fun j hj => ?_, fun j hj => ?_, fun k hk => ⟨?_, ?_⟩, fun f hf => ?_, fun k hk => ?_⟩
  · have : ¬ j = (M 10 4).toNat := by omega
    simp [addCl, mup_at, this]
  · have : j = 0 := by simpa using hj
    subst this
    simp [addCl, mup_at]
  · rw [hc k]; simp [addCl, mup_at]
  · rw [hc k, if_neg (by simp)]; simp [addCl, mup_at]
  · simp [addCl, mup_at, hf]
  · funext j
    have a : ¬ k = 10 := by omega
    have b : ¬ k = 11 := by omega
    simp [addCl, mup_at, a, b]
theorem ApE.trans {A B : List Ev} {M N M2 : Mem} (h : ApE A M N) (h2 : ApE B N M2) (h0 : 0 ≤ M 10 4) (hs : ∀ k : Nat, k < 12 → 0 ≤ M 12 k) : ApE (A ++ B) M M2 := by
  obtain ⟨a1, a2, a3, a4, a5, a6⟩ := h
  obtain ⟨b1, b2, b3, b4, b5, b6⟩ := h2
  refine ⟨by rw [b1, a1, List.length_append]; omega, fun j hj => by rw [b2 j (by omega), a2 j hj], fun j hj => ?_, fun k hk => ⟨?_, ?_⟩, fun f hf => by rw [b5 f hf, a5 f hf], fun k hk => by rw [b6 k hk, a6 k hk]⟩
  · rw [List.map_append]
    rw [List.length_append] at hj
    by_cases q : j < A.length
    · rw [b2 _ (by omega), a3 j q, List.getD_eq_getElem?_getD, List.getD_eq_getElem?_getD, List.getElem?_append_left (by simpa using q)]
    · have e : (M 10 4).toNat + j = (N 10 4).toNat + (j - A.length) := by omega
      rw [e, b3 _ (by omega), List.getD_eq_getElem?_getD, List.getD_eq_getElem?_getD, List.getElem?_append_right (by simpa using q)]
      simp
  · rw [(b4 k hk).1, (a4 k hk).1, cntE_app]; omega
  · have n1 := cntE_nn A k
    have n2 := cntE_nn B k
    have n3 := hs k hk
    rw [(b4 k hk).2, (a4 k hk).1, (a4 k hk).2, cntE_app, fstE_app]
    by_cases z : M 12 k = 0
    · by_cases q : cntE A k = 0
      · by_cases q2 : cntE B k = 0
        · rw [if_neg (by omega), if_neg (by omega), if_neg (by omega)]
        · rw [if_pos (by omega), if_pos (by omega), if_pos q]
      · rw [if_neg (by omega), if_pos (by omega), if_pos (by omega), if_neg q]
    · rw [if_neg (by omega), if_neg (by omega), if_neg (by omega)]
theorem ApE.bx {D : List Ev} {M M2 : Mem} (h : ApE D M M2) : bX M2 1 = bX M 1 := bX_same 1 (fun j a b => h.2.2.2.2.2 j (by omega))
theorem ApE.en {D : List Ev} {M M2 : Mem} (h : ApE D M M2) (he : En M) : En M2 := by
  have hb := h.bx
  have h1 : M2 1 = M 1 := h.2.2.2.2.2 1 (by omega)
  have h14 : M2 14 = M 14 := h.2.2.2.2.2 14 (by omega)
  have h5 := h.2.2.2.2.1
  have hg : gM M2 = gM M := by unfold gM; rw [h5 9 (by omega)]
  unfold En
  rw [h5 7 (by omega), h5 8 (by omega), h1, hb, hg, h14]
  exact he
theorem ApE.sn {D : List Ev} {M M2 : Mem} (h : ApE D M M2) (h0 : ∀ k : Nat, k < 12 → 0 ≤ M 12 k ∧ M 12 k ≤ M 10 4) : ∀ k : Nat, k < 12 → 0 ≤ M2 12 k ∧ M2 12 k ≤ M2 10 4 := fun k hk => by
  have := h0 k hk
  have := cntE_nn D k
  have := cntE_le D k
  rw [(h.2.2.2.1 k hk).1, h.1]
  omega
def sp_X5_begin : SP := fun av M Ret => ∃ w : Int, av = [mr 10, mi w] ∧ (∀ M2 : Mem, (M2 10 = rup (rup (rup (M 10) 5 w) 4 0) 6 0 ∧ (∀ j : Nat, j < 12 → M2 12 j = 0 ∧ M2 13 j = -1) ∧ ∀ k, ¬ k = 10 → ¬ k = 12 → ¬ k = 13 → M2 k = M k) → Ret none M2)
theorem k_X5_begin {code : List Sem} {Z : KZ} {Ret : KR} {ls : List (Option MV)} {M : Mem} {r : List MV} (hZ : Sim code Z Ret) (ip np : Nat) {w : Int} (hc : code[ip]? = some (I_callV 5 1 sp_X5_begin)) (hn : ip + 1 = np) (h3 : catS r ≤ 8)   (kz : ∀ M2 : Mem, (M2 10 = rup (rup (rup (M 10) 5 w) 4 0) 6 0 ∧ (∀ j : Nat, j < 12 → M2 12 j = 0 ∧ M2 13 j = -1) ∧ ∀ k, ¬ k = 10 → ¬ k = 12 → ¬ k = 13 → M2 k = M k) → Z np ls r M2) : Z ip ls (mi w :: mr 10 :: r) M := w_callV1 hZ ip np hc hn rfl rfl h3 ⟨_, rfl, fun M2 h => kz M2 h⟩
def cd_X5_begin : List Sem := [I_aload 0, I_iload 1, I_puti 5 5, I_aload 0, I_const (0), I_puti 5 4, I_aload 0, I_const (0), I_puti 5 6, I_const (0), I_istore 2, I_iload 2, I_const (12), I_cge 26, I_aload 0, I_get 5 1, I_iload 2, I_const (0), I_iast, I_aload 0, I_get 5 2, I_iload 2, I_const (-1), I_iast, I_iinc 2 (1), I_goto 11, I_vret]
def pc_X5_begin : List Nat := [0, 1, 2, 5, 6, 7, 10, 11, 12, 15, 16, 17, 18, 20, 23, 24, 27, 28, 29, 30, 31, 34, 35, 36, 37, 40, 43]
set_option maxRecDepth 100000 in
set_option maxHeartbeats 4000000 in
theorem b_X5_begin (w : Int) (i_w : InR w) (M : Mem) (Ret : KR)  (hR : ∀ M2 : Mem, (M2 10 = rup (rup (rup (M 10) 5 w) 4 0) 6 0 ∧ (∀ j : Nat, j < 12 → M2 12 j = 0 ∧ M2 13 j = -1) ∧ ∀ k, ¬ k = 10 → ¬ k = 12 → ¬ k = 13 → M2 k = M k) → Ret none M2) (hM : MOk M) (Z : KZ) (hZ : Sim cd_X5_begin Z Ret) : Z 0 [some (mr 10), some (mi w), none] [] M := by
  have loop : ∀ (d : Nat) (i : Int) (N : Mem), d = (12 - i).toNat → 0 ≤ i → i ≤ 12 → N 10 = rup (rup (rup (M 10) 5 w) 4 0) 6 0 → (∀ j : Nat, (j : Int) < i → N 12 j = 0 ∧ N 13 j = -1) → (∀ k, ¬ k = 10 → ¬ k = 12 → ¬ k = 13 → N k = M k) → Z 11 [some (mr 10), some (mi w), some (mi i)] [] N := by
    intro d
    induction d using Nat.strongRecOn with
    | ind d ih =>
      intro i N hd h0 h1 e1 e2 e3
      refine w_iload hZ 11 12 rfl rfl rfl ?_
      refine w_const hZ 12 13 rfl rfl  ?_
      refine w_cge hZ 13 14 rfl rfl (fun c13 => ?_) (fun c13 => ?_)
      · refine w_vret hZ 26 rfl ?_
        exact hR _ ⟨e1, fun j hj => e2 j (by omega), e3⟩
      · refine w_aload hZ 14 15 rfl rfl rfl ?_
        refine w_getr hZ 15 16 rfl rfl rfl rfl rfl ?_
        refine w_iload hZ 16 17 rfl rfl rfl ?_
        refine w_const hZ 17 18 rfl rfl  ?_
        refine w_iast hZ 18 19 rfl rfl rfl (by omega) (by omega) ?_
        refine w_aload hZ 19 20 rfl rfl rfl ?_
        refine w_getr hZ 20 21 rfl rfl rfl rfl rfl ?_
        refine w_iload hZ 21 22 rfl rfl rfl ?_
        refine w_const hZ 22 23 rfl rfl  ?_
        refine w_iast hZ 23 24 rfl rfl rfl (by omega) (by omega) ?_
        refine w_in3_2 hZ 24 25 rfl rfl rfl (by unfold InR; omega) ?_
        refine w_goto hZ 25 11 rfl ?_
        refine ih ((12 - (i + 1)).toNat) (by omega) (i + 1) _ rfl (by omega) (by omega) ?_ (fun j hj => ?_) (fun k a b c => ?_)
        · rw [← e1]; funext j; simp [mup_at]
        · by_cases q : j = i.toNat
          · simp [mup_at, q]
          · simp [mup_at, q]; exact e2 j (by omega)
        · rw [← e3 k a b c]; funext j; simp [mup_at, b, c]
  refine w_aload hZ 0 1 rfl rfl rfl ?_
  refine w_iload hZ 1 2 rfl rfl rfl ?_
  refine w_puti hZ 2 3 rfl rfl rfl rfl rfl ?_
  refine w_aload hZ 3 4 rfl rfl rfl ?_
  refine w_const hZ 4 5 rfl rfl  ?_
  refine w_puti hZ 5 6 rfl rfl rfl rfl rfl ?_
  refine w_aload hZ 6 7 rfl rfl rfl ?_
  refine w_const hZ 7 8 rfl rfl  ?_
  refine w_puti hZ 8 9 rfl rfl rfl rfl rfl ?_
  refine w_const hZ 9 10 rfl rfl  ?_
  refine w_st3_2 hZ 10 11 rfl rfl rfl ?_
  refine loop 12 0 _ rfl (by omega) (by omega) ?_ (fun j hj => by omega) (fun k a b c => ?_)
  · rfl
  · funext j; simp [mup_at, a]
set_option maxRecDepth 100000 in
set_option maxHeartbeats 4000000 in
theorem ao_X5_begin : AllOk yX5_begin.cls cX5_begin 3 0 0 none none pc_X5_begin 0 cd_X5_begin := ⟨s_aload_n (k := 0) (by decide +kernel) rfl rfl, ⟨s_iload_n (k := 1) (by decide +kernel) rfl rfl, ⟨s_puti (C := RX5) (T := TX5) (N := 12) (tyf := tyX5) rfl inT5 tyX5_ok nmX5 (by decide) rfl rfl tw_1_97 (by decide +kernel) rfl, ⟨s_aload_n (k := 0) (by decide +kernel) rfl rfl, ⟨s_iconst (by decide +kernel) rfl ⟨by decide, by decide⟩, ⟨s_puti (C := RX5) (T := TX5) (N := 12) (tyf := tyX5) rfl inT5 tyX5_ok nmX5 (by decide) rfl rfl tw_1_96 (by decide +kernel) rfl, ⟨s_aload_n (k := 0) (by decide +kernel) rfl rfl, ⟨s_iconst (by decide +kernel) rfl ⟨by decide, by decide⟩, ⟨s_puti (C := RX5) (T := TX5) (N := 12) (tyf := tyX5) rfl inT5 tyX5_ok nmX5 (by decide) rfl rfl tw_1_98 (by decide +kernel) rfl, ⟨s_iconst (by decide +kernel) rfl ⟨by decide, by decide⟩, ⟨s_istore_n (k := 2) (by decide +kernel) rfl rfl, ⟨s_iload_n (k := 2) (by decide +kernel) rfl rfl, ⟨s_bipush (by decide +kernel) rfl ⟨by decide, by decide⟩ (by decide +kernel), ⟨s_cge (off := (23)) (by decide +kernel) rfl rfl, ⟨s_aload_n (k := 0) (by decide +kernel) rfl rfl, ⟨s_get (C := RX5) (T := TX5) (N := 12) rfl inT5 (by decide) tw_1_91 (by decide +kernel) rfl, ⟨s_iload_n (k := 2) (by decide +kernel) rfl rfl, ⟨s_iconst (by decide +kernel) rfl ⟨by decide, by decide⟩, ⟨s_iast (by decide +kernel) rfl, ⟨s_aload_n (k := 0) (by decide +kernel) rfl rfl, ⟨s_get (C := RX5) (T := TX5) (N := 12) rfl inT5 (by decide) tw_1_93 (by decide +kernel) rfl, ⟨s_iload_n (k := 2) (by decide +kernel) rfl rfl, ⟨s_iconst (by decide +kernel) rfl ⟨by decide, by decide⟩, ⟨s_iast (by decide +kernel) rfl, ⟨s_iinc (by decide +kernel) rfl, ⟨s_goto (off := (-23)) (by decide +kernel) rfl, ⟨s_vret rfl (by decide +kernel), trivial⟩⟩⟩⟩⟩⟩⟩⟩⟩⟩⟩⟩⟩⟩⟩⟩⟩⟩⟩⟩⟩⟩⟩⟩⟩⟩⟩
theorem ct_X5_begin : Ctr yX5_begin cX5_begin 3 none 0 0 sp_X5_begin := by
  refine ctr_of (by decide +kernel) ao_X5_begin rfl ?_
  rintro av M Ret ⟨w, rfl, hR⟩ hok hM
  exact ⟨Nat.le_of_ble_eq_true rfl, fun Z hZ => b_X5_begin  w (hok _ (List.mem_of_getElem? (i := 1) rfl)) M Ret  hR hM Z hZ⟩
def sp_X5_addCell : SP := fun av M Ret => ∃ c : Int, av = [mr 10, mi c] ∧ (0 ≤ M 10 4 ∧ M 10 4 < 240) ∧ (∀ M2 : Mem, (M2 = addCl M c) → Ret none M2)
theorem k_X5_addCell {code : List Sem} {Z : KZ} {Ret : KR} {ls : List (Option MV)} {M : Mem} {r : List MV} (hZ : Sim code Z Ret) (ip np : Nat) {c : Int} (hc : code[ip]? = some (I_callV 5 1 sp_X5_addCell)) (hn : ip + 1 = np) (h3 : catS r ≤ 8)  (hp : 0 ≤ M 10 4 ∧ M 10 4 < 240) (kz : ∀ M2 : Mem, (M2 = addCl M c) → Z np ls r M2) : Z ip ls (mi c :: mr 10 :: r) M := w_callV1 hZ ip np hc hn rfl rfl h3 ⟨_, rfl, hp, fun M2 h => kz M2 h⟩
def cd_X5_addCell : List Sem := [I_aload 0, I_get 5 4, I_const (240), I_cge 16, I_aload 0, I_get 5 0, I_aload 0, I_get 5 4, I_iload 1, I_iast, I_aload 0, I_dup, I_get 5 4, I_const (1), I_add, I_puti 5 4, I_vret]
def pc_X5_addCell : List Nat := [0, 1, 4, 7, 10, 11, 14, 15, 18, 19, 20, 21, 22, 25, 26, 27, 30]
set_option maxRecDepth 100000 in
set_option maxHeartbeats 4000000 in
theorem b_X5_addCell (c : Int) (i_c : InR c) (M : Mem) (Ret : KR) (hp : 0 ≤ M 10 4 ∧ M 10 4 < 240) (hR : ∀ M2 : Mem, (M2 = addCl M c) → Ret none M2) (hM : MOk M) (Z : KZ) (hZ : Sim cd_X5_addCell Z Ret) : Z 0 [some (mr 10), some (mi c)] [] M := by
  obtain ⟨b1, b2⟩ := hp
  refine w_aload hZ 0 1 rfl rfl rfl ?_
  refine w_geti hZ 1 2 rfl rfl rfl rfl rfl ?_
  refine w_const hZ 2 3 rfl rfl  ?_
  refine w_cge hZ 3 4 rfl rfl (fun c3 => absurd c3 (by omega)) (fun c3 => ?_)
  refine w_aload hZ 4 5 rfl rfl rfl ?_
  refine w_getr hZ 5 6 rfl rfl rfl rfl rfl ?_
  refine w_aload hZ 6 7 rfl rfl rfl ?_
  refine w_geti hZ 7 8 rfl rfl rfl rfl rfl ?_
  refine w_iload hZ 8 9 rfl rfl rfl ?_
  refine w_iast hZ 9 10 rfl rfl rfl (by omega) (by omega) ?_
  refine w_aload hZ 10 11 rfl rfl rfl ?_
  refine w_dup hZ 11 12 rfl rfl rfl ?_
  refine w_getiv hZ 12 13 rfl rfl rfl rfl rfl (v := M 10 4) rfl ?_
  refine w_const hZ 13 14 rfl rfl  ?_
  refine w_add hZ 14 15 rfl rfl (by unfold InR; omega) ?_
  refine w_puti hZ 15 16 rfl rfl rfl rfl rfl ?_
  refine w_vret hZ 16 rfl ?_
  exact hR _ rfl
set_option maxRecDepth 100000 in
set_option maxHeartbeats 4000000 in
theorem ao_X5_addCell : AllOk yX5_addCell.cls cX5_addCell 2 0 0 none none pc_X5_addCell 0 cd_X5_addCell := ⟨s_aload_n (k := 0) (by decide +kernel) rfl rfl, ⟨s_get (C := RX5) (T := TX5) (N := 12) rfl inT5 (by decide) tw_1_96 (by decide +kernel) rfl, ⟨s_sipush (by decide +kernel) rfl ⟨by decide, by decide⟩ (by decide +kernel), ⟨s_cge (off := (23)) (by decide +kernel) rfl rfl, ⟨s_aload_n (k := 0) (by decide +kernel) rfl rfl, ⟨s_get (C := RX5) (T := TX5) (N := 12) rfl inT5 (by decide) tw_1_89 (by decide +kernel) rfl, ⟨s_aload_n (k := 0) (by decide +kernel) rfl rfl, ⟨s_get (C := RX5) (T := TX5) (N := 12) rfl inT5 (by decide) tw_1_96 (by decide +kernel) rfl, ⟨s_iload_n (k := 1) (by decide +kernel) rfl rfl, ⟨s_iast (by decide +kernel) rfl, ⟨s_aload_n (k := 0) (by decide +kernel) rfl rfl, ⟨s_dup (by decide +kernel) rfl, ⟨s_get (C := RX5) (T := TX5) (N := 12) rfl inT5 (by decide) tw_1_96 (by decide +kernel) rfl, ⟨s_iconst (by decide +kernel) rfl ⟨by decide, by decide⟩, ⟨s_add (by decide +kernel) rfl, ⟨s_puti (C := RX5) (T := TX5) (N := 12) (tyf := tyX5) rfl inT5 tyX5_ok nmX5 (by decide) rfl rfl tw_1_96 (by decide +kernel) rfl, ⟨s_vret rfl (by decide +kernel), trivial⟩⟩⟩⟩⟩⟩⟩⟩⟩⟩⟩⟩⟩⟩⟩⟩⟩
theorem ct_X5_addCell : Ctr yX5_addCell cX5_addCell 2 none 0 0 sp_X5_addCell := by
  refine ctr_of (by decide +kernel) ao_X5_addCell rfl ?_
  rintro av M Ret ⟨c, rfl, hp, hR⟩ hok hM
  exact ⟨Nat.le_of_ble_eq_true rfl, fun Z hZ => b_X5_addCell  c (hok _ (List.mem_of_getElem? (i := 1) rfl)) M Ret hp hR hM Z hZ⟩
def sp_X5_mayStand : SP := fun av M Ret => ∃ kd : Int, ∃ fr : Int, ∃ to : Int, av = [mr 10, mi kd, mi fr, mi to] ∧ (M 10 7 ≤ fr ∧ to ≤ M 10 8) ∧ (Ret (some (mi (b2i (kdOk kd fr to (M 10 7) (M 10 8))))) M)
theorem k_X5_mayStand {code : List Sem} {Z : KZ} {Ret : KR} {ls : List (Option MV)} {M : Mem} {r : List MV} (hZ : Sim code Z Ret) (ip np : Nat) {kd fr to : Int} (hc : code[ip]? = some (I_callV 5 3 sp_X5_mayStand)) (hn : ip + 1 = np) (h3 : catS r ≤ 8)  (hp : M 10 7 ≤ fr ∧ to ≤ M 10 8) (kz : Z np ls (mi (b2i (kdOk kd fr to (M 10 7) (M 10 8))) :: r) M) : Z ip ls (mi to :: mi fr :: mi kd :: mr 10 :: r) M := w_callV3 hZ ip np hc hn rfl rfl h3 ⟨_, _, _, rfl, hp, kz⟩
def cd_X5_mayStand : List Sem := [I_iload 2, I_aload 0, I_get 5 7, I_cle 6, I_const (1), I_goto 7, I_const (0), I_istore 4, I_iload 3, I_aload 0, I_get 5 8, I_cge 14, I_const (1), I_goto 15, I_const (0), I_istore 5, I_iload 1, I_tsw (0) [18, 20, 28, 36] 44, I_const (1), I_zret, I_iload 4, I_ifne 26, I_iload 5, I_ifne 26, I_const (1), I_goto 27, I_const (0), I_zret, I_iload 4, I_ifne 34, I_iload 5, I_ifeq 34, I_const (1), I_goto 35, I_const (0), I_zret, I_iload 4, I_ifeq 42, I_iload 5, I_ifne 42, I_const (1), I_goto 43, I_const (0), I_zret, I_iload 4, I_ifeq 50, I_iload 5, I_ifeq 50, I_const (1), I_goto 51, I_const (0), I_zret]
def pc_X5_mayStand : List Nat := [0, 1, 2, 5, 8, 9, 12, 13, 15, 16, 17, 20, 23, 24, 27, 28, 30, 31, 60, 61, 62, 64, 67, 69, 72, 73, 76, 77, 78, 80, 83, 85, 88, 89, 92, 93, 94, 96, 99, 101, 104, 105, 108, 109, 110, 112, 115, 117, 120, 121, 124, 125]
set_option maxRecDepth 100000 in
set_option maxHeartbeats 4000000 in
theorem b_X5_mayStand (kd : Int) (i_kd : InR kd) (fr : Int) (i_fr : InR fr) (to : Int) (i_to : InR to) (M : Mem) (Ret : KR) (hp : M 10 7 ≤ fr ∧ to ≤ M 10 8) (hR : Ret (some (mi (b2i (kdOk kd fr to (M 10 7) (M 10 8))))) M) (hM : MOk M) (Z : KZ) (hZ : Sim cd_X5_mayStand Z Ret) : Z 0 [some (mr 10), some (mi kd), some (mi fr), some (mi to), none, none] [] M := by
  obtain ⟨b1, b2⟩ := hp
  refine w_iload hZ 0 1 rfl rfl rfl ?_
  refine w_aload hZ 1 2 rfl rfl rfl ?_
  refine w_geti hZ 2 3 rfl rfl rfl rfl rfl ?_
  refine w_cle hZ 3 4 rfl rfl (fun c3 => ?_) (fun c3 => ?_)
  · refine w_const hZ 6 7 rfl rfl  ?_
    refine w_st6_4 hZ 7 8 rfl rfl rfl ?_
    refine w_iload hZ 8 9 rfl rfl rfl ?_
    refine w_aload hZ 9 10 rfl rfl rfl ?_
    refine w_geti hZ 10 11 rfl rfl rfl rfl rfl ?_
    refine w_cge hZ 11 12 rfl rfl (fun c11 => ?_) (fun c11 => ?_)
    · refine w_const hZ 14 15 rfl rfl  ?_
      refine w_st6_5 hZ 15 16 rfl rfl rfl ?_
      refine w_iload hZ 16 17 rfl rfl rfl ?_
      refine w_tsw4 hZ 17 rfl (fun c17 => ?_) (fun c17 => ?_) (fun c17 => ?_) (fun c17 => ?_) (fun c17 => ?_)
      · refine w_const hZ 18 19 rfl rfl  ?_
        refine w_zret hZ 19 rfl (by omega) ?_
        exact ret_i hR (by (first | refine b2i_t ?_ | refine b2i_f ?_); simp only [kdOk]; omega)
      · refine w_iload hZ 20 21 rfl rfl rfl ?_
        refine w_ifne hZ 21 22 rfl rfl (fun c21 => ?_) (fun c21 => ?_)
        · refine w_const hZ 26 27 rfl rfl  ?_
          refine w_zret hZ 27 rfl (by omega) ?_
          exact ret_i hR (by (first | refine b2i_t ?_ | refine b2i_f ?_); simp only [kdOk]; omega)
        · refine w_iload hZ 22 23 rfl rfl rfl ?_
          refine w_ifne hZ 23 24 rfl rfl (fun c23 => ?_) (fun c23 => ?_)
          · refine w_const hZ 26 27 rfl rfl  ?_
            refine w_zret hZ 27 rfl (by omega) ?_
            exact ret_i hR (by (first | refine b2i_t ?_ | refine b2i_f ?_); simp only [kdOk]; omega)
          · refine w_const hZ 24 25 rfl rfl  ?_
            refine w_goto hZ 25 27 rfl ?_
            refine w_zret hZ 27 rfl (by omega) ?_
            exact ret_i hR (by (first | refine b2i_t ?_ | refine b2i_f ?_); simp only [kdOk]; omega)
      · refine w_iload hZ 28 29 rfl rfl rfl ?_
        refine w_ifne hZ 29 30 rfl rfl (fun c29 => ?_) (fun c29 => ?_)
        · refine w_const hZ 34 35 rfl rfl  ?_
          refine w_zret hZ 35 rfl (by omega) ?_
          exact ret_i hR (by (first | refine b2i_t ?_ | refine b2i_f ?_); simp only [kdOk]; omega)
        · refine w_iload hZ 30 31 rfl rfl rfl ?_
          refine w_ifeq hZ 31 32 rfl rfl (fun c31 => ?_) (fun c31 => ?_)
          · refine w_const hZ 34 35 rfl rfl  ?_
            refine w_zret hZ 35 rfl (by omega) ?_
            exact ret_i hR (by (first | refine b2i_t ?_ | refine b2i_f ?_); simp only [kdOk]; omega)
          · refine w_const hZ 32 33 rfl rfl  ?_
            refine w_goto hZ 33 35 rfl ?_
            refine w_zret hZ 35 rfl (by omega) ?_
            exact ret_i hR (by (first | refine b2i_t ?_ | refine b2i_f ?_); simp only [kdOk]; omega)
      · refine w_iload hZ 36 37 rfl rfl rfl ?_
        refine w_ifeq hZ 37 38 rfl rfl (fun c37 => ?_) (fun c37 => ?_)
        · refine w_const hZ 42 43 rfl rfl  ?_
          refine w_zret hZ 43 rfl (by omega) ?_
          exact ret_i hR (by (first | refine b2i_t ?_ | refine b2i_f ?_); simp only [kdOk]; omega)
        · refine w_iload hZ 38 39 rfl rfl rfl ?_
          refine w_ifne hZ 39 40 rfl rfl (fun c39 => ?_) (fun c39 => ?_)
          · refine w_const hZ 42 43 rfl rfl  ?_
            refine w_zret hZ 43 rfl (by omega) ?_
            exact ret_i hR (by (first | refine b2i_t ?_ | refine b2i_f ?_); simp only [kdOk]; omega)
          · refine w_const hZ 40 41 rfl rfl  ?_
            refine w_goto hZ 41 43 rfl ?_
            refine w_zret hZ 43 rfl (by omega) ?_
            exact ret_i hR (by (first | refine b2i_t ?_ | refine b2i_f ?_); simp only [kdOk]; omega)
      · refine w_iload hZ 44 45 rfl rfl rfl ?_
        refine w_ifeq hZ 45 46 rfl rfl (fun c45 => ?_) (fun c45 => ?_)
        · refine w_const hZ 50 51 rfl rfl  ?_
          refine w_zret hZ 51 rfl (by omega) ?_
          exact ret_i hR (by (first | refine b2i_t ?_ | refine b2i_f ?_); simp only [kdOk]; omega)
        · refine w_iload hZ 46 47 rfl rfl rfl ?_
          refine w_ifeq hZ 47 48 rfl rfl (fun c47 => ?_) (fun c47 => ?_)
          · refine w_const hZ 50 51 rfl rfl  ?_
            refine w_zret hZ 51 rfl (by omega) ?_
            exact ret_i hR (by (first | refine b2i_t ?_ | refine b2i_f ?_); simp only [kdOk]; omega)
          · refine w_const hZ 48 49 rfl rfl  ?_
            refine w_goto hZ 49 51 rfl ?_
            refine w_zret hZ 51 rfl (by omega) ?_
            exact ret_i hR (by (first | refine b2i_t ?_ | refine b2i_f ?_); simp only [kdOk]; omega)
    · refine w_const hZ 12 13 rfl rfl  ?_
      refine w_goto hZ 13 15 rfl ?_
      refine w_st6_5 hZ 15 16 rfl rfl rfl ?_
      refine w_iload hZ 16 17 rfl rfl rfl ?_
      refine w_tsw4 hZ 17 rfl (fun c17 => ?_) (fun c17 => ?_) (fun c17 => ?_) (fun c17 => ?_) (fun c17 => ?_)
      · refine w_const hZ 18 19 rfl rfl  ?_
        refine w_zret hZ 19 rfl (by omega) ?_
        exact ret_i hR (by (first | refine b2i_t ?_ | refine b2i_f ?_); simp only [kdOk]; omega)
      · refine w_iload hZ 20 21 rfl rfl rfl ?_
        refine w_ifne hZ 21 22 rfl rfl (fun c21 => ?_) (fun c21 => ?_)
        · refine w_const hZ 26 27 rfl rfl  ?_
          refine w_zret hZ 27 rfl (by omega) ?_
          exact ret_i hR (by (first | refine b2i_t ?_ | refine b2i_f ?_); simp only [kdOk]; omega)
        · refine w_iload hZ 22 23 rfl rfl rfl ?_
          refine w_ifne hZ 23 24 rfl rfl (fun c23 => ?_) (fun c23 => ?_)
          · refine w_const hZ 26 27 rfl rfl  ?_
            refine w_zret hZ 27 rfl (by omega) ?_
            exact ret_i hR (by (first | refine b2i_t ?_ | refine b2i_f ?_); simp only [kdOk]; omega)
          · refine w_const hZ 24 25 rfl rfl  ?_
            refine w_goto hZ 25 27 rfl ?_
            refine w_zret hZ 27 rfl (by omega) ?_
            exact ret_i hR (by (first | refine b2i_t ?_ | refine b2i_f ?_); simp only [kdOk]; omega)
      · refine w_iload hZ 28 29 rfl rfl rfl ?_
        refine w_ifne hZ 29 30 rfl rfl (fun c29 => ?_) (fun c29 => ?_)
        · refine w_const hZ 34 35 rfl rfl  ?_
          refine w_zret hZ 35 rfl (by omega) ?_
          exact ret_i hR (by (first | refine b2i_t ?_ | refine b2i_f ?_); simp only [kdOk]; omega)
        · refine w_iload hZ 30 31 rfl rfl rfl ?_
          refine w_ifeq hZ 31 32 rfl rfl (fun c31 => ?_) (fun c31 => ?_)
          · refine w_const hZ 34 35 rfl rfl  ?_
            refine w_zret hZ 35 rfl (by omega) ?_
            exact ret_i hR (by (first | refine b2i_t ?_ | refine b2i_f ?_); simp only [kdOk]; omega)
          · refine w_const hZ 32 33 rfl rfl  ?_
            refine w_goto hZ 33 35 rfl ?_
            refine w_zret hZ 35 rfl (by omega) ?_
            exact ret_i hR (by (first | refine b2i_t ?_ | refine b2i_f ?_); simp only [kdOk]; omega)
      · refine w_iload hZ 36 37 rfl rfl rfl ?_
        refine w_ifeq hZ 37 38 rfl rfl (fun c37 => ?_) (fun c37 => ?_)
        · refine w_const hZ 42 43 rfl rfl  ?_
          refine w_zret hZ 43 rfl (by omega) ?_
          exact ret_i hR (by (first | refine b2i_t ?_ | refine b2i_f ?_); simp only [kdOk]; omega)
        · refine w_iload hZ 38 39 rfl rfl rfl ?_
          refine w_ifne hZ 39 40 rfl rfl (fun c39 => ?_) (fun c39 => ?_)
          · refine w_const hZ 42 43 rfl rfl  ?_
            refine w_zret hZ 43 rfl (by omega) ?_
            exact ret_i hR (by (first | refine b2i_t ?_ | refine b2i_f ?_); simp only [kdOk]; omega)
          · refine w_const hZ 40 41 rfl rfl  ?_
            refine w_goto hZ 41 43 rfl ?_
            refine w_zret hZ 43 rfl (by omega) ?_
            exact ret_i hR (by (first | refine b2i_t ?_ | refine b2i_f ?_); simp only [kdOk]; omega)
      · refine w_iload hZ 44 45 rfl rfl rfl ?_
        refine w_ifeq hZ 45 46 rfl rfl (fun c45 => ?_) (fun c45 => ?_)
        · refine w_const hZ 50 51 rfl rfl  ?_
          refine w_zret hZ 51 rfl (by omega) ?_
          exact ret_i hR (by (first | refine b2i_t ?_ | refine b2i_f ?_); simp only [kdOk]; omega)
        · refine w_iload hZ 46 47 rfl rfl rfl ?_
          refine w_ifeq hZ 47 48 rfl rfl (fun c47 => ?_) (fun c47 => ?_)
          · refine w_const hZ 50 51 rfl rfl  ?_
            refine w_zret hZ 51 rfl (by omega) ?_
            exact ret_i hR (by (first | refine b2i_t ?_ | refine b2i_f ?_); simp only [kdOk]; omega)
          · refine w_const hZ 48 49 rfl rfl  ?_
            refine w_goto hZ 49 51 rfl ?_
            refine w_zret hZ 51 rfl (by omega) ?_
            exact ret_i hR (by (first | refine b2i_t ?_ | refine b2i_f ?_); simp only [kdOk]; omega)
  · refine w_const hZ 4 5 rfl rfl  ?_
    refine w_goto hZ 5 7 rfl ?_
    refine w_st6_4 hZ 7 8 rfl rfl rfl ?_
    refine w_iload hZ 8 9 rfl rfl rfl ?_
    refine w_aload hZ 9 10 rfl rfl rfl ?_
    refine w_geti hZ 10 11 rfl rfl rfl rfl rfl ?_
    refine w_cge hZ 11 12 rfl rfl (fun c11 => ?_) (fun c11 => ?_)
    · refine w_const hZ 14 15 rfl rfl  ?_
      refine w_st6_5 hZ 15 16 rfl rfl rfl ?_
      refine w_iload hZ 16 17 rfl rfl rfl ?_
      refine w_tsw4 hZ 17 rfl (fun c17 => ?_) (fun c17 => ?_) (fun c17 => ?_) (fun c17 => ?_) (fun c17 => ?_)
      · refine w_const hZ 18 19 rfl rfl  ?_
        refine w_zret hZ 19 rfl (by omega) ?_
        exact ret_i hR (by (first | refine b2i_t ?_ | refine b2i_f ?_); simp only [kdOk]; omega)
      · refine w_iload hZ 20 21 rfl rfl rfl ?_
        refine w_ifne hZ 21 22 rfl rfl (fun c21 => ?_) (fun c21 => ?_)
        · refine w_const hZ 26 27 rfl rfl  ?_
          refine w_zret hZ 27 rfl (by omega) ?_
          exact ret_i hR (by (first | refine b2i_t ?_ | refine b2i_f ?_); simp only [kdOk]; omega)
        · refine w_iload hZ 22 23 rfl rfl rfl ?_
          refine w_ifne hZ 23 24 rfl rfl (fun c23 => ?_) (fun c23 => ?_)
          · refine w_const hZ 26 27 rfl rfl  ?_
            refine w_zret hZ 27 rfl (by omega) ?_
            exact ret_i hR (by (first | refine b2i_t ?_ | refine b2i_f ?_); simp only [kdOk]; omega)
          · refine w_const hZ 24 25 rfl rfl  ?_
            refine w_goto hZ 25 27 rfl ?_
            refine w_zret hZ 27 rfl (by omega) ?_
            exact ret_i hR (by (first | refine b2i_t ?_ | refine b2i_f ?_); simp only [kdOk]; omega)
      · refine w_iload hZ 28 29 rfl rfl rfl ?_
        refine w_ifne hZ 29 30 rfl rfl (fun c29 => ?_) (fun c29 => ?_)
        · refine w_const hZ 34 35 rfl rfl  ?_
          refine w_zret hZ 35 rfl (by omega) ?_
          exact ret_i hR (by (first | refine b2i_t ?_ | refine b2i_f ?_); simp only [kdOk]; omega)
        · refine w_iload hZ 30 31 rfl rfl rfl ?_
          refine w_ifeq hZ 31 32 rfl rfl (fun c31 => ?_) (fun c31 => ?_)
          · refine w_const hZ 34 35 rfl rfl  ?_
            refine w_zret hZ 35 rfl (by omega) ?_
            exact ret_i hR (by (first | refine b2i_t ?_ | refine b2i_f ?_); simp only [kdOk]; omega)
          · refine w_const hZ 32 33 rfl rfl  ?_
            refine w_goto hZ 33 35 rfl ?_
            refine w_zret hZ 35 rfl (by omega) ?_
            exact ret_i hR (by (first | refine b2i_t ?_ | refine b2i_f ?_); simp only [kdOk]; omega)
      · refine w_iload hZ 36 37 rfl rfl rfl ?_
        refine w_ifeq hZ 37 38 rfl rfl (fun c37 => ?_) (fun c37 => ?_)
        · refine w_const hZ 42 43 rfl rfl  ?_
          refine w_zret hZ 43 rfl (by omega) ?_
          exact ret_i hR (by (first | refine b2i_t ?_ | refine b2i_f ?_); simp only [kdOk]; omega)
        · refine w_iload hZ 38 39 rfl rfl rfl ?_
          refine w_ifne hZ 39 40 rfl rfl (fun c39 => ?_) (fun c39 => ?_)
          · refine w_const hZ 42 43 rfl rfl  ?_
            refine w_zret hZ 43 rfl (by omega) ?_
            exact ret_i hR (by (first | refine b2i_t ?_ | refine b2i_f ?_); simp only [kdOk]; omega)
          · refine w_const hZ 40 41 rfl rfl  ?_
            refine w_goto hZ 41 43 rfl ?_
            refine w_zret hZ 43 rfl (by omega) ?_
            exact ret_i hR (by (first | refine b2i_t ?_ | refine b2i_f ?_); simp only [kdOk]; omega)
      · refine w_iload hZ 44 45 rfl rfl rfl ?_
        refine w_ifeq hZ 45 46 rfl rfl (fun c45 => ?_) (fun c45 => ?_)
        · refine w_const hZ 50 51 rfl rfl  ?_
          refine w_zret hZ 51 rfl (by omega) ?_
          exact ret_i hR (by (first | refine b2i_t ?_ | refine b2i_f ?_); simp only [kdOk]; omega)
        · refine w_iload hZ 46 47 rfl rfl rfl ?_
          refine w_ifeq hZ 47 48 rfl rfl (fun c47 => ?_) (fun c47 => ?_)
          · refine w_const hZ 50 51 rfl rfl  ?_
            refine w_zret hZ 51 rfl (by omega) ?_
            exact ret_i hR (by (first | refine b2i_t ?_ | refine b2i_f ?_); simp only [kdOk]; omega)
          · refine w_const hZ 48 49 rfl rfl  ?_
            refine w_goto hZ 49 51 rfl ?_
            refine w_zret hZ 51 rfl (by omega) ?_
            exact ret_i hR (by (first | refine b2i_t ?_ | refine b2i_f ?_); simp only [kdOk]; omega)
    · refine w_const hZ 12 13 rfl rfl  ?_
      refine w_goto hZ 13 15 rfl ?_
      refine w_st6_5 hZ 15 16 rfl rfl rfl ?_
      refine w_iload hZ 16 17 rfl rfl rfl ?_
      refine w_tsw4 hZ 17 rfl (fun c17 => ?_) (fun c17 => ?_) (fun c17 => ?_) (fun c17 => ?_) (fun c17 => ?_)
      · refine w_const hZ 18 19 rfl rfl  ?_
        refine w_zret hZ 19 rfl (by omega) ?_
        exact ret_i hR (by (first | refine b2i_t ?_ | refine b2i_f ?_); simp only [kdOk]; omega)
      · refine w_iload hZ 20 21 rfl rfl rfl ?_
        refine w_ifne hZ 21 22 rfl rfl (fun c21 => ?_) (fun c21 => ?_)
        · refine w_const hZ 26 27 rfl rfl  ?_
          refine w_zret hZ 27 rfl (by omega) ?_
          exact ret_i hR (by (first | refine b2i_t ?_ | refine b2i_f ?_); simp only [kdOk]; omega)
        · refine w_iload hZ 22 23 rfl rfl rfl ?_
          refine w_ifne hZ 23 24 rfl rfl (fun c23 => ?_) (fun c23 => ?_)
          · refine w_const hZ 26 27 rfl rfl  ?_
            refine w_zret hZ 27 rfl (by omega) ?_
            exact ret_i hR (by (first | refine b2i_t ?_ | refine b2i_f ?_); simp only [kdOk]; omega)
          · refine w_const hZ 24 25 rfl rfl  ?_
            refine w_goto hZ 25 27 rfl ?_
            refine w_zret hZ 27 rfl (by omega) ?_
            exact ret_i hR (by (first | refine b2i_t ?_ | refine b2i_f ?_); simp only [kdOk]; omega)
      · refine w_iload hZ 28 29 rfl rfl rfl ?_
        refine w_ifne hZ 29 30 rfl rfl (fun c29 => ?_) (fun c29 => ?_)
        · refine w_const hZ 34 35 rfl rfl  ?_
          refine w_zret hZ 35 rfl (by omega) ?_
          exact ret_i hR (by (first | refine b2i_t ?_ | refine b2i_f ?_); simp only [kdOk]; omega)
        · refine w_iload hZ 30 31 rfl rfl rfl ?_
          refine w_ifeq hZ 31 32 rfl rfl (fun c31 => ?_) (fun c31 => ?_)
          · refine w_const hZ 34 35 rfl rfl  ?_
            refine w_zret hZ 35 rfl (by omega) ?_
            exact ret_i hR (by (first | refine b2i_t ?_ | refine b2i_f ?_); simp only [kdOk]; omega)
          · refine w_const hZ 32 33 rfl rfl  ?_
            refine w_goto hZ 33 35 rfl ?_
            refine w_zret hZ 35 rfl (by omega) ?_
            exact ret_i hR (by (first | refine b2i_t ?_ | refine b2i_f ?_); simp only [kdOk]; omega)
      · refine w_iload hZ 36 37 rfl rfl rfl ?_
        refine w_ifeq hZ 37 38 rfl rfl (fun c37 => ?_) (fun c37 => ?_)
        · refine w_const hZ 42 43 rfl rfl  ?_
          refine w_zret hZ 43 rfl (by omega) ?_
          exact ret_i hR (by (first | refine b2i_t ?_ | refine b2i_f ?_); simp only [kdOk]; omega)
        · refine w_iload hZ 38 39 rfl rfl rfl ?_
          refine w_ifne hZ 39 40 rfl rfl (fun c39 => ?_) (fun c39 => ?_)
          · refine w_const hZ 42 43 rfl rfl  ?_
            refine w_zret hZ 43 rfl (by omega) ?_
            exact ret_i hR (by (first | refine b2i_t ?_ | refine b2i_f ?_); simp only [kdOk]; omega)
          · refine w_const hZ 40 41 rfl rfl  ?_
            refine w_goto hZ 41 43 rfl ?_
            refine w_zret hZ 43 rfl (by omega) ?_
            exact ret_i hR (by (first | refine b2i_t ?_ | refine b2i_f ?_); simp only [kdOk]; omega)
      · refine w_iload hZ 44 45 rfl rfl rfl ?_
        refine w_ifeq hZ 45 46 rfl rfl (fun c45 => ?_) (fun c45 => ?_)
        · refine w_const hZ 50 51 rfl rfl  ?_
          refine w_zret hZ 51 rfl (by omega) ?_
          exact ret_i hR (by (first | refine b2i_t ?_ | refine b2i_f ?_); simp only [kdOk]; omega)
        · refine w_iload hZ 46 47 rfl rfl rfl ?_
          refine w_ifeq hZ 47 48 rfl rfl (fun c47 => ?_) (fun c47 => ?_)
          · refine w_const hZ 50 51 rfl rfl  ?_
            refine w_zret hZ 51 rfl (by omega) ?_
            exact ret_i hR (by (first | refine b2i_t ?_ | refine b2i_f ?_); simp only [kdOk]; omega)
          · refine w_const hZ 48 49 rfl rfl  ?_
            refine w_goto hZ 49 51 rfl ?_
            refine w_zret hZ 51 rfl (by omega) ?_
            exact ret_i hR (by (first | refine b2i_t ?_ | refine b2i_f ?_); simp only [kdOk]; omega)
set_option maxRecDepth 100000 in
set_option maxHeartbeats 4000000 in
theorem ao_X5_mayStand : AllOk yX5_mayStand.cls cX5_mayStand 6 0 0 (some .boolean) none pc_X5_mayStand 0 cd_X5_mayStand := ⟨s_iload_n (k := 2) (by decide +kernel) rfl rfl, ⟨s_aload_n (k := 0) (by decide +kernel) rfl rfl, ⟨s_get (C := RX5) (T := TX5) (N := 12) rfl inT5 (by decide) tw_1_99 (by decide +kernel) rfl, ⟨s_cle (off := (7)) (by decide +kernel) rfl rfl, ⟨s_iconst (by decide +kernel) rfl ⟨by decide, by decide⟩, ⟨s_goto (off := (4)) (by decide +kernel) rfl, ⟨s_iconst (by decide +kernel) rfl ⟨by decide, by decide⟩, ⟨s_istore (by decide +kernel) rfl, ⟨s_iload_n (k := 3) (by decide +kernel) rfl rfl, ⟨s_aload_n (k := 0) (by decide +kernel) rfl rfl, ⟨s_get (C := RX5) (T := TX5) (N := 12) rfl inT5 (by decide) tw_1_100 (by decide +kernel) rfl, ⟨s_cge (off := (7)) (by decide +kernel) rfl rfl, ⟨s_iconst (by decide +kernel) rfl ⟨by decide, by decide⟩, ⟨s_goto (off := (4)) (by decide +kernel) rfl, ⟨s_iconst (by decide +kernel) rfl ⟨by decide, by decide⟩, ⟨s_istore (by decide +kernel) rfl, ⟨s_iload_n (k := 1) (by decide +kernel) rfl rfl, ⟨s_tsw (dfl := 79) (hi0 := 3) (offs := #[29, 31, 47, 63]) (len := 29) (by decide +kernel) rfl rfl rfl, ⟨s_iconst (by decide +kernel) rfl ⟨by decide, by decide⟩, ⟨s_zret rfl (by decide +kernel), ⟨s_iload (by decide +kernel) rfl, ⟨s_ifne (off := (12)) (by decide +kernel) rfl rfl, ⟨s_iload (by decide +kernel) rfl, ⟨s_ifne (off := (7)) (by decide +kernel) rfl rfl, ⟨s_iconst (by decide +kernel) rfl ⟨by decide, by decide⟩, ⟨s_goto (off := (4)) (by decide +kernel) rfl, ⟨s_iconst (by decide +kernel) rfl ⟨by decide, by decide⟩, ⟨s_zret rfl (by decide +kernel), ⟨s_iload (by decide +kernel) rfl, ⟨s_ifne (off := (12)) (by decide +kernel) rfl rfl, ⟨s_iload (by decide +kernel) rfl, ⟨s_ifeq (off := (7)) (by decide +kernel) rfl rfl, ⟨s_iconst (by decide +kernel) rfl ⟨by decide, by decide⟩, ⟨s_goto (off := (4)) (by decide +kernel) rfl, ⟨s_iconst (by decide +kernel) rfl ⟨by decide, by decide⟩, ⟨s_zret rfl (by decide +kernel), ⟨s_iload (by decide +kernel) rfl, ⟨s_ifeq (off := (12)) (by decide +kernel) rfl rfl, ⟨s_iload (by decide +kernel) rfl, ⟨s_ifne (off := (7)) (by decide +kernel) rfl rfl, ⟨s_iconst (by decide +kernel) rfl ⟨by decide, by decide⟩, ⟨s_goto (off := (4)) (by decide +kernel) rfl, ⟨s_iconst (by decide +kernel) rfl ⟨by decide, by decide⟩, ⟨s_zret rfl (by decide +kernel), ⟨s_iload (by decide +kernel) rfl, ⟨s_ifeq (off := (12)) (by decide +kernel) rfl rfl, ⟨s_iload (by decide +kernel) rfl, ⟨s_ifeq (off := (7)) (by decide +kernel) rfl rfl, ⟨s_iconst (by decide +kernel) rfl ⟨by decide, by decide⟩, ⟨s_goto (off := (4)) (by decide +kernel) rfl, ⟨s_iconst (by decide +kernel) rfl ⟨by decide, by decide⟩, ⟨s_zret rfl (by decide +kernel), trivial⟩⟩⟩⟩⟩⟩⟩⟩⟩⟩⟩⟩⟩⟩⟩⟩⟩⟩⟩⟩⟩⟩⟩⟩⟩⟩⟩⟩⟩⟩⟩⟩⟩⟩⟩⟩⟩⟩⟩⟩⟩⟩⟩⟩⟩⟩⟩⟩⟩⟩⟩⟩
theorem ct_X5_mayStand : Ctr yX5_mayStand cX5_mayStand 6 (some .boolean) 0 0 sp_X5_mayStand := by
  refine ctr_of (by decide +kernel) ao_X5_mayStand rfl ?_
  rintro av M Ret ⟨kd, fr, to, rfl, hp, hR⟩ hok hM
  exact ⟨Nat.le_of_ble_eq_true rfl, fun Z hZ => b_X5_mayStand  kd (hok _ (List.mem_of_getElem? (i := 1) rfl)) fr (hok _ (List.mem_of_getElem? (i := 2) rfl)) to (hok _ (List.mem_of_getElem? (i := 3) rfl)) M Ret hp hR hM Z hZ⟩
def sp_X5_ruleAt : SP := fun av M Ret => ∃ i : Int, ∃ L : Int, av = [mr 10, mi i, mi L] ∧ (vOk (bX M 1) ∧ En M ∧ M 10 7 ≤ i ∧ i < M 10 8 ∧ 2 ≤ L ∧ L ≤ 4) ∧ (Ret (some (mi (rA (bX M 1) (M 10 5) (M 10 7) (M 10 8) (gM M) i L))) M)
theorem k_X5_ruleAt {code : List Sem} {Z : KZ} {Ret : KR} {ls : List (Option MV)} {M : Mem} {r : List MV} (hZ : Sim code Z Ret) (ip np : Nat) {i L : Int} (hc : code[ip]? = some (I_callV 5 2 sp_X5_ruleAt)) (hn : ip + 1 = np) (h3 : catS r ≤ 8)  (hp : vOk (bX M 1) ∧ En M ∧ M 10 7 ≤ i ∧ i < M 10 8 ∧ 2 ≤ L ∧ L ≤ 4) (kz : Z np ls (mi (rA (bX M 1) (M 10 5) (M 10 7) (M 10 8) (gM M) i L) :: r) M) : Z ip ls (mi L :: mi i :: mr 10 :: r) M := w_callV2 hZ ip np hc hn rfl rfl h3 ⟨_, _, rfl, hp, kz⟩
def cd_X5_ruleAt : List Sem := [I_iload 1, I_iload 2, I_add, I_aload 0, I_get 5 8, I_cle 8, I_const (-1), I_iret, I_const (0), I_istore 3, I_iload 1, I_istore 4, I_iload 4, I_iload 1, I_iload 2, I_add, I_cge 35, I_aload 0, I_get 5 10, I_iload 4, I_iald, I_ifne 24, I_const (-1), I_iret, I_iload 3, I_const (27), I_mul, I_aload 0, I_get 5 10, I_iload 4, I_iald, I_add, I_istore 3, I_iinc 4 (1), I_goto 12, I_aload 0, I_get 5 3, I_iload 3, I_callV 0 1 sp_X0_ruleOfCode, I_istore 4, I_iload 4, I_const (-1), I_ceq 61, I_iload 4, I_aload 0, I_get 5 5, I_ceq 61, I_aload 0, I_aload 0, I_get 5 3, I_get 0 2, I_iload 4, I_iald, I_iload 1, I_iload 1, I_iload 2, I_add, I_callV 5 3 sp_X5_mayStand, I_ifeq 61, I_const (1), I_goto 62, I_const (0), I_istore 5, I_iload 5, I_ifeq 67, I_iload 4, I_goto 68, I_const (-1), I_iret]
def pc_X5_ruleAt : List Nat := [0, 1, 2, 3, 4, 7, 10, 11, 12, 13, 14, 15, 17, 19, 20, 21, 22, 25, 26, 29, 31, 32, 35, 36, 37, 38, 40, 41, 42, 45, 47, 48, 49, 50, 53, 56, 57, 60, 61, 64, 66, 68, 69, 72, 74, 75, 78, 81, 82, 83, 86, 89, 91, 92, 93, 94, 95, 96, 99, 102, 103, 106, 107, 109, 111, 114, 116, 119, 120]
set_option maxRecDepth 100000 in
set_option maxHeartbeats 4000000 in
theorem b_X5_ruleAt (i : Int) (i_i : InR i) (L : Int) (i_L : InR L) (M : Mem) (Ret : KR) (hp : vOk (bX M 1) ∧ En M ∧ M 10 7 ≤ i ∧ i < M 10 8 ∧ 2 ≤ L ∧ L ≤ 4) (hR : Ret (some (mi (rA (bX M 1) (M 10 5) (M 10 7) (M 10 8) (gM M) i L))) M) (hM : MOk M) (Z : KZ) (hZ : Sim cd_X5_ruleAt Z Ret) : Z 0 [some (mr 10), some (mi i), some (mi L), none, none, none] [] M := by
  obtain ⟨hv, he, hi0, hi1, hL2, hL4⟩ := hp
  have hb := hv.bx
  have hbb := hb
  obtain ⟨b1, b2, b3, b4⟩ := hbb
  have hee := he
  obtain ⟨e1, e2, e3, e4⟩ := hee
  have tail : i + L ≤ M 10 8 → ∀ c : Int, cdF (smV (bX M 1) (gM M)) L.toNat i 0 = c → 0 ≤ c → Z 35 [some (mr 10), some (mi i), some (mi L), some (mi c), none, none] [] M := by
    intro hle c hc hc0
    have hk := fIx_is (M 2) c b1
    have hfe : fIx (vC' (bX M 1)) c (vR (bX M 1)) = fIx (M 2) c (M 1 4) := fIx_cut (M 2) c b1
    have key : Hid (rA (bX M 1) (M 10 5) (M 10 7) (M 10 8) (gM M) i L = if fIx (M 2) c (M 1 4) = -1 ∨ fIx (M 2) c (M 1 4) = M 10 5 ∨ ¬ kdOk (vK (bX M 1) (fIx (M 2) c (M 1 4)).toNat) i (i + L) (M 10 7) (M 10 8) then -1 else fIx (M 2) c (M 1 4)) := by
      unfold rA Hid
      rw [if_neg (by omega), hc, if_neg (by omega), hfe]
    generalize hkx : fIx (M 2) c (M 1 4) = kx at hk key
    have hkr : kx = -1 ∨ (0 ≤ kx ∧ kx < M 1 4) := by
      rcases hk with ⟨q, -⟩ | ⟨q1, q2, -⟩
      · exact Or.inl q
      · exact Or.inr ⟨q1, q2⟩
    have hK : 0 ≤ kx → vK (bX M 1) kx.toNat = M 4 kx.toNat := fun h => cut_in (by omega)
    have k1 : (kx = -1 ∨ kx = M 10 5 ∨ (0 ≤ kx ∧ ¬ kdOk (M 4 kx.toNat) i (i + L) (M 10 7) (M 10 8))) → Hid (rA (bX M 1) (M 10 5) (M 10 7) (M 10 8) (gM M) i L = -1) := by
      intro q
      unfold Hid
      rw [key.u, if_pos]
      rcases q with q | q | ⟨q1, q2⟩
      · exact Or.inl q
      · exact Or.inr (Or.inl q)
      · rw [hK q1]; exact Or.inr (Or.inr q2)
    have k2 : ¬ kx = -1 → ¬ kx = M 10 5 → kdOk (M 4 kx.toNat) i (i + L) (M 10 7) (M 10 8) → Hid (rA (bX M 1) (M 10 5) (M 10 7) (M 10 8) (gM M) i L = kx) := by
      intro q1 q2 q3
      unfold Hid
      have h0 : 0 ≤ kx := by
        rcases hkr with q | q
        · exact absurd q q1
        · exact q.1
      rw [key.u, if_neg]
      rw [hK h0]
      rintro (q | q | q)
      · exact q1 q
      · exact q2 q
      · exact q q3
    clear hk
    refine w_aload hZ 35 36 rfl rfl rfl ?_
    refine w_getr hZ 36 37 rfl rfl rfl rfl rfl ?_
    refine w_iload hZ 37 38 rfl rfl rfl ?_
    refine k_X0_ruleOfCode hZ 38 39 rfl rfl (Nat.le_of_ble_eq_true rfl) hb ?_
    rw [hkx]
    refine w_st6_4 hZ 39 40 rfl rfl rfl ?_
    refine w_iload hZ 40 41 rfl rfl rfl ?_
    refine w_const hZ 41 42 rfl rfl  ?_
    refine w_ceq hZ 42 43 rfl rfl (fun c42 => ?_) (fun c42 => ?_)
    · refine w_const hZ 61 62 rfl rfl  ?_
      refine w_st6_5 hZ 62 63 rfl rfl rfl ?_
      refine w_iload hZ 63 64 rfl rfl rfl ?_
      refine w_ifeq hZ 64 65 rfl rfl (fun c64 => ?_) (fun c64 => ?_)
      · refine w_const hZ 67 68 rfl rfl  ?_
        refine w_iret hZ 68 rfl ?_
        first
          | exact ret_i hR (k1 (Or.inl c42))
          | exact ret_i hR (k1 (Or.inr (Or.inl c46)))
          | exact ret_i hR (k1 (Or.inr (Or.inr ⟨h0x, b2i_z.mp c58⟩)))
          | exact ret_i hR (k2 c42 c46 (b2i_e.mp c58))
          | exact absurd c64 (by decide)
      · refine w_iload hZ 65 66 rfl rfl rfl ?_
        refine w_goto hZ 66 68 rfl ?_
        refine w_iret hZ 68 rfl ?_
        first
          | exact ret_i hR (k1 (Or.inl c42))
          | exact ret_i hR (k1 (Or.inr (Or.inl c46)))
          | exact ret_i hR (k1 (Or.inr (Or.inr ⟨h0x, b2i_z.mp c58⟩)))
          | exact ret_i hR (k2 c42 c46 (b2i_e.mp c58))
          | exact absurd c64 (by decide)
    · have h0x : 0 ≤ kx := by omega
      refine w_iload hZ 43 44 rfl rfl rfl ?_
      refine w_aload hZ 44 45 rfl rfl rfl ?_
      refine w_geti hZ 45 46 rfl rfl rfl rfl rfl ?_
      refine w_ceq hZ 46 47 rfl rfl (fun c46 => ?_) (fun c46 => ?_)
      · refine w_const hZ 61 62 rfl rfl  ?_
        refine w_st6_5 hZ 62 63 rfl rfl rfl ?_
        refine w_iload hZ 63 64 rfl rfl rfl ?_
        refine w_ifeq hZ 64 65 rfl rfl (fun c64 => ?_) (fun c64 => ?_)
        · refine w_const hZ 67 68 rfl rfl  ?_
          refine w_iret hZ 68 rfl ?_
          first
            | exact ret_i hR (k1 (Or.inl c42))
            | exact ret_i hR (k1 (Or.inr (Or.inl c46)))
            | exact ret_i hR (k1 (Or.inr (Or.inr ⟨h0x, b2i_z.mp c58⟩)))
            | exact ret_i hR (k2 c42 c46 (b2i_e.mp c58))
            | exact absurd c64 (by decide)
        · refine w_iload hZ 65 66 rfl rfl rfl ?_
          refine w_goto hZ 66 68 rfl ?_
          refine w_iret hZ 68 rfl ?_
          first
            | exact ret_i hR (k1 (Or.inl c42))
            | exact ret_i hR (k1 (Or.inr (Or.inl c46)))
            | exact ret_i hR (k1 (Or.inr (Or.inr ⟨h0x, b2i_z.mp c58⟩)))
            | exact ret_i hR (k2 c42 c46 (b2i_e.mp c58))
            | exact absurd c64 (by decide)
      · refine w_aload hZ 47 48 rfl rfl rfl ?_
        refine w_aload hZ 48 49 rfl rfl rfl ?_
        refine w_getr hZ 49 50 rfl rfl rfl rfl rfl ?_
        refine w_getr hZ 50 51 rfl rfl rfl rfl rfl ?_
        refine w_iload hZ 51 52 rfl rfl rfl ?_
        refine w_iald hZ 52 53 rfl rfl rfl (by omega) (by omega) ?_
        refine w_iload hZ 53 54 rfl rfl rfl ?_
        refine w_iload hZ 54 55 rfl rfl rfl ?_
        refine w_iload hZ 55 56 rfl rfl rfl ?_
        refine w_add hZ 56 57 rfl rfl (by unfold InR; omega) ?_
        refine k_X5_mayStand hZ 57 58 rfl rfl (Nat.le_of_ble_eq_true rfl) ⟨hi0, hle⟩ ?_
        refine w_ifeq hZ 58 59 rfl rfl (fun c58 => ?_) (fun c58 => ?_)
        · refine w_const hZ 61 62 rfl rfl  ?_
          refine w_st6_5 hZ 62 63 rfl rfl rfl ?_
          refine w_iload hZ 63 64 rfl rfl rfl ?_
          refine w_ifeq hZ 64 65 rfl rfl (fun c64 => ?_) (fun c64 => ?_)
          · refine w_const hZ 67 68 rfl rfl  ?_
            refine w_iret hZ 68 rfl ?_
            first
              | exact ret_i hR (k1 (Or.inl c42))
              | exact ret_i hR (k1 (Or.inr (Or.inl c46)))
              | exact ret_i hR (k1 (Or.inr (Or.inr ⟨h0x, b2i_z.mp c58⟩)))
              | exact ret_i hR (k2 c42 c46 (b2i_e.mp c58))
              | exact absurd c64 (by decide)
          · refine w_iload hZ 65 66 rfl rfl rfl ?_
            refine w_goto hZ 66 68 rfl ?_
            refine w_iret hZ 68 rfl ?_
            first
              | exact ret_i hR (k1 (Or.inl c42))
              | exact ret_i hR (k1 (Or.inr (Or.inl c46)))
              | exact ret_i hR (k1 (Or.inr (Or.inr ⟨h0x, b2i_z.mp c58⟩)))
              | exact ret_i hR (k2 c42 c46 (b2i_e.mp c58))
              | exact absurd c64 (by decide)
        · refine w_const hZ 59 60 rfl rfl  ?_
          refine w_goto hZ 60 62 rfl ?_
          refine w_st6_5 hZ 62 63 rfl rfl rfl ?_
          refine w_iload hZ 63 64 rfl rfl rfl ?_
          refine w_ifeq hZ 64 65 rfl rfl (fun c64 => ?_) (fun c64 => ?_)
          · refine w_const hZ 67 68 rfl rfl  ?_
            refine w_iret hZ 68 rfl ?_
            first
              | exact ret_i hR (k1 (Or.inl c42))
              | exact ret_i hR (k1 (Or.inr (Or.inl c46)))
              | exact ret_i hR (k1 (Or.inr (Or.inr ⟨h0x, b2i_z.mp c58⟩)))
              | exact ret_i hR (k2 c42 c46 (b2i_e.mp c58))
              | exact absurd c64 (by decide)
          · refine w_iload hZ 65 66 rfl rfl rfl ?_
            refine w_goto hZ 66 68 rfl ?_
            refine w_iret hZ 68 rfl ?_
            first
              | exact ret_i hR (k1 (Or.inl c42))
              | exact ret_i hR (k1 (Or.inr (Or.inl c46)))
              | exact ret_i hR (k1 (Or.inr (Or.inr ⟨h0x, b2i_z.mp c58⟩)))
              | exact ret_i hR (k2 c42 c46 (b2i_e.mp c58))
              | exact absurd c64 (by decide)
  have loop : i + L ≤ M 10 8 → ∀ (d : Nat) (j c : Int), d = (i + L - j).toNat → (i ≤ j ∧ 0 ≤ c ∧ c < q27 (j - i)) → j ≤ i + L → cdF (smV (bX M 1) (gM M)) L.toNat i 0 = cdF (smV (bX M 1) (gM M)) (i + L - j).toNat j c → Z 12 [some (mr 10), some (mi i), some (mi L), some (mi c), some (mi j), none] [] M := by
    intro hle d
    induction d using Nat.strongRecOn with
    | ind d ih =>
      intro j c hd hB hj hc
      refine w_iload hZ 12 13 rfl rfl rfl ?_
      refine w_iload hZ 13 14 rfl rfl rfl ?_
      refine w_iload hZ 14 15 rfl rfl rfl ?_
      refine w_add hZ 15 16 rfl rfl (by unfold InR; omega) ?_
      refine w_cge hZ 16 17 rfl rfl (fun c16 => ?_) (fun c16 => ?_)
      · refine w_fg6_4 hZ ?_
        refine tail hle c ?_ (by omega)
        rw [hc, show (i + L - j).toNat = 0 by omega]
        rfl
      · have hq1 := q27_step (j := j - i) (by omega) (by omega)
        have hq2 := q27_le (j := j - i) (by omega)
        rw [show j - i + 1 = j + 1 - i by omega] at hq1
        have hsm := smV_rng (bX M 1) (gM M) (e4 j (by omega) (by omega)).1
        have hstep : cdF (smV (bX M 1) (gM M)) (i + L - j).toNat j c = if smV (bX M 1) (gM M) j = 0 then -1 else cdF (smV (bX M 1) (gM M)) (i + L - (j + 1)).toNat (j + 1) (c * 27 + smV (bX M 1) (gM M) j) := by
          rw [show (i + L - j).toNat = (i + L - (j + 1)).toNat + 1 by omega]
          rfl
        refine w_aload hZ 17 18 rfl rfl rfl ?_
        refine w_getr hZ 18 19 rfl rfl rfl rfl rfl ?_
        refine w_iload hZ 19 20 rfl rfl rfl ?_
        refine w_ialdv hZ 20 21 rfl rfl rfl (by omega) (by omega) (v := smV (bX M 1) (gM M) j) (e4 j (by omega) (by omega)).2 ?_
        refine w_ifne hZ 21 22 rfl rfl (fun c21 => ?_) (fun c21 => ?_)
        · refine w_iload hZ 24 25 rfl rfl rfl ?_
          refine w_const hZ 25 26 rfl rfl  ?_
          refine w_mul hZ 26 27 rfl rfl (by unfold InR; omega) ?_
          refine w_aload hZ 27 28 rfl rfl rfl ?_
          refine w_getr hZ 28 29 rfl rfl rfl rfl rfl ?_
          refine w_iload hZ 29 30 rfl rfl rfl ?_
          refine w_ialdv hZ 30 31 rfl rfl rfl (by omega) (by omega) (v := smV (bX M 1) (gM M) j) (e4 j (by omega) (by omega)).2 ?_
          refine w_add hZ 31 32 rfl rfl (by unfold InR; omega) ?_
          refine w_st6_3 hZ 32 33 rfl rfl rfl ?_
          refine w_in6_4 hZ 33 34 rfl rfl rfl (by unfold InR; omega) ?_
          refine w_goto hZ 34 12 rfl ?_
          refine ih ((i + L - (j + 1)).toNat) (by omega) (j + 1) (c * 27 + smV (bX M 1) (gM M) j) rfl (by omega) (by omega) ?_
          rw [hc, hstep, if_neg c21]
        · refine w_const hZ 22 23 rfl rfl  ?_
          refine w_iret hZ 23 rfl ?_
          exact ret_i hR (by unfold rA; rw [if_neg (by omega), hc, hstep, if_pos c21, if_pos rfl])
  refine w_iload hZ 0 1 rfl rfl rfl ?_
  refine w_iload hZ 1 2 rfl rfl rfl ?_
  refine w_add hZ 2 3 rfl rfl (by unfold InR; omega) ?_
  refine w_aload hZ 3 4 rfl rfl rfl ?_
  refine w_geti hZ 4 5 rfl rfl rfl rfl rfl ?_
  refine w_cle hZ 5 6 rfl rfl (fun c5 => ?_) (fun c5 => ?_)
  · refine w_const hZ 8 9 rfl rfl  ?_
    refine w_st6_3 hZ 9 10 rfl rfl rfl ?_
    refine w_iload hZ 10 11 rfl rfl rfl ?_
    refine w_st6_4 hZ 11 12 rfl rfl rfl ?_
    exact loop c5 _ i 0 rfl ⟨Int.le_refl _, Int.le_refl _, by rw [Int.sub_self]; decide⟩ (by omega) (by congr 1; omega)
  · refine w_const hZ 6 7 rfl rfl  ?_
    refine w_iret hZ 7 rfl ?_
    exact ret_i hR (by unfold rA; rw [if_pos c5])
set_option maxRecDepth 100000 in
set_option maxHeartbeats 4000000 in
theorem ao_X5_ruleAt : AllOk yX5_ruleAt.cls cX5_ruleAt 6 1 25 (some .int) none pc_X5_ruleAt 0 cd_X5_ruleAt := ⟨s_iload_n (k := 1) (by decide +kernel) rfl rfl, ⟨s_iload_n (k := 2) (by decide +kernel) rfl rfl, ⟨s_add (by decide +kernel) rfl, ⟨s_aload_n (k := 0) (by decide +kernel) rfl rfl, ⟨s_get (C := RX5) (T := TX5) (N := 12) rfl inT5 (by decide) tw_1_100 (by decide +kernel) rfl, ⟨s_cle (off := (5)) (by decide +kernel) rfl rfl, ⟨s_iconst (by decide +kernel) rfl ⟨by decide, by decide⟩, ⟨s_iret rfl (by decide +kernel), ⟨s_iconst (by decide +kernel) rfl ⟨by decide, by decide⟩, ⟨s_istore_n (k := 3) (by decide +kernel) rfl rfl, ⟨s_iload_n (k := 1) (by decide +kernel) rfl rfl, ⟨s_istore (by decide +kernel) rfl, ⟨s_iload (by decide +kernel) rfl, ⟨s_iload_n (k := 1) (by decide +kernel) rfl rfl, ⟨s_iload_n (k := 2) (by decide +kernel) rfl rfl, ⟨s_add (by decide +kernel) rfl, ⟨s_cge (off := (34)) (by decide +kernel) rfl rfl, ⟨s_aload_n (k := 0) (by decide +kernel) rfl rfl, ⟨s_get (C := RX5) (T := TX5) (N := 12) rfl inT5 (by decide) tw_1_102 (by decide +kernel) rfl, ⟨s_iload (by decide +kernel) rfl, ⟨s_iald (by decide +kernel) rfl, ⟨s_ifne (off := (5)) (by decide +kernel) rfl rfl, ⟨s_iconst (by decide +kernel) rfl ⟨by decide, by decide⟩, ⟨s_iret rfl (by decide +kernel), ⟨s_iload_n (k := 3) (by decide +kernel) rfl rfl, ⟨s_bipush (by decide +kernel) rfl ⟨by decide, by decide⟩ (by decide +kernel), ⟨s_mul (by decide +kernel) rfl, ⟨s_aload_n (k := 0) (by decide +kernel) rfl rfl, ⟨s_get (C := RX5) (T := TX5) (N := 12) rfl inT5 (by decide) tw_1_102 (by decide +kernel) rfl, ⟨s_iload (by decide +kernel) rfl, ⟨s_iald (by decide +kernel) rfl, ⟨s_add (by decide +kernel) rfl, ⟨s_istore_n (k := 3) (by decide +kernel) rfl rfl, ⟨s_iinc (by decide +kernel) rfl, ⟨s_goto (off := (-36)) (by decide +kernel) rfl, ⟨s_aload_n (k := 0) (by decide +kernel) rfl rfl, ⟨s_get (C := RX5) (T := TX5) (N := 12) rfl inT5 (by decide) tw_1_95 (by decide +kernel) rfl, ⟨s_iload_n (k := 3) (by decide +kernel) rfl rfl, ⟨s_callV (C := RX0) (T := TX0) (N := 8) rfl ct_X0_ruleOfCode (by decide) (by decide) ⟨rfl, by decide +kernel, by decide +kernel, by decide +kernel⟩ tw_2_183 tw_2_8 tw_2_9 tw_1_2 tw_2_10 (by decide +kernel) rfl, ⟨s_istore (by decide +kernel) rfl, ⟨s_iload (by decide +kernel) rfl, ⟨s_iconst (by decide +kernel) rfl ⟨by decide, by decide⟩, ⟨s_ceq (off := (37)) (by decide +kernel) rfl rfl, ⟨s_iload (by decide +kernel) rfl, ⟨s_aload_n (k := 0) (by decide +kernel) rfl rfl, ⟨s_get (C := RX5) (T := TX5) (N := 12) rfl inT5 (by decide) tw_1_97 (by decide +kernel) rfl, ⟨s_ceq (off := (28)) (by decide +kernel) rfl rfl, ⟨s_aload_n (k := 0) (by decide +kernel) rfl rfl, ⟨s_aload_n (k := 0) (by decide +kernel) rfl rfl, ⟨s_get (C := RX5) (T := TX5) (N := 12) rfl inT5 (by decide) tw_1_95 (by decide +kernel) rfl, ⟨s_get (C := RX0) (T := TX0) (N := 8) rfl inT0 (by decide) tw_1_34 (by decide +kernel) rfl, ⟨s_iload (by decide +kernel) rfl, ⟨s_iald (by decide +kernel) rfl, ⟨s_iload_n (k := 1) (by decide +kernel) rfl rfl, ⟨s_iload_n (k := 1) (by decide +kernel) rfl rfl, ⟨s_iload_n (k := 2) (by decide +kernel) rfl rfl, ⟨s_add (by decide +kernel) rfl, ⟨s_callV (C := RX5) (T := TX5) (N := 12) rfl ct_X5_mayStand (by decide) (by decide) ⟨rfl, by decide +kernel, by decide +kernel, by decide +kernel⟩ tw_2_184 tw_2_186 ts_1_10 tw_1_4 tw_2_187 (by decide +kernel) rfl, ⟨s_ifeq (off := (7)) (by decide +kernel) rfl rfl, ⟨s_iconst (by decide +kernel) rfl ⟨by decide, by decide⟩, ⟨s_goto (off := (4)) (by decide +kernel) rfl, ⟨s_iconst (by decide +kernel) rfl ⟨by decide, by decide⟩, ⟨s_istore (by decide +kernel) rfl, ⟨s_iload (by decide +kernel) rfl, ⟨s_ifeq (off := (8)) (by decide +kernel) rfl rfl, ⟨s_iload (by decide +kernel) rfl, ⟨s_goto (off := (4)) (by decide +kernel) rfl, ⟨s_iconst (by decide +kernel) rfl ⟨by decide, by decide⟩, ⟨s_iret rfl (by decide +kernel), trivial⟩⟩⟩⟩⟩⟩⟩⟩⟩⟩⟩⟩⟩⟩⟩⟩⟩⟩⟩⟩⟩⟩⟩⟩⟩⟩⟩⟩⟩⟩⟩⟩⟩⟩⟩⟩⟩⟩⟩⟩⟩⟩⟩⟩⟩⟩⟩⟩⟩⟩⟩⟩⟩⟩⟩⟩⟩⟩⟩⟩⟩⟩⟩⟩⟩⟩⟩⟩⟩
theorem ct_X5_ruleAt : Ctr yX5_ruleAt cX5_ruleAt 6 (some .int) 1 25 sp_X5_ruleAt := by
  refine ctr_of (by decide +kernel) ao_X5_ruleAt rfl ?_
  rintro av M Ret ⟨i, L, rfl, hp, hR⟩ hok hM
  exact ⟨Nat.le_of_ble_eq_true rfl, fun Z hZ => b_X5_ruleAt  i (hok _ (List.mem_of_getElem? (i := 1) rfl)) L (hok _ (List.mem_of_getElem? (i := 2) rfl)) M Ret hp hR hM Z hZ⟩
def sp_X5_servingRule : SP := fun av M Ret => ∃ i : Int, av = [mr 10, mi i] ∧ (vOk (bX M 1) ∧ En M ∧ M 10 7 ≤ i ∧ i < M 10 8) ∧ (Ret (some (mi (sv (bX M 1) (M 10 5) (M 10 7) (M 10 8) (gM M) i))) M)
theorem k_X5_servingRule {code : List Sem} {Z : KZ} {Ret : KR} {ls : List (Option MV)} {M : Mem} {r : List MV} (hZ : Sim code Z Ret) (ip np : Nat) {i : Int} (hc : code[ip]? = some (I_callV 5 1 sp_X5_servingRule)) (hn : ip + 1 = np) (h3 : catS r ≤ 8)  (hp : vOk (bX M 1) ∧ En M ∧ M 10 7 ≤ i ∧ i < M 10 8) (kz : Z np ls (mi (sv (bX M 1) (M 10 5) (M 10 7) (M 10 8) (gM M) i) :: r) M) : Z ip ls (mi i :: mr 10 :: r) M := w_callV1 hZ ip np hc hn rfl rfl h3 ⟨_, rfl, hp, kz⟩
def cd_X5_servingRule : List Sem := [I_const (4), I_istore 2, I_iload 2, I_const (2), I_clt 17, I_aload 0, I_iload 1, I_iload 2, I_callV 5 2 sp_X5_ruleAt, I_istore 3, I_iload 3, I_const (-1), I_ceq 15, I_iload 3, I_iret, I_iinc 2 (-1), I_goto 2, I_const (-1), I_iret]
def pc_X5_servingRule : List Nat := [0, 1, 2, 3, 4, 7, 8, 9, 10, 13, 14, 15, 16, 19, 20, 21, 24, 27, 28]
set_option maxRecDepth 100000 in
set_option maxHeartbeats 4000000 in
theorem b_X5_servingRule (i : Int) (i_i : InR i) (M : Mem) (Ret : KR) (hp : vOk (bX M 1) ∧ En M ∧ M 10 7 ≤ i ∧ i < M 10 8) (hR : Ret (some (mi (sv (bX M 1) (M 10 5) (M 10 7) (M 10 8) (gM M) i))) M) (hM : MOk M) (Z : KZ) (hZ : Sim cd_X5_servingRule Z Ret) : Z 0 [some (mr 10), some (mi i), none, none] [] M := by
  obtain ⟨hv, he, hi0, hi1⟩ := hp
  have l1 : rA (bX M 1) (M 10 5) (M 10 7) (M 10 8) (gM M) i 4 = -1 → rA (bX M 1) (M 10 5) (M 10 7) (M 10 8) (gM M) i 3 = -1 → rA (bX M 1) (M 10 5) (M 10 7) (M 10 8) (gM M) i 2 = -1 → Z 2 [some (mr 10), some (mi i), some (mi 1), none] [] M := by
    intro r4 r3 r2
    refine w_iload hZ 2 3 rfl rfl rfl ?_
    refine w_const hZ 3 4 rfl rfl  ?_
    refine w_clt hZ 4 5 rfl rfl (fun c4 => ?_) (fun c4 => absurd c4 (by omega))
    refine w_const hZ 17 18 rfl rfl  ?_
    refine w_iret hZ 18 rfl ?_
    exact ret_i hR (by unfold sv; rw [if_neg (by simp [r4]), if_neg (by simp [r3]), r2])
  have l2 : rA (bX M 1) (M 10 5) (M 10 7) (M 10 8) (gM M) i 4 = -1 → rA (bX M 1) (M 10 5) (M 10 7) (M 10 8) (gM M) i 3 = -1 → Z 2 [some (mr 10), some (mi i), some (mi 2), none] [] M := by
    intro r4 r3
    refine w_iload hZ 2 3 rfl rfl rfl ?_
    refine w_const hZ 3 4 rfl rfl  ?_
    refine w_clt hZ 4 5 rfl rfl (fun c4 => absurd c4 (by omega)) (fun c4 => ?_)
    refine w_aload hZ 5 6 rfl rfl rfl ?_
    refine w_iload hZ 6 7 rfl rfl rfl ?_
    refine w_iload hZ 7 8 rfl rfl rfl ?_
    refine k_X5_ruleAt hZ 8 9 rfl rfl (Nat.le_of_ble_eq_true rfl) ⟨hv, he, hi0, hi1, by omega, by omega⟩ ?_
    refine w_st4_3 hZ 9 10 rfl rfl rfl ?_
    refine w_iload hZ 10 11 rfl rfl rfl ?_
    refine w_const hZ 11 12 rfl rfl  ?_
    refine w_ceq hZ 12 13 rfl rfl (fun c12 => ?_) (fun c12 => ?_)
    · refine w_in4_2 hZ 15 16 rfl rfl rfl (by unfold InR; omega) ?_
      refine w_goto hZ 16 2 rfl ?_
      refine w_fg4_3 hZ ?_
      exact l1 r4 r3 c12
    · refine w_iload hZ 13 14 rfl rfl rfl ?_
      refine w_iret hZ 14 rfl ?_
      exact ret_i hR (by unfold sv; rw [if_neg (by simp [r4]), if_neg (by simp [r3])])
  have l3 : rA (bX M 1) (M 10 5) (M 10 7) (M 10 8) (gM M) i 4 = -1 → Z 2 [some (mr 10), some (mi i), some (mi 3), none] [] M := by
    intro r4
    refine w_iload hZ 2 3 rfl rfl rfl ?_
    refine w_const hZ 3 4 rfl rfl  ?_
    refine w_clt hZ 4 5 rfl rfl (fun c4 => absurd c4 (by omega)) (fun c4 => ?_)
    refine w_aload hZ 5 6 rfl rfl rfl ?_
    refine w_iload hZ 6 7 rfl rfl rfl ?_
    refine w_iload hZ 7 8 rfl rfl rfl ?_
    refine k_X5_ruleAt hZ 8 9 rfl rfl (Nat.le_of_ble_eq_true rfl) ⟨hv, he, hi0, hi1, by omega, by omega⟩ ?_
    refine w_st4_3 hZ 9 10 rfl rfl rfl ?_
    refine w_iload hZ 10 11 rfl rfl rfl ?_
    refine w_const hZ 11 12 rfl rfl  ?_
    refine w_ceq hZ 12 13 rfl rfl (fun c12 => ?_) (fun c12 => ?_)
    · refine w_in4_2 hZ 15 16 rfl rfl rfl (by unfold InR; omega) ?_
      refine w_goto hZ 16 2 rfl ?_
      refine w_fg4_3 hZ ?_
      exact l2 r4 c12
    · refine w_iload hZ 13 14 rfl rfl rfl ?_
      refine w_iret hZ 14 rfl ?_
      exact ret_i hR (by unfold sv; rw [if_neg (by simp [r4]), if_pos c12])
  have l4 : Z 2 [some (mr 10), some (mi i), some (mi 4), none] [] M := by
    refine w_iload hZ 2 3 rfl rfl rfl ?_
    refine w_const hZ 3 4 rfl rfl  ?_
    refine w_clt hZ 4 5 rfl rfl (fun c4 => absurd c4 (by omega)) (fun c4 => ?_)
    refine w_aload hZ 5 6 rfl rfl rfl ?_
    refine w_iload hZ 6 7 rfl rfl rfl ?_
    refine w_iload hZ 7 8 rfl rfl rfl ?_
    refine k_X5_ruleAt hZ 8 9 rfl rfl (Nat.le_of_ble_eq_true rfl) ⟨hv, he, hi0, hi1, by omega, by omega⟩ ?_
    refine w_st4_3 hZ 9 10 rfl rfl rfl ?_
    refine w_iload hZ 10 11 rfl rfl rfl ?_
    refine w_const hZ 11 12 rfl rfl  ?_
    refine w_ceq hZ 12 13 rfl rfl (fun c12 => ?_) (fun c12 => ?_)
    · refine w_in4_2 hZ 15 16 rfl rfl rfl (by unfold InR; omega) ?_
      refine w_goto hZ 16 2 rfl ?_
      refine w_fg4_3 hZ ?_
      exact l3 c12
    · refine w_iload hZ 13 14 rfl rfl rfl ?_
      refine w_iret hZ 14 rfl ?_
      exact ret_i hR (by unfold sv; rw [if_pos c12])
  refine w_const hZ 0 1 rfl rfl  ?_
  refine w_st4_2 hZ 1 2 rfl rfl rfl ?_
  exact l4
set_option maxRecDepth 100000 in
set_option maxHeartbeats 4000000 in
theorem ao_X5_servingRule : AllOk yX5_servingRule.cls cX5_servingRule 4 2 50 (some .int) none pc_X5_servingRule 0 cd_X5_servingRule := ⟨s_iconst (by decide +kernel) rfl ⟨by decide, by decide⟩, ⟨s_istore_n (k := 2) (by decide +kernel) rfl rfl, ⟨s_iload_n (k := 2) (by decide +kernel) rfl rfl, ⟨s_iconst (by decide +kernel) rfl ⟨by decide, by decide⟩, ⟨s_clt (off := (23)) (by decide +kernel) rfl rfl, ⟨s_aload_n (k := 0) (by decide +kernel) rfl rfl, ⟨s_iload_n (k := 1) (by decide +kernel) rfl rfl, ⟨s_iload_n (k := 2) (by decide +kernel) rfl rfl, ⟨s_callV (C := RX5) (T := TX5) (N := 12) rfl ct_X5_ruleAt (by decide) (by decide) ⟨rfl, by decide +kernel, by decide +kernel, by decide +kernel⟩ tw_2_179 tw_2_181 ts_1_9 tw_1_4 tw_2_182 (by decide +kernel) rfl, ⟨s_istore_n (k := 3) (by decide +kernel) rfl rfl, ⟨s_iload_n (k := 3) (by decide +kernel) rfl rfl, ⟨s_iconst (by decide +kernel) rfl ⟨by decide, by decide⟩, ⟨s_ceq (off := (5)) (by decide +kernel) rfl rfl, ⟨s_iload_n (k := 3) (by decide +kernel) rfl rfl, ⟨s_iret rfl (by decide +kernel), ⟨s_iinc (by decide +kernel) rfl, ⟨s_goto (off := (-22)) (by decide +kernel) rfl, ⟨s_iconst (by decide +kernel) rfl ⟨by decide, by decide⟩, ⟨s_iret rfl (by decide +kernel), trivial⟩⟩⟩⟩⟩⟩⟩⟩⟩⟩⟩⟩⟩⟩⟩⟩⟩⟩⟩
theorem ct_X5_servingRule : Ctr yX5_servingRule cX5_servingRule 4 (some .int) 2 50 sp_X5_servingRule := by
  refine ctr_of (by decide +kernel) ao_X5_servingRule rfl ?_
  rintro av M Ret ⟨i, rfl, hp, hR⟩ hok hM
  exact ⟨Nat.le_of_ble_eq_true rfl, fun Z hZ => b_X5_servingRule  i (hok _ (List.mem_of_getElem? (i := 1) rfl)) M Ret hp hR hM Z hZ⟩
def sp_X5_needsLetters : SP := fun av M Ret => av = [mr 10] ∧ (Bx M ∧ 0 ≤ M 10 7 ∧ M 10 7 ≤ 120) ∧ (Ret (some (mi (b2i (wnt (bX M 1) (M 10 7))))) M)
theorem k_X5_needsLetters {code : List Sem} {Z : KZ} {Ret : KR} {ls : List (Option MV)} {M : Mem} {r : List MV} (hZ : Sim code Z Ret) (ip np : Nat)  (hc : code[ip]? = some (I_callV 5 0 sp_X5_needsLetters)) (hn : ip + 1 = np) (h3 : catS r ≤ 8)  (hp : Bx M ∧ 0 ≤ M 10 7 ∧ M 10 7 ≤ 120) (kz : Z np ls (mi (b2i (wnt (bX M 1) (M 10 7))) :: r) M) : Z ip ls (mr 10 :: r) M := w_callV0 hZ ip np hc hn rfl rfl h3 ⟨rfl, hp, kz⟩
def cd_X5_needsLetters : List Sem := [I_aload 0, I_get 5 3, I_aload 0, I_get 5 7, I_callV 0 1 sp_X0_signAt, I_istore 1, I_iload 1, I_const (97), I_clt 20, I_iload 1, I_const (107), I_cge 20, I_aload 0, I_get 5 3, I_aload 0, I_get 5 7, I_callV 0 1 sp_X0_isBehindFigures, I_ifeq 20, I_const (1), I_goto 21, I_const (0), I_zret]
def pc_X5_needsLetters : List Nat := [0, 1, 4, 5, 8, 11, 12, 13, 15, 18, 19, 21, 24, 25, 28, 29, 32, 35, 38, 39, 42, 43]
set_option maxRecDepth 100000 in
set_option maxHeartbeats 4000000 in
theorem b_X5_needsLetters  (M : Mem) (Ret : KR) (hp : Bx M ∧ 0 ≤ M 10 7 ∧ M 10 7 ≤ 120) (hR : Ret (some (mi (b2i (wnt (bX M 1) (M 10 7))))) M) (hM : MOk M) (Z : KZ) (hZ : Sim cd_X5_needsLetters Z Ret) : Z 0 [some (mr 10), none] [] M := by
  obtain ⟨hb, h0, h1⟩ := hp
  refine w_aload hZ 0 1 rfl rfl rfl ?_
  refine w_getr hZ 1 2 rfl rfl rfl rfl rfl ?_
  refine w_aload hZ 2 3 rfl rfl rfl ?_
  refine w_geti hZ 3 4 rfl rfl rfl rfl rfl ?_
  refine k_X0_signAt hZ 4 5 rfl rfl (Nat.le_of_ble_eq_true rfl) hb ?_
  refine w_st2_1 hZ 5 6 rfl rfl rfl ?_
  refine w_iload hZ 6 7 rfl rfl rfl ?_
  refine w_const hZ 7 8 rfl rfl  ?_
  refine w_clt hZ 8 9 rfl rfl (fun c8 => ?_) (fun c8 => ?_)
  · refine w_const hZ 20 21 rfl rfl  ?_
    refine w_zret hZ 21 rfl (by omega) ?_
    first
      | exact ret_i hR (b2i_t ⟨c8, by have : vS (bX M 1) (M 10 7) = SX M (M 10 7) := rfl; omega, b2i_e.mp c17⟩)
      | exact ret_i hR (b2i_f (fun q => (b2i_z.mp c17) q.2.2))
      | exact ret_i hR (b2i_f (fun q => by have := q.1; have := q.2.1; have : vS (bX M 1) (M 10 7) = SX M (M 10 7) := rfl; omega))
  · refine w_iload hZ 9 10 rfl rfl rfl ?_
    refine w_const hZ 10 11 rfl rfl  ?_
    refine w_cge hZ 11 12 rfl rfl (fun c11 => ?_) (fun c11 => ?_)
    · refine w_const hZ 20 21 rfl rfl  ?_
      refine w_zret hZ 21 rfl (by omega) ?_
      first
        | exact ret_i hR (b2i_t ⟨c8, by have : vS (bX M 1) (M 10 7) = SX M (M 10 7) := rfl; omega, b2i_e.mp c17⟩)
        | exact ret_i hR (b2i_f (fun q => (b2i_z.mp c17) q.2.2))
        | exact ret_i hR (b2i_f (fun q => by have := q.1; have := q.2.1; have : vS (bX M 1) (M 10 7) = SX M (M 10 7) := rfl; omega))
    · refine w_aload hZ 12 13 rfl rfl rfl ?_
      refine w_getr hZ 13 14 rfl rfl rfl rfl rfl ?_
      refine w_aload hZ 14 15 rfl rfl rfl ?_
      refine w_geti hZ 15 16 rfl rfl rfl rfl rfl ?_
      refine k_X0_isBehindFigures hZ 16 17 rfl rfl (Nat.le_of_ble_eq_true rfl) ⟨hb, by unfold InR; omega, by unfold InR; omega⟩ ?_
      refine w_ifeq hZ 17 18 rfl rfl (fun c17 => ?_) (fun c17 => ?_)
      · refine w_const hZ 20 21 rfl rfl  ?_
        refine w_zret hZ 21 rfl (by omega) ?_
        first
          | exact ret_i hR (b2i_t ⟨c8, by have : vS (bX M 1) (M 10 7) = SX M (M 10 7) := rfl; omega, b2i_e.mp c17⟩)
          | exact ret_i hR (b2i_f (fun q => (b2i_z.mp c17) q.2.2))
          | exact ret_i hR (b2i_f (fun q => by have := q.1; have := q.2.1; have : vS (bX M 1) (M 10 7) = SX M (M 10 7) := rfl; omega))
      · refine w_const hZ 18 19 rfl rfl  ?_
        refine w_goto hZ 19 21 rfl ?_
        refine w_zret hZ 21 rfl (by omega) ?_
        first
          | exact ret_i hR (b2i_t ⟨c8, by have : vS (bX M 1) (M 10 7) = SX M (M 10 7) := rfl; omega, b2i_e.mp c17⟩)
          | exact ret_i hR (b2i_f (fun q => (b2i_z.mp c17) q.2.2))
          | exact ret_i hR (b2i_f (fun q => by have := q.1; have := q.2.1; have : vS (bX M 1) (M 10 7) = SX M (M 10 7) := rfl; omega))
set_option maxRecDepth 100000 in
set_option maxHeartbeats 4000000 in
theorem ao_X5_needsLetters : AllOk yX5_needsLetters.cls cX5_needsLetters 2 2 42 (some .boolean) none pc_X5_needsLetters 0 cd_X5_needsLetters := ⟨s_aload_n (k := 0) (by decide +kernel) rfl rfl, ⟨s_get (C := RX5) (T := TX5) (N := 12) rfl inT5 (by decide) tw_1_95 (by decide +kernel) rfl, ⟨s_aload_n (k := 0) (by decide +kernel) rfl rfl, ⟨s_get (C := RX5) (T := TX5) (N := 12) rfl inT5 (by decide) tw_1_99 (by decide +kernel) rfl, ⟨s_callV (C := RX0) (T := TX0) (N := 8) rfl ct_X0_signAt (by decide) (by decide) ⟨rfl, by decide +kernel, by decide +kernel, by decide +kernel⟩ tw_2_142 tw_2_130 tw_2_131 tw_1_2 tw_2_132 (by decide +kernel) rfl, ⟨s_istore_n (k := 1) (by decide +kernel) rfl rfl, ⟨s_iload_n (k := 1) (by decide +kernel) rfl rfl, ⟨s_bipush (by decide +kernel) rfl ⟨by decide, by decide⟩ (by decide +kernel), ⟨s_clt (off := (27)) (by decide +kernel) rfl rfl, ⟨s_iload_n (k := 1) (by decide +kernel) rfl rfl, ⟨s_bipush (by decide +kernel) rfl ⟨by decide, by decide⟩ (by decide +kernel), ⟨s_cge (off := (21)) (by decide +kernel) rfl rfl, ⟨s_aload_n (k := 0) (by decide +kernel) rfl rfl, ⟨s_get (C := RX5) (T := TX5) (N := 12) rfl inT5 (by decide) tw_1_95 (by decide +kernel) rfl, ⟨s_aload_n (k := 0) (by decide +kernel) rfl rfl, ⟨s_get (C := RX5) (T := TX5) (N := 12) rfl inT5 (by decide) tw_1_99 (by decide +kernel) rfl, ⟨s_callV (C := RX0) (T := TX0) (N := 8) rfl ct_X0_isBehindFigures (by decide) (by decide) ⟨rfl, by decide +kernel, by decide +kernel, by decide +kernel⟩ tw_2_165 tw_2_166 tw_2_167 tw_1_2 tw_2_168 (by decide +kernel) rfl, ⟨s_ifeq (off := (7)) (by decide +kernel) rfl rfl, ⟨s_iconst (by decide +kernel) rfl ⟨by decide, by decide⟩, ⟨s_goto (off := (4)) (by decide +kernel) rfl, ⟨s_iconst (by decide +kernel) rfl ⟨by decide, by decide⟩, ⟨s_zret rfl (by decide +kernel), trivial⟩⟩⟩⟩⟩⟩⟩⟩⟩⟩⟩⟩⟩⟩⟩⟩⟩⟩⟩⟩⟩⟩
theorem ct_X5_needsLetters : Ctr yX5_needsLetters cX5_needsLetters 2 (some .boolean) 2 42 sp_X5_needsLetters := by
  refine ctr_of (by decide +kernel) ao_X5_needsLetters rfl ?_
  rintro av M Ret ⟨rfl, hp, hR⟩ hok hM
  exact ⟨Nat.le_of_ble_eq_true rfl, fun Z hZ => b_X5_needsLetters   M Ret hp hR hM Z hZ⟩
