def sp_X0_hasRule : SP := fun av M Ret => ∃ k : Int, av = [mr 1, mi k] ∧ (Ret (some (mi (b2i (0 ≤ k ∧ k < M 1 4)))) M)
theorem k_X0_hasRule {code : List Sem} {Z : KZ} {Ret : KR} {ls : List (Option MV)} {M : Mem} {r : List MV} (hZ : Sim code Z Ret) (ip np : Nat) {k : Int} (hc : code[ip]? = some (I_callV 0 1 sp_X0_hasRule)) (hn : ip + 1 = np) (h3 : catS r ≤ 8)   (kz : Z np ls (mi (b2i (0 ≤ k ∧ k < M 1 4)) :: r) M) : Z ip ls (mi k :: mr 1 :: r) M := w_callV1 hZ ip np hc hn rfl rfl h3 ⟨_, rfl, kz⟩
def cd_X0_hasRule : List Sem := [I_iload 1, I_iflt 8, I_iload 1, I_aload 0, I_get 0 4, I_cge 8, I_const (1), I_goto 9, I_const (0), I_zret]
def pc_X0_hasRule : List Nat := [0, 1, 4, 5, 6, 9, 12, 13, 16, 17]
set_option maxRecDepth 100000 in
set_option maxHeartbeats 4000000 in
theorem b_X0_hasRule (k : Int) (i_k : InR k) (M : Mem) (Ret : KR)  (hR : Ret (some (mi (b2i (0 ≤ k ∧ k < M 1 4)))) M) (hM : MOk M) (Z : KZ) (hZ : Sim cd_X0_hasRule Z Ret) : Z 0 [some (mr 1), some (mi k)] [] M := by
  refine w_iload hZ 0 1 rfl rfl rfl ?_
  refine w_iflt hZ 1 2 rfl rfl (fun c1 => ?_) (fun c1 => ?_)
  · refine w_const hZ 8 9 rfl rfl  ?_
    refine w_zret hZ 9 rfl (by omega) ?_
    exact ret_i hR (by (first | refine b2i_t ?_ | refine b2i_f ?_); omega)
  · refine w_iload hZ 2 3 rfl rfl rfl ?_
    refine w_aload hZ 3 4 rfl rfl rfl ?_
    refine w_geti hZ 4 5 rfl rfl rfl rfl rfl ?_
    refine w_cge hZ 5 6 rfl rfl (fun c5 => ?_) (fun c5 => ?_)
    · refine w_const hZ 8 9 rfl rfl  ?_
      refine w_zret hZ 9 rfl (by omega) ?_
      exact ret_i hR (by (first | refine b2i_t ?_ | refine b2i_f ?_); omega)
    · refine w_const hZ 6 7 rfl rfl  ?_
      refine w_goto hZ 7 9 rfl ?_
      refine w_zret hZ 9 rfl (by omega) ?_
      exact ret_i hR (by (first | refine b2i_t ?_ | refine b2i_f ?_); omega)
set_option maxRecDepth 100000 in
set_option maxHeartbeats 4000000 in
theorem ao_X0_hasRule : AllOk yX0_hasRule.cls cX0_hasRule 2 0 0 (some .boolean) none pc_X0_hasRule 0 cd_X0_hasRule := ⟨s_iload_n (k := 1) (by decide +kernel) rfl rfl, ⟨s_iflt (off := (15)) (by decide +kernel) rfl rfl, ⟨s_iload_n (k := 1) (by decide +kernel) rfl rfl, ⟨s_aload_n (k := 0) (by decide +kernel) rfl rfl, ⟨s_get (C := RX0) (T := TX0) (N := 8) rfl inT0 (by decide) tw_1_36 (by decide +kernel) rfl, ⟨s_cge (off := (7)) (by decide +kernel) rfl rfl, ⟨s_iconst (by decide +kernel) rfl ⟨by decide, by decide⟩, ⟨s_goto (off := (4)) (by decide +kernel) rfl, ⟨s_iconst (by decide +kernel) rfl ⟨by decide, by decide⟩, ⟨s_zret rfl (by decide +kernel), trivial⟩⟩⟩⟩⟩⟩⟩⟩⟩⟩
theorem ct_X0_hasRule : Ctr yX0_hasRule cX0_hasRule 2 (some .boolean) 0 0 sp_X0_hasRule := by
  refine ctr_of (by decide +kernel) ao_X0_hasRule rfl ?_
  rintro av M Ret ⟨k, rfl, hR⟩ hok hM
  exact ⟨Nat.le_of_ble_eq_true rfl, fun Z hZ => b_X0_hasRule  k (hok _ (List.mem_of_getElem? (i := 1) rfl)) M Ret  hR hM Z hZ⟩
def sp_X0_ruleOfCell : SP := fun av M Ret => ∃ c : Int, av = [mr 1, mi c] ∧ (Bx M) ∧ (Ret (some (mi (fIx (M 3) c (M 1 4)))) M)
theorem k_X0_ruleOfCell {code : List Sem} {Z : KZ} {Ret : KR} {ls : List (Option MV)} {M : Mem} {r : List MV} (hZ : Sim code Z Ret) (ip np : Nat) {c : Int} (hc : code[ip]? = some (I_callV 0 1 sp_X0_ruleOfCell)) (hn : ip + 1 = np) (h3 : catS r ≤ 8)  (hp : Bx M) (kz : Z np ls (mi (fIx (M 3) c (M 1 4)) :: r) M) : Z ip ls (mi c :: mr 1 :: r) M := w_callV1 hZ ip np hc hn rfl rfl h3 ⟨_, rfl, hp, kz⟩
def cd_X0_ruleOfCell : List Sem := [I_const (0), I_istore 2, I_iload 2, I_aload 0, I_get 0 4, I_cge 16, I_aload 0, I_get 0 1, I_iload 2, I_iald, I_iload 1, I_cne 14, I_iload 2, I_iret, I_iinc 2 (1), I_goto 2, I_const (-1), I_iret]
def pc_X0_ruleOfCell : List Nat := [0, 1, 2, 3, 4, 7, 10, 11, 14, 15, 16, 17, 20, 21, 22, 25, 28, 29]
set_option maxRecDepth 100000 in
set_option maxHeartbeats 4000000 in
theorem b_X0_ruleOfCell (c : Int) (i_c : InR c) (M : Mem) (Ret : KR) (hp : Bx M) (hR : Ret (some (mi (fIx (M 3) c (M 1 4)))) M) (hM : MOk M) (Z : KZ) (hZ : Sim cd_X0_ruleOfCell Z Ret) : Z 0 [some (mr 1), some (mi c), none] [] M := by
  obtain ⟨b1, b2, b3, b4⟩ := hp
  have loop : ∀ (d : Nat) (k : Int), d = (M 1 4 - k).toNat → 0 ≤ k → k ≤ M 1 4 → (∀ j : Int, 0 ≤ j → j < k → ¬ M 3 j.toNat = c) → Z 2 [some (mr 1), some (mi c), some (mi k)] [] M := by
    intro d
    induction d using Nat.strongRecOn with
    | ind d ih =>
      intro k hd h0 h1 hj
      refine w_iload hZ 2 3 rfl rfl rfl ?_
      refine w_aload hZ 3 4 rfl rfl rfl ?_
      refine w_geti hZ 4 5 rfl rfl rfl rfl rfl ?_
      refine w_cge hZ 5 6 rfl rfl (fun c5 => ?_) (fun c5 => ?_)
      · refine w_const hZ 16 17 rfl rfl  ?_
        refine w_iret hZ 17 rfl ?_
        exact ret_i hR (fIx_eq b1 (Or.inl ⟨rfl, fun j a b => hj j a (by omega)⟩))
      · refine w_aload hZ 6 7 rfl rfl rfl ?_
        refine w_getr hZ 7 8 rfl rfl rfl rfl rfl ?_
        refine w_iload hZ 8 9 rfl rfl rfl ?_
        refine w_iald hZ 9 10 rfl rfl rfl (by omega) (by omega) ?_
        refine w_iload hZ 10 11 rfl rfl rfl ?_
        refine w_cne hZ 11 12 rfl rfl (fun c11 => ?_) (fun c11 => ?_)
        · refine w_in3_2 hZ 14 15 rfl rfl rfl (by unfold InR; omega) ?_
          refine w_goto hZ 15 2 rfl ?_
          refine ih ((M 1 4 - (k + 1)).toNat) (by omega) (k + 1) rfl (by omega) (by omega) (fun j a b => ?_)
          by_cases q : j = k
          · rw [q]; exact c11
          · exact hj j a (by omega)
        · refine w_iload hZ 12 13 rfl rfl rfl ?_
          refine w_iret hZ 13 rfl ?_
          exact ret_i hR (fIx_eq b1 (Or.inr ⟨h0, c5, c11, hj⟩))
  refine w_const hZ 0 1 rfl rfl  ?_
  refine w_st3_2 hZ 1 2 rfl rfl rfl ?_
  exact loop _ 0 rfl (by omega) (by omega) (fun j a b => by omega)
set_option maxRecDepth 100000 in
set_option maxHeartbeats 4000000 in
theorem ao_X0_ruleOfCell : AllOk yX0_ruleOfCell.cls cX0_ruleOfCell 3 0 0 (some .int) none pc_X0_ruleOfCell 0 cd_X0_ruleOfCell := ⟨s_iconst (by decide +kernel) rfl ⟨by decide, by decide⟩, ⟨s_istore_n (k := 2) (by decide +kernel) rfl rfl, ⟨s_iload_n (k := 2) (by decide +kernel) rfl rfl, ⟨s_aload_n (k := 0) (by decide +kernel) rfl rfl, ⟨s_get (C := RX0) (T := TX0) (N := 8) rfl inT0 (by decide) tw_1_36 (by decide +kernel) rfl, ⟨s_cge (off := (21)) (by decide +kernel) rfl rfl, ⟨s_aload_n (k := 0) (by decide +kernel) rfl rfl, ⟨s_get (C := RX0) (T := TX0) (N := 8) rfl inT0 (by decide) tw_1_29 (by decide +kernel) rfl, ⟨s_iload_n (k := 2) (by decide +kernel) rfl rfl, ⟨s_iald (by decide +kernel) rfl, ⟨s_iload_n (k := 1) (by decide +kernel) rfl rfl, ⟨s_cne (off := (5)) (by decide +kernel) rfl rfl, ⟨s_iload_n (k := 2) (by decide +kernel) rfl rfl, ⟨s_iret rfl (by decide +kernel), ⟨s_iinc (by decide +kernel) rfl, ⟨s_goto (off := (-23)) (by decide +kernel) rfl, ⟨s_iconst (by decide +kernel) rfl ⟨by decide, by decide⟩, ⟨s_iret rfl (by decide +kernel), trivial⟩⟩⟩⟩⟩⟩⟩⟩⟩⟩⟩⟩⟩⟩⟩⟩⟩⟩
theorem ct_X0_ruleOfCell : Ctr yX0_ruleOfCell cX0_ruleOfCell 3 (some .int) 0 0 sp_X0_ruleOfCell := by
  refine ctr_of (by decide +kernel) ao_X0_ruleOfCell rfl ?_
  rintro av M Ret ⟨c, rfl, hp, hR⟩ hok hM
  exact ⟨Nat.le_of_ble_eq_true rfl, fun Z hZ => b_X0_ruleOfCell  c (hok _ (List.mem_of_getElem? (i := 1) rfl)) M Ret hp hR hM Z hZ⟩
def sp_X0_ruleOfCode : SP := fun av M Ret => ∃ c : Int, av = [mr 1, mi c] ∧ (Bx M) ∧ (Ret (some (mi (fIx (M 2) c (M 1 4)))) M)
theorem k_X0_ruleOfCode {code : List Sem} {Z : KZ} {Ret : KR} {ls : List (Option MV)} {M : Mem} {r : List MV} (hZ : Sim code Z Ret) (ip np : Nat) {c : Int} (hc : code[ip]? = some (I_callV 0 1 sp_X0_ruleOfCode)) (hn : ip + 1 = np) (h3 : catS r ≤ 8)  (hp : Bx M) (kz : Z np ls (mi (fIx (M 2) c (M 1 4)) :: r) M) : Z ip ls (mi c :: mr 1 :: r) M := w_callV1 hZ ip np hc hn rfl rfl h3 ⟨_, rfl, hp, kz⟩
def cd_X0_ruleOfCode : List Sem := [I_const (0), I_istore 2, I_iload 2, I_aload 0, I_get 0 4, I_cge 16, I_aload 0, I_get 0 0, I_iload 2, I_iald, I_iload 1, I_cne 14, I_iload 2, I_iret, I_iinc 2 (1), I_goto 2, I_const (-1), I_iret]
def pc_X0_ruleOfCode : List Nat := [0, 1, 2, 3, 4, 7, 10, 11, 14, 15, 16, 17, 20, 21, 22, 25, 28, 29]
set_option maxRecDepth 100000 in
set_option maxHeartbeats 4000000 in
theorem b_X0_ruleOfCode (c : Int) (i_c : InR c) (M : Mem) (Ret : KR) (hp : Bx M) (hR : Ret (some (mi (fIx (M 2) c (M 1 4)))) M) (hM : MOk M) (Z : KZ) (hZ : Sim cd_X0_ruleOfCode Z Ret) : Z 0 [some (mr 1), some (mi c), none] [] M := by
  obtain ⟨b1, b2, b3, b4⟩ := hp
  have loop : ∀ (d : Nat) (k : Int), d = (M 1 4 - k).toNat → 0 ≤ k → k ≤ M 1 4 → (∀ j : Int, 0 ≤ j → j < k → ¬ M 2 j.toNat = c) → Z 2 [some (mr 1), some (mi c), some (mi k)] [] M := by
    intro d
    induction d using Nat.strongRecOn with
    | ind d ih =>
      intro k hd h0 h1 hj
      refine w_iload hZ 2 3 rfl rfl rfl ?_
      refine w_aload hZ 3 4 rfl rfl rfl ?_
      refine w_geti hZ 4 5 rfl rfl rfl rfl rfl ?_
      refine w_cge hZ 5 6 rfl rfl (fun c5 => ?_) (fun c5 => ?_)
      · refine w_const hZ 16 17 rfl rfl  ?_
        refine w_iret hZ 17 rfl ?_
        exact ret_i hR (fIx_eq b1 (Or.inl ⟨rfl, fun j a b => hj j a (by omega)⟩))
      · refine w_aload hZ 6 7 rfl rfl rfl ?_
        refine w_getr hZ 7 8 rfl rfl rfl rfl rfl ?_
        refine w_iload hZ 8 9 rfl rfl rfl ?_
        refine w_iald hZ 9 10 rfl rfl rfl (by omega) (by omega) ?_
        refine w_iload hZ 10 11 rfl rfl rfl ?_
        refine w_cne hZ 11 12 rfl rfl (fun c11 => ?_) (fun c11 => ?_)
        · refine w_in3_2 hZ 14 15 rfl rfl rfl (by unfold InR; omega) ?_
          refine w_goto hZ 15 2 rfl ?_
          refine ih ((M 1 4 - (k + 1)).toNat) (by omega) (k + 1) rfl (by omega) (by omega) (fun j a b => ?_)
          by_cases q : j = k
          · rw [q]; exact c11
          · exact hj j a (by omega)
        · refine w_iload hZ 12 13 rfl rfl rfl ?_
          refine w_iret hZ 13 rfl ?_
          exact ret_i hR (fIx_eq b1 (Or.inr ⟨h0, c5, c11, hj⟩))
  refine w_const hZ 0 1 rfl rfl  ?_
  refine w_st3_2 hZ 1 2 rfl rfl rfl ?_
  exact loop _ 0 rfl (by omega) (by omega) (fun j a b => by omega)
set_option maxRecDepth 100000 in
set_option maxHeartbeats 4000000 in
theorem ao_X0_ruleOfCode : AllOk yX0_ruleOfCode.cls cX0_ruleOfCode 3 0 0 (some .int) none pc_X0_ruleOfCode 0 cd_X0_ruleOfCode := ⟨s_iconst (by decide +kernel) rfl ⟨by decide, by decide⟩, ⟨s_istore_n (k := 2) (by decide +kernel) rfl rfl, ⟨s_iload_n (k := 2) (by decide +kernel) rfl rfl, ⟨s_aload_n (k := 0) (by decide +kernel) rfl rfl, ⟨s_get (C := RX0) (T := TX0) (N := 8) rfl inT0 (by decide) tw_1_36 (by decide +kernel) rfl, ⟨s_cge (off := (21)) (by decide +kernel) rfl rfl, ⟨s_aload_n (k := 0) (by decide +kernel) rfl rfl, ⟨s_get (C := RX0) (T := TX0) (N := 8) rfl inT0 (by decide) tw_1_25 (by decide +kernel) rfl, ⟨s_iload_n (k := 2) (by decide +kernel) rfl rfl, ⟨s_iald (by decide +kernel) rfl, ⟨s_iload_n (k := 1) (by decide +kernel) rfl rfl, ⟨s_cne (off := (5)) (by decide +kernel) rfl rfl, ⟨s_iload_n (k := 2) (by decide +kernel) rfl rfl, ⟨s_iret rfl (by decide +kernel), ⟨s_iinc (by decide +kernel) rfl, ⟨s_goto (off := (-23)) (by decide +kernel) rfl, ⟨s_iconst (by decide +kernel) rfl ⟨by decide, by decide⟩, ⟨s_iret rfl (by decide +kernel), trivial⟩⟩⟩⟩⟩⟩⟩⟩⟩⟩⟩⟩⟩⟩⟩⟩⟩⟩
theorem ct_X0_ruleOfCode : Ctr yX0_ruleOfCode cX0_ruleOfCode 3 (some .int) 0 0 sp_X0_ruleOfCode := by
  refine ctr_of (by decide +kernel) ao_X0_ruleOfCode rfl ?_
  rintro av M Ret ⟨c, rfl, hp, hR⟩ hok hM
  exact ⟨Nat.le_of_ble_eq_true rfl, fun Z hZ => b_X0_ruleOfCode  c (hok _ (List.mem_of_getElem? (i := 1) rfl)) M Ret hp hR hM Z hZ⟩
def sp_X0_isTaken : SP := fun av M Ret => ∃ c : Int, ∃ e : Int, av = [mr 1, mi c, mi e] ∧ (Bx M) ∧ (Ret (some (mi (b2i (¬ fIx (M 2) c (M 1 4) = -1 ∨ ¬ fIx (M 3) e (M 1 4) = -1)))) M)
theorem k_X0_isTaken {code : List Sem} {Z : KZ} {Ret : KR} {ls : List (Option MV)} {M : Mem} {r : List MV} (hZ : Sim code Z Ret) (ip np : Nat) {c e : Int} (hc : code[ip]? = some (I_callV 0 2 sp_X0_isTaken)) (hn : ip + 1 = np) (h3 : catS r ≤ 8)  (hp : Bx M) (kz : Z np ls (mi (b2i (¬ fIx (M 2) c (M 1 4) = -1 ∨ ¬ fIx (M 3) e (M 1 4) = -1)) :: r) M) : Z ip ls (mi e :: mi c :: mr 1 :: r) M := w_callV2 hZ ip np hc hn rfl rfl h3 ⟨_, _, rfl, hp, kz⟩
def cd_X0_isTaken : List Sem := [I_aload 0, I_iload 1, I_callV 0 1 sp_X0_ruleOfCode, I_const (-1), I_cne 10, I_aload 0, I_iload 2, I_callV 0 1 sp_X0_ruleOfCell, I_const (-1), I_ceq 12, I_const (1), I_goto 13, I_const (0), I_zret]
def pc_X0_isTaken : List Nat := [0, 1, 2, 5, 6, 9, 10, 11, 14, 15, 18, 19, 22, 23]
set_option maxRecDepth 100000 in
set_option maxHeartbeats 4000000 in
theorem b_X0_isTaken (c : Int) (i_c : InR c) (e : Int) (i_e : InR e) (M : Mem) (Ret : KR) (hp : Bx M) (hR : Ret (some (mi (b2i (¬ fIx (M 2) c (M 1 4) = -1 ∨ ¬ fIx (M 3) e (M 1 4) = -1)))) M) (hM : MOk M) (Z : KZ) (hZ : Sim cd_X0_isTaken Z Ret) : Z 0 [some (mr 1), some (mi c), some (mi e)] [] M := by
  refine w_aload hZ 0 1 rfl rfl rfl ?_
  refine w_iload hZ 1 2 rfl rfl rfl ?_
  refine k_X0_ruleOfCode hZ 2 3 rfl rfl (Nat.le_of_ble_eq_true rfl) hp ?_
  refine w_const hZ 3 4 rfl rfl  ?_
  refine w_cne hZ 4 5 rfl rfl (fun c4 => ?_) (fun c4 => ?_)
  · refine w_const hZ 10 11 rfl rfl  ?_
    refine w_goto hZ 11 13 rfl ?_
    refine w_zret hZ 13 rfl (by omega) ?_
    exact ret_i hR (by (first | refine b2i_t ?_ | refine b2i_f ?_); omega)
  · refine w_aload hZ 5 6 rfl rfl rfl ?_
    refine w_iload hZ 6 7 rfl rfl rfl ?_
    refine k_X0_ruleOfCell hZ 7 8 rfl rfl (Nat.le_of_ble_eq_true rfl) hp ?_
    refine w_const hZ 8 9 rfl rfl  ?_
    refine w_ceq hZ 9 10 rfl rfl (fun c9 => ?_) (fun c9 => ?_)
    · refine w_const hZ 12 13 rfl rfl  ?_
      refine w_zret hZ 13 rfl (by omega) ?_
      exact ret_i hR (by (first | refine b2i_t ?_ | refine b2i_f ?_); omega)
    · refine w_const hZ 10 11 rfl rfl  ?_
      refine w_goto hZ 11 13 rfl ?_
      refine w_zret hZ 13 rfl (by omega) ?_
      exact ret_i hR (by (first | refine b2i_t ?_ | refine b2i_f ?_); omega)
set_option maxRecDepth 100000 in
set_option maxHeartbeats 4000000 in
theorem ao_X0_isTaken : AllOk yX0_isTaken.cls cX0_isTaken 3 1 22 (some .boolean) none pc_X0_isTaken 0 cd_X0_isTaken := ⟨s_aload_n (k := 0) (by decide +kernel) rfl rfl, ⟨s_iload_n (k := 1) (by decide +kernel) rfl rfl, ⟨s_callV (C := RX0) (T := TX0) (N := 8) rfl ct_X0_ruleOfCode (by decide) (by decide) ⟨rfl, by decide +kernel, by decide +kernel, by decide +kernel⟩ tw_2_7 tw_2_8 tw_2_9 tw_1_2 tw_2_10 (by decide +kernel) rfl, ⟨s_iconst (by decide +kernel) rfl ⟨by decide, by decide⟩, ⟨s_cne (off := (12)) (by decide +kernel) rfl rfl, ⟨s_aload_n (k := 0) (by decide +kernel) rfl rfl, ⟨s_iload_n (k := 2) (by decide +kernel) rfl rfl, ⟨s_callV (C := RX0) (T := TX0) (N := 8) rfl ct_X0_ruleOfCell (by decide) (by decide) ⟨rfl, by decide +kernel, by decide +kernel, by decide +kernel⟩ tw_2_11 tw_2_12 tw_2_13 tw_1_2 tw_2_14 (by decide +kernel) rfl, ⟨s_iconst (by decide +kernel) rfl ⟨by decide, by decide⟩, ⟨s_ceq (off := (7)) (by decide +kernel) rfl rfl, ⟨s_iconst (by decide +kernel) rfl ⟨by decide, by decide⟩, ⟨s_goto (off := (4)) (by decide +kernel) rfl, ⟨s_iconst (by decide +kernel) rfl ⟨by decide, by decide⟩, ⟨s_zret rfl (by decide +kernel), trivial⟩⟩⟩⟩⟩⟩⟩⟩⟩⟩⟩⟩⟩⟩
theorem ct_X0_isTaken : Ctr yX0_isTaken cX0_isTaken 3 (some .boolean) 1 22 sp_X0_isTaken := by
  refine ctr_of (by decide +kernel) ao_X0_isTaken rfl ?_
  rintro av M Ret ⟨c, e, rfl, hp, hR⟩ hok hM
  exact ⟨Nat.le_of_ble_eq_true rfl, fun Z hZ => b_X0_isTaken  c (hok _ (List.mem_of_getElem? (i := 1) rfl)) e (hok _ (List.mem_of_getElem? (i := 2) rfl)) M Ret hp hR hM Z hZ⟩
def sp_X0_addRule : SP := fun av M Ret => ∃ c : Int, ∃ e : Int, ∃ k : Int, av = [mr 1, mi c, mi e, mi k] ∧ (Bx M) ∧ (∀ M2 : Mem, (M2 = if M 1 4 < 12 then addR M c e k else M) → Ret none M2)
theorem k_X0_addRule {code : List Sem} {Z : KZ} {Ret : KR} {ls : List (Option MV)} {M : Mem} {r : List MV} (hZ : Sim code Z Ret) (ip np : Nat) {c e k : Int} (hc : code[ip]? = some (I_callV 0 3 sp_X0_addRule)) (hn : ip + 1 = np) (h3 : catS r ≤ 8)  (hp : Bx M) (kz : ∀ M2 : Mem, (M2 = if M 1 4 < 12 then addR M c e k else M) → Z np ls r M2) : Z ip ls (mi k :: mi e :: mi c :: mr 1 :: r) M := w_callV3 hZ ip np hc hn rfl rfl h3 ⟨_, _, _, rfl, hp, fun M2 h => kz M2 h⟩
def cd_X0_addRule : List Sem := [I_aload 0, I_get 0 4, I_const (12), I_cge 28, I_aload 0, I_get 0 0, I_aload 0, I_get 0 4, I_iload 1, I_iast, I_aload 0, I_get 0 1, I_aload 0, I_get 0 4, I_iload 2, I_iast, I_aload 0, I_get 0 2, I_aload 0, I_get 0 4, I_iload 3, I_iast, I_aload 0, I_dup, I_get 0 4, I_const (1), I_add, I_puti 0 4, I_vret]
def pc_X0_addRule : List Nat := [0, 1, 4, 6, 9, 10, 13, 14, 17, 18, 19, 20, 23, 24, 27, 28, 29, 30, 33, 34, 37, 38, 39, 40, 41, 44, 45, 46, 49]
set_option maxRecDepth 100000 in
set_option maxHeartbeats 4000000 in
theorem b_X0_addRule (c : Int) (i_c : InR c) (e : Int) (i_e : InR e) (k : Int) (i_k : InR k) (M : Mem) (Ret : KR) (hp : Bx M) (hR : ∀ M2 : Mem, (M2 = if M 1 4 < 12 then addR M c e k else M) → Ret none M2) (hM : MOk M) (Z : KZ) (hZ : Sim cd_X0_addRule Z Ret) : Z 0 [some (mr 1), some (mi c), some (mi e), some (mi k)] [] M := by
  obtain ⟨b1, b2, b3, b4⟩ := hp
  refine w_aload hZ 0 1 rfl rfl rfl ?_
  refine w_geti hZ 1 2 rfl rfl rfl rfl rfl ?_
  refine w_const hZ 2 3 rfl rfl  ?_
  refine w_cge hZ 3 4 rfl rfl (fun c3 => ?_) (fun c3 => ?_)
  · refine w_vret hZ 28 rfl ?_
    first
      | exact hR _ (by rw [if_pos (by omega)]; rfl)
      | exact hR _ (by rw [if_neg (by omega)])
  · refine w_aload hZ 4 5 rfl rfl rfl ?_
    refine w_getr hZ 5 6 rfl rfl rfl rfl rfl ?_
    refine w_aload hZ 6 7 rfl rfl rfl ?_
    refine w_geti hZ 7 8 rfl rfl rfl rfl rfl ?_
    refine w_iload hZ 8 9 rfl rfl rfl ?_
    refine w_iast hZ 9 10 rfl rfl rfl (by omega) (by omega) ?_
    refine w_aload hZ 10 11 rfl rfl rfl ?_
    refine w_getr hZ 11 12 rfl rfl rfl rfl rfl ?_
    refine w_aload hZ 12 13 rfl rfl rfl ?_
    refine w_getiv hZ 13 14 rfl rfl rfl rfl rfl (v := M 1 4) rfl ?_
    refine w_iload hZ 14 15 rfl rfl rfl ?_
    refine w_iast hZ 15 16 rfl rfl rfl (by omega) (by omega) ?_
    refine w_aload hZ 16 17 rfl rfl rfl ?_
    refine w_getr hZ 17 18 rfl rfl rfl rfl rfl ?_
    refine w_aload hZ 18 19 rfl rfl rfl ?_
    refine w_getiv hZ 19 20 rfl rfl rfl rfl rfl (v := M 1 4) rfl ?_
    refine w_iload hZ 20 21 rfl rfl rfl ?_
    refine w_iast hZ 21 22 rfl rfl rfl (by omega) (by omega) ?_
    refine w_aload hZ 22 23 rfl rfl rfl ?_
    refine w_dup hZ 23 24 rfl rfl rfl ?_
    refine w_getiv hZ 24 25 rfl rfl rfl rfl rfl (v := M 1 4) rfl ?_
    refine w_const hZ 25 26 rfl rfl  ?_
    refine w_add hZ 26 27 rfl rfl (by unfold InR; omega) ?_
    refine w_puti hZ 27 28 rfl rfl rfl rfl rfl ?_
    refine w_vret hZ 28 rfl ?_
    first
      | exact hR _ (by rw [if_pos (by omega)]; rfl)
      | exact hR _ (by rw [if_neg (by omega)])
set_option maxRecDepth 100000 in
set_option maxHeartbeats 4000000 in
theorem ao_X0_addRule : AllOk yX0_addRule.cls cX0_addRule 4 0 0 none none pc_X0_addRule 0 cd_X0_addRule := ⟨s_aload_n (k := 0) (by decide +kernel) rfl rfl, ⟨s_get (C := RX0) (T := TX0) (N := 8) rfl inT0 (by decide) tw_1_36 (by decide +kernel) rfl, ⟨s_bipush (by decide +kernel) rfl ⟨by decide, by decide⟩ (by decide +kernel), ⟨s_cge (off := (43)) (by decide +kernel) rfl rfl, ⟨s_aload_n (k := 0) (by decide +kernel) rfl rfl, ⟨s_get (C := RX0) (T := TX0) (N := 8) rfl inT0 (by decide) tw_1_25 (by decide +kernel) rfl, ⟨s_aload_n (k := 0) (by decide +kernel) rfl rfl, ⟨s_get (C := RX0) (T := TX0) (N := 8) rfl inT0 (by decide) tw_1_36 (by decide +kernel) rfl, ⟨s_iload_n (k := 1) (by decide +kernel) rfl rfl, ⟨s_iast (by decide +kernel) rfl, ⟨s_aload_n (k := 0) (by decide +kernel) rfl rfl, ⟨s_get (C := RX0) (T := TX0) (N := 8) rfl inT0 (by decide) tw_1_29 (by decide +kernel) rfl, ⟨s_aload_n (k := 0) (by decide +kernel) rfl rfl, ⟨s_get (C := RX0) (T := TX0) (N := 8) rfl inT0 (by decide) tw_1_36 (by decide +kernel) rfl, ⟨s_iload_n (k := 2) (by decide +kernel) rfl rfl, ⟨s_iast (by decide +kernel) rfl, ⟨s_aload_n (k := 0) (by decide +kernel) rfl rfl, ⟨s_get (C := RX0) (T := TX0) (N := 8) rfl inT0 (by decide) tw_1_32 (by decide +kernel) rfl, ⟨s_aload_n (k := 0) (by decide +kernel) rfl rfl, ⟨s_get (C := RX0) (T := TX0) (N := 8) rfl inT0 (by decide) tw_1_36 (by decide +kernel) rfl, ⟨s_iload_n (k := 3) (by decide +kernel) rfl rfl, ⟨s_iast (by decide +kernel) rfl, ⟨s_aload_n (k := 0) (by decide +kernel) rfl rfl, ⟨s_dup (by decide +kernel) rfl, ⟨s_get (C := RX0) (T := TX0) (N := 8) rfl inT0 (by decide) tw_1_36 (by decide +kernel) rfl, ⟨s_iconst (by decide +kernel) rfl ⟨by decide, by decide⟩, ⟨s_add (by decide +kernel) rfl, ⟨s_puti (C := RX0) (T := TX0) (N := 8) (tyf := tyX0) rfl inT0 tyX0_ok nmX0 (by decide) rfl rfl tw_1_36 (by decide +kernel) rfl, ⟨s_vret rfl (by decide +kernel), trivial⟩⟩⟩⟩⟩⟩⟩⟩⟩⟩⟩⟩⟩⟩⟩⟩⟩⟩⟩⟩⟩⟩⟩⟩⟩⟩⟩⟩⟩
theorem ct_X0_addRule : Ctr yX0_addRule cX0_addRule 4 none 0 0 sp_X0_addRule := by
  refine ctr_of (by decide +kernel) ao_X0_addRule rfl ?_
  rintro av M Ret ⟨c, e, k, rfl, hp, hR⟩ hok hM
  exact ⟨Nat.le_of_ble_eq_true rfl, fun Z hZ => b_X0_addRule  c (hok _ (List.mem_of_getElem? (i := 1) rfl)) e (hok _ (List.mem_of_getElem? (i := 2) rfl)) k (hok _ (List.mem_of_getElem? (i := 3) rfl)) M Ret hp hR hM Z hZ⟩
def sp_X0_addSign : SP := fun av M Ret => ∃ s : Int, av = [mr 1, mi s] ∧ (Bx M) ∧ (∀ M2 : Mem, (M2 = if M 1 5 < 120 then addS M s else M) → Ret none M2)
theorem k_X0_addSign {code : List Sem} {Z : KZ} {Ret : KR} {ls : List (Option MV)} {M : Mem} {r : List MV} (hZ : Sim code Z Ret) (ip np : Nat) {s : Int} (hc : code[ip]? = some (I_callV 0 1 sp_X0_addSign)) (hn : ip + 1 = np) (h3 : catS r ≤ 8)  (hp : Bx M) (kz : ∀ M2 : Mem, (M2 = if M 1 5 < 120 then addS M s else M) → Z np ls r M2) : Z ip ls (mi s :: mr 1 :: r) M := w_callV1 hZ ip np hc hn rfl rfl h3 ⟨_, rfl, hp, fun M2 h => kz M2 h⟩
def cd_X0_addSign : List Sem := [I_aload 0, I_get 0 5, I_const (120), I_cge 16, I_aload 0, I_get 0 3, I_aload 0, I_get 0 5, I_iload 1, I_iast, I_aload 0, I_dup, I_get 0 5, I_const (1), I_add, I_puti 0 5, I_vret]
def pc_X0_addSign : List Nat := [0, 1, 4, 6, 9, 10, 13, 14, 17, 18, 19, 20, 21, 24, 25, 26, 29]
set_option maxRecDepth 100000 in
set_option maxHeartbeats 4000000 in
theorem b_X0_addSign (s : Int) (i_s : InR s) (M : Mem) (Ret : KR) (hp : Bx M) (hR : ∀ M2 : Mem, (M2 = if M 1 5 < 120 then addS M s else M) → Ret none M2) (hM : MOk M) (Z : KZ) (hZ : Sim cd_X0_addSign Z Ret) : Z 0 [some (mr 1), some (mi s)] [] M := by
  obtain ⟨b1, b2, b3, b4⟩ := hp
  refine w_aload hZ 0 1 rfl rfl rfl ?_
  refine w_geti hZ 1 2 rfl rfl rfl rfl rfl ?_
  refine w_const hZ 2 3 rfl rfl  ?_
  refine w_cge hZ 3 4 rfl rfl (fun c3 => ?_) (fun c3 => ?_)
  · refine w_vret hZ 16 rfl ?_
    first
      | exact hR _ (by rw [if_pos (by omega)]; rfl)
      | exact hR _ (by rw [if_neg (by omega)])
  · refine w_aload hZ 4 5 rfl rfl rfl ?_
    refine w_getr hZ 5 6 rfl rfl rfl rfl rfl ?_
    refine w_aload hZ 6 7 rfl rfl rfl ?_
    refine w_geti hZ 7 8 rfl rfl rfl rfl rfl ?_
    refine w_iload hZ 8 9 rfl rfl rfl ?_
    refine w_iast hZ 9 10 rfl rfl rfl (by omega) (by omega) ?_
    refine w_aload hZ 10 11 rfl rfl rfl ?_
    refine w_dup hZ 11 12 rfl rfl rfl ?_
    refine w_getiv hZ 12 13 rfl rfl rfl rfl rfl (v := M 1 5) rfl ?_
    refine w_const hZ 13 14 rfl rfl  ?_
    refine w_add hZ 14 15 rfl rfl (by unfold InR; omega) ?_
    refine w_puti hZ 15 16 rfl rfl rfl rfl rfl ?_
    refine w_vret hZ 16 rfl ?_
    first
      | exact hR _ (by rw [if_pos (by omega)]; rfl)
      | exact hR _ (by rw [if_neg (by omega)])
set_option maxRecDepth 100000 in
set_option maxHeartbeats 4000000 in
theorem ao_X0_addSign : AllOk yX0_addSign.cls cX0_addSign 2 0 0 none none pc_X0_addSign 0 cd_X0_addSign := ⟨s_aload_n (k := 0) (by decide +kernel) rfl rfl, ⟨s_get (C := RX0) (T := TX0) (N := 8) rfl inT0 (by decide) tw_1_38 (by decide +kernel) rfl, ⟨s_bipush (by decide +kernel) rfl ⟨by decide, by decide⟩ (by decide +kernel), ⟨s_cge (off := (23)) (by decide +kernel) rfl rfl, ⟨s_aload_n (k := 0) (by decide +kernel) rfl rfl, ⟨s_get (C := RX0) (T := TX0) (N := 8) rfl inT0 (by decide) tw_1_35 (by decide +kernel) rfl, ⟨s_aload_n (k := 0) (by decide +kernel) rfl rfl, ⟨s_get (C := RX0) (T := TX0) (N := 8) rfl inT0 (by decide) tw_1_38 (by decide +kernel) rfl, ⟨s_iload_n (k := 1) (by decide +kernel) rfl rfl, ⟨s_iast (by decide +kernel) rfl, ⟨s_aload_n (k := 0) (by decide +kernel) rfl rfl, ⟨s_dup (by decide +kernel) rfl, ⟨s_get (C := RX0) (T := TX0) (N := 8) rfl inT0 (by decide) tw_1_38 (by decide +kernel) rfl, ⟨s_iconst (by decide +kernel) rfl ⟨by decide, by decide⟩, ⟨s_add (by decide +kernel) rfl, ⟨s_puti (C := RX0) (T := TX0) (N := 8) (tyf := tyX0) rfl inT0 tyX0_ok nmX0 (by decide) rfl rfl tw_1_38 (by decide +kernel) rfl, ⟨s_vret rfl (by decide +kernel), trivial⟩⟩⟩⟩⟩⟩⟩⟩⟩⟩⟩⟩⟩⟩⟩⟩⟩
theorem ct_X0_addSign : Ctr yX0_addSign cX0_addSign 2 none 0 0 sp_X0_addSign := by
  refine ctr_of (by decide +kernel) ao_X0_addSign rfl ?_
  rintro av M Ret ⟨s, rfl, hp, hR⟩ hok hM
  exact ⟨Nat.le_of_ble_eq_true rfl, fun Z hZ => b_X0_addSign  s (hok _ (List.mem_of_getElem? (i := 1) rfl)) M Ret hp hR hM Z hZ⟩
def sp_X0_removeRule : SP := fun av M Ret => ∃ k : Int, av = [mr 1, mi k] ∧ (Bx M ∧ 0 ≤ k ∧ k < M 1 4) ∧ (∀ M2 : Mem, (remR k M M2) → Ret none M2)
theorem k_X0_removeRule {code : List Sem} {Z : KZ} {Ret : KR} {ls : List (Option MV)} {M : Mem} {r : List MV} (hZ : Sim code Z Ret) (ip np : Nat) {k : Int} (hc : code[ip]? = some (I_callV 0 1 sp_X0_removeRule)) (hn : ip + 1 = np) (h3 : catS r ≤ 8)  (hp : Bx M ∧ 0 ≤ k ∧ k < M 1 4) (kz : ∀ M2 : Mem, (remR k M M2) → Z np ls r M2) : Z ip ls (mi k :: mr 1 :: r) M := w_callV1 hZ ip np hc hn rfl rfl h3 ⟨_, rfl, hp, fun M2 h => kz M2 h⟩
def cd_X0_removeRule : List Sem := [I_iload 1, I_istore 2, I_iload 2, I_const (1), I_add, I_aload 0, I_get 0 4, I_cge 40, I_aload 0, I_get 0 0, I_iload 2, I_aload 0, I_get 0 0, I_iload 2, I_const (1), I_add, I_iald, I_iast, I_aload 0, I_get 0 1, I_iload 2, I_aload 0, I_get 0 1, I_iload 2, I_const (1), I_add, I_iald, I_iast, I_aload 0, I_get 0 2, I_iload 2, I_aload 0, I_get 0 2, I_iload 2, I_const (1), I_add, I_iald, I_iast, I_iinc 2 (1), I_goto 2, I_aload 0, I_dup, I_get 0 4, I_const (1), I_sub, I_puti 0 4, I_vret]
def pc_X0_removeRule : List Nat := [0, 1, 2, 3, 4, 5, 6, 9, 12, 13, 16, 17, 18, 21, 22, 23, 24, 25, 26, 27, 30, 31, 32, 35, 36, 37, 38, 39, 40, 41, 44, 45, 46, 49, 50, 51, 52, 53, 54, 57, 60, 61, 62, 65, 66, 67, 70]
set_option maxRecDepth 100000 in
set_option maxHeartbeats 4000000 in
theorem b_X0_removeRule (k : Int) (i_k : InR k) (M : Mem) (Ret : KR) (hp : Bx M ∧ 0 ≤ k ∧ k < M 1 4) (hR : ∀ M2 : Mem, (remR k M M2) → Ret none M2) (hM : MOk M) (Z : KZ) (hZ : Sim cd_X0_removeRule Z Ret) : Z 0 [some (mr 1), some (mi k), none] [] M := by
  obtain ⟨⟨b1, b2, b3, b4⟩, k0, k1⟩ := hp
  have loop : ∀ (d : Nat) (i : Int) (N : Mem), d = (M 1 4 - i).toNat → k ≤ i → i < M 1 4 → (∀ (f : Nat), f = 2 ∨ f = 3 ∨ f = 4 → ∀ j : Nat, N f j = if k ≤ j ∧ (j : Int) < i then M f (j + 1) else M f j) → (∀ o, o = 0 ∨ o = 1 ∨ 5 ≤ o → N o = M o) → Z 2 [some (mr 1), some (mi k), some (mi i)] [] N := by
    intro d
    induction d using Nat.strongRecOn with
    | ind d ih =>
      intro i N hd h0 h1 hf ho
      have e1 : N 1 = M 1 := ho 1 (by omega)
      have e14 : N 1 4 = M 1 4 := by rw [e1]
      refine w_iload hZ 2 3 rfl rfl rfl ?_
      refine w_const hZ 3 4 rfl rfl  ?_
      refine w_add hZ 4 5 rfl rfl (by unfold InR; omega) ?_
      refine w_aload hZ 5 6 rfl rfl rfl ?_
      refine w_getiv hZ 6 7 rfl rfl rfl rfl rfl (v := M 1 4) e14 ?_
      refine w_cge hZ 7 8 rfl rfl (fun c7 => ?_) (fun c7 => ?_)
      · refine w_aload hZ 40 41 rfl rfl rfl ?_
        refine w_dup hZ 41 42 rfl rfl rfl ?_
        refine w_getiv hZ 42 43 rfl rfl rfl rfl rfl (v := M 1 4) e14 ?_
        refine w_const hZ 43 44 rfl rfl  ?_
        refine w_sub hZ 44 45 rfl rfl (by unfold InR; omega) ?_
        refine w_puti hZ 45 46 rfl rfl rfl rfl rfl ?_
        refine w_vret hZ 46 rfl ?_
        refine hR _ ⟨fun j => ?_, fun j => ?_, fun j => ?_, ?_, fun o ho2 => ?_⟩
        · show N 2 j = _
          rw [hf 2 (by omega) j]
          congr 1
          simp; omega
        · show N 3 j = _
          rw [hf 3 (by omega) j]
          congr 1
          simp; omega
        · show N 4 j = _
          rw [hf 4 (by omega) j]
          congr 1
          simp; omega
        · show rup (N 1) 4 _ = _
          rw [e1]
        · have n1 : ¬ o = 1 := by omega
          rw [← ho o (by omega)]
          funext j
          simp [mup_at, n1]
      · refine w_aload hZ 8 9 rfl rfl rfl ?_
        refine w_getr hZ 9 10 rfl rfl rfl rfl rfl ?_
        refine w_iload hZ 10 11 rfl rfl rfl ?_
        refine w_aload hZ 11 12 rfl rfl rfl ?_
        refine w_getr hZ 12 13 rfl rfl rfl rfl rfl ?_
        refine w_iload hZ 13 14 rfl rfl rfl ?_
        refine w_const hZ 14 15 rfl rfl  ?_
        refine w_add hZ 15 16 rfl rfl (by unfold InR; omega) ?_
        refine w_ialdv hZ 16 17 rfl rfl rfl (by omega) (by omega) (v := N 2 (i.toNat + 1)) (by congr 1; omega) ?_
        refine w_iast hZ 17 18 rfl rfl rfl (by omega) (by omega) ?_
        refine w_aload hZ 18 19 rfl rfl rfl ?_
        refine w_getr hZ 19 20 rfl rfl rfl rfl rfl ?_
        refine w_iload hZ 20 21 rfl rfl rfl ?_
        refine w_aload hZ 21 22 rfl rfl rfl ?_
        refine w_getr hZ 22 23 rfl rfl rfl rfl rfl ?_
        refine w_iload hZ 23 24 rfl rfl rfl ?_
        refine w_const hZ 24 25 rfl rfl  ?_
        refine w_add hZ 25 26 rfl rfl (by unfold InR; omega) ?_
        refine w_ialdv hZ 26 27 rfl rfl rfl (by omega) (by omega) (v := N 3 (i.toNat + 1)) (by show N 3 _ = _; congr 1; omega) ?_
        refine w_iast hZ 27 28 rfl rfl rfl (by omega) (by omega) ?_
        refine w_aload hZ 28 29 rfl rfl rfl ?_
        refine w_getr hZ 29 30 rfl rfl rfl rfl rfl ?_
        refine w_iload hZ 30 31 rfl rfl rfl ?_
        refine w_aload hZ 31 32 rfl rfl rfl ?_
        refine w_getr hZ 32 33 rfl rfl rfl rfl rfl ?_
        refine w_iload hZ 33 34 rfl rfl rfl ?_
        refine w_const hZ 34 35 rfl rfl  ?_
        refine w_add hZ 35 36 rfl rfl (by unfold InR; omega) ?_
        refine w_ialdv hZ 36 37 rfl rfl rfl (by omega) (by omega) (v := N 4 (i.toNat + 1)) (by show N 4 _ = _; congr 1; omega) ?_
        refine w_iast hZ 37 38 rfl rfl rfl (by omega) (by omega) ?_
        refine w_in3_2 hZ 38 39 rfl rfl rfl (by unfold InR; omega) ?_
        refine w_goto hZ 39 2 rfl ?_
        refine ih ((M 1 4 - (i + 1)).toNat) (by omega) (i + 1) _ rfl (by omega) (by omega) (fun f hf2 j => ?_) (fun o ho2 => ?_)
        · have q := hf f hf2 j
          have q1 := hf f hf2 (i.toNat + 1)
          rw [if_neg (by omega)] at q1
          by_cases hj : j = i.toNat
          · subst hj
            rw [if_pos (by omega)]
            rcases hf2 with rfl | rfl | rfl <;> simp [mup_at] <;> exact q1
          · rcases hf2 with rfl | rfl | rfl <;> simp [mup_at, hj] <;> rw [q] <;> congr 1 <;> simp <;> omega
        · rw [← ho o ho2]
          funext j
          have n2 : ¬ o = 2 := by omega
          have n3 : ¬ o = 3 := by omega
          have n4 : ¬ o = 4 := by omega
          simp [mup_at, n2, n3, n4]
  refine w_iload hZ 0 1 rfl rfl rfl ?_
  refine w_st3_2 hZ 1 2 rfl rfl rfl ?_
  exact loop _ k M rfl (by omega) k1 (fun f _ j => by rw [if_neg (by omega)]) (fun o _ => rfl)
set_option maxRecDepth 100000 in
set_option maxHeartbeats 4000000 in
theorem ao_X0_removeRule : AllOk yX0_removeRule.cls cX0_removeRule 3 0 0 none none pc_X0_removeRule 0 cd_X0_removeRule := ⟨s_iload_n (k := 1) (by decide +kernel) rfl rfl, ⟨s_istore_n (k := 2) (by decide +kernel) rfl rfl, ⟨s_iload_n (k := 2) (by decide +kernel) rfl rfl, ⟨s_iconst (by decide +kernel) rfl ⟨by decide, by decide⟩, ⟨s_add (by decide +kernel) rfl, ⟨s_aload_n (k := 0) (by decide +kernel) rfl rfl, ⟨s_get (C := RX0) (T := TX0) (N := 8) rfl inT0 (by decide) tw_1_36 (by decide +kernel) rfl, ⟨s_cge (off := (51)) (by decide +kernel) rfl rfl, ⟨s_aload_n (k := 0) (by decide +kernel) rfl rfl, ⟨s_get (C := RX0) (T := TX0) (N := 8) rfl inT0 (by decide) tw_1_25 (by decide +kernel) rfl, ⟨s_iload_n (k := 2) (by decide +kernel) rfl rfl, ⟨s_aload_n (k := 0) (by decide +kernel) rfl rfl, ⟨s_get (C := RX0) (T := TX0) (N := 8) rfl inT0 (by decide) tw_1_25 (by decide +kernel) rfl, ⟨s_iload_n (k := 2) (by decide +kernel) rfl rfl, ⟨s_iconst (by decide +kernel) rfl ⟨by decide, by decide⟩, ⟨s_add (by decide +kernel) rfl, ⟨s_iald (by decide +kernel) rfl, ⟨s_iast (by decide +kernel) rfl, ⟨s_aload_n (k := 0) (by decide +kernel) rfl rfl, ⟨s_get (C := RX0) (T := TX0) (N := 8) rfl inT0 (by decide) tw_1_29 (by decide +kernel) rfl, ⟨s_iload_n (k := 2) (by decide +kernel) rfl rfl, ⟨s_aload_n (k := 0) (by decide +kernel) rfl rfl, ⟨s_get (C := RX0) (T := TX0) (N := 8) rfl inT0 (by decide) tw_1_29 (by decide +kernel) rfl, ⟨s_iload_n (k := 2) (by decide +kernel) rfl rfl, ⟨s_iconst (by decide +kernel) rfl ⟨by decide, by decide⟩, ⟨s_add (by decide +kernel) rfl, ⟨s_iald (by decide +kernel) rfl, ⟨s_iast (by decide +kernel) rfl, ⟨s_aload_n (k := 0) (by decide +kernel) rfl rfl, ⟨s_get (C := RX0) (T := TX0) (N := 8) rfl inT0 (by decide) tw_1_32 (by decide +kernel) rfl, ⟨s_iload_n (k := 2) (by decide +kernel) rfl rfl, ⟨s_aload_n (k := 0) (by decide +kernel) rfl rfl, ⟨s_get (C := RX0) (T := TX0) (N := 8) rfl inT0 (by decide) tw_1_32 (by decide +kernel) rfl, ⟨s_iload_n (k := 2) (by decide +kernel) rfl rfl, ⟨s_iconst (by decide +kernel) rfl ⟨by decide, by decide⟩, ⟨s_add (by decide +kernel) rfl, ⟨s_iald (by decide +kernel) rfl, ⟨s_iast (by decide +kernel) rfl, ⟨s_iinc (by decide +kernel) rfl, ⟨s_goto (off := (-55)) (by decide +kernel) rfl, ⟨s_aload_n (k := 0) (by decide +kernel) rfl rfl, ⟨s_dup (by decide +kernel) rfl, ⟨s_get (C := RX0) (T := TX0) (N := 8) rfl inT0 (by decide) tw_1_36 (by decide +kernel) rfl, ⟨s_iconst (by decide +kernel) rfl ⟨by decide, by decide⟩, ⟨s_sub (by decide +kernel) rfl, ⟨s_puti (C := RX0) (T := TX0) (N := 8) (tyf := tyX0) rfl inT0 tyX0_ok nmX0 (by decide) rfl rfl tw_1_36 (by decide +kernel) rfl, ⟨s_vret rfl (by decide +kernel), trivial⟩⟩⟩⟩⟩⟩⟩⟩⟩⟩⟩⟩⟩⟩⟩⟩⟩⟩⟩⟩⟩⟩⟩⟩⟩⟩⟩⟩⟩⟩⟩⟩⟩⟩⟩⟩⟩⟩⟩⟩⟩⟩⟩⟩⟩⟩⟩
theorem ct_X0_removeRule : Ctr yX0_removeRule cX0_removeRule 3 none 0 0 sp_X0_removeRule := by
  refine ctr_of (by decide +kernel) ao_X0_removeRule rfl ?_
  rintro av M Ret ⟨k, rfl, hp, hR⟩ hok hM
  exact ⟨Nat.le_of_ble_eq_true rfl, fun Z hZ => b_X0_removeRule  k (hok _ (List.mem_of_getElem? (i := 1) rfl)) M Ret hp hR hM Z hZ⟩
def sp_X0_signAt : SP := fun av M Ret => ∃ i : Int, av = [mr 1, mi i] ∧ (Bx M) ∧ (Ret (some (mi (SX M i))) M)
theorem k_X0_signAt {code : List Sem} {Z : KZ} {Ret : KR} {ls : List (Option MV)} {M : Mem} {r : List MV} (hZ : Sim code Z Ret) (ip np : Nat) {i : Int} (hc : code[ip]? = some (I_callV 0 1 sp_X0_signAt)) (hn : ip + 1 = np) (h3 : catS r ≤ 8)  (hp : Bx M) (kz : Z np ls (mi (SX M i) :: r) M) : Z ip ls (mi i :: mr 1 :: r) M := w_callV1 hZ ip np hc hn rfl rfl h3 ⟨_, rfl, hp, kz⟩
def cd_X0_signAt : List Sem := [I_iload 1, I_iflt 11, I_iload 1, I_aload 0, I_get 0 5, I_cge 11, I_aload 0, I_get 0 3, I_iload 1, I_iald, I_goto 12, I_const (-1), I_iret]
def pc_X0_signAt : List Nat := [0, 1, 4, 5, 6, 9, 12, 13, 16, 17, 18, 21, 22]
set_option maxRecDepth 100000 in
set_option maxHeartbeats 4000000 in
theorem b_X0_signAt (i : Int) (i_i : InR i) (M : Mem) (Ret : KR) (hp : Bx M) (hR : Ret (some (mi (SX M i))) M) (hM : MOk M) (Z : KZ) (hZ : Sim cd_X0_signAt Z Ret) : Z 0 [some (mr 1), some (mi i)] [] M := by
  obtain ⟨b1, b2, b3, b4⟩ := hp
  refine w_iload hZ 0 1 rfl rfl rfl ?_
  refine w_iflt hZ 1 2 rfl rfl (fun c1 => ?_) (fun c1 => ?_)
  · refine w_const hZ 11 12 rfl rfl  ?_
    refine w_iret hZ 12 rfl ?_
    exact ret_i hR (by unfold SX sgn; split <;> first | rfl | omega)
  · refine w_iload hZ 2 3 rfl rfl rfl ?_
    refine w_aload hZ 3 4 rfl rfl rfl ?_
    refine w_geti hZ 4 5 rfl rfl rfl rfl rfl ?_
    refine w_cge hZ 5 6 rfl rfl (fun c5 => ?_) (fun c5 => ?_)
    · refine w_const hZ 11 12 rfl rfl  ?_
      refine w_iret hZ 12 rfl ?_
      exact ret_i hR (by unfold SX sgn; split <;> first | rfl | omega)
    · refine w_aload hZ 6 7 rfl rfl rfl ?_
      refine w_getr hZ 7 8 rfl rfl rfl rfl rfl ?_
      refine w_iload hZ 8 9 rfl rfl rfl ?_
      refine w_iald hZ 9 10 rfl rfl rfl (by omega) (by omega) ?_
      refine w_goto hZ 10 12 rfl ?_
      refine w_iret hZ 12 rfl ?_
      exact ret_i hR (by unfold SX sgn; split <;> first | rfl | omega)
set_option maxRecDepth 100000 in
set_option maxHeartbeats 4000000 in
theorem ao_X0_signAt : AllOk yX0_signAt.cls cX0_signAt 2 0 0 (some .int) none pc_X0_signAt 0 cd_X0_signAt := ⟨s_iload_n (k := 1) (by decide +kernel) rfl rfl, ⟨s_iflt (off := (20)) (by decide +kernel) rfl rfl, ⟨s_iload_n (k := 1) (by decide +kernel) rfl rfl, ⟨s_aload_n (k := 0) (by decide +kernel) rfl rfl, ⟨s_get (C := RX0) (T := TX0) (N := 8) rfl inT0 (by decide) tw_1_38 (by decide +kernel) rfl, ⟨s_cge (off := (12)) (by decide +kernel) rfl rfl, ⟨s_aload_n (k := 0) (by decide +kernel) rfl rfl, ⟨s_get (C := RX0) (T := TX0) (N := 8) rfl inT0 (by decide) tw_1_35 (by decide +kernel) rfl, ⟨s_iload_n (k := 1) (by decide +kernel) rfl rfl, ⟨s_iald (by decide +kernel) rfl, ⟨s_goto (off := (4)) (by decide +kernel) rfl, ⟨s_iconst (by decide +kernel) rfl ⟨by decide, by decide⟩, ⟨s_iret rfl (by decide +kernel), trivial⟩⟩⟩⟩⟩⟩⟩⟩⟩⟩⟩⟩⟩
theorem ct_X0_signAt : Ctr yX0_signAt cX0_signAt 2 (some .int) 0 0 sp_X0_signAt := by
  refine ctr_of (by decide +kernel) ao_X0_signAt rfl ?_
  rintro av M Ret ⟨i, rfl, hp, hR⟩ hok hM
  exact ⟨Nat.le_of_ble_eq_true rfl, fun Z hZ => b_X0_signAt  i (hok _ (List.mem_of_getElem? (i := 1) rfl)) M Ret hp hR hM Z hZ⟩
def sp_X0_wordBeginsAt : SP := fun av M Ret => ∃ i : Int, av = [mr 1, mi i] ∧ (Bx M ∧ InR (i - 1)) ∧ (Ret (some (mi (b2i (isLt (SX M i) ∧ ¬ isLt (SX M (i - 1)))))) M)
theorem k_X0_wordBeginsAt {code : List Sem} {Z : KZ} {Ret : KR} {ls : List (Option MV)} {M : Mem} {r : List MV} (hZ : Sim code Z Ret) (ip np : Nat) {i : Int} (hc : code[ip]? = some (I_callV 0 1 sp_X0_wordBeginsAt)) (hn : ip + 1 = np) (h3 : catS r ≤ 8)  (hp : Bx M ∧ InR (i - 1)) (kz : Z np ls (mi (b2i (isLt (SX M i) ∧ ¬ isLt (SX M (i - 1)))) :: r) M) : Z ip ls (mi i :: mr 1 :: r) M := w_callV1 hZ ip np hc hn rfl rfl h3 ⟨_, rfl, hp, kz⟩
def cd_X0_wordBeginsAt : List Sem := [I_aload 0, I_iload 1, I_callV 0 1 sp_X0_signAt, I_callS 1 sp_X6_isOfWord, I_ifeq 14, I_aload 0, I_iload 1, I_const (1), I_sub, I_callV 0 1 sp_X0_signAt, I_callS 1 sp_X6_isOfWord, I_ifne 14, I_const (1), I_goto 15, I_const (0), I_zret]
def pc_X0_wordBeginsAt : List Nat := [0, 1, 2, 5, 8, 11, 12, 13, 14, 15, 18, 21, 24, 25, 28, 29]
set_option maxRecDepth 100000 in
set_option maxHeartbeats 4000000 in
theorem b_X0_wordBeginsAt (i : Int) (i_i : InR i) (M : Mem) (Ret : KR) (hp : Bx M ∧ InR (i - 1)) (hR : Ret (some (mi (b2i (isLt (SX M i) ∧ ¬ isLt (SX M (i - 1)))))) M) (hM : MOk M) (Z : KZ) (hZ : Sim cd_X0_wordBeginsAt Z Ret) : Z 0 [some (mr 1), some (mi i)] [] M := by
  obtain ⟨hb, hi⟩ := hp
  refine w_aload hZ 0 1 rfl rfl rfl ?_
  refine w_iload hZ 1 2 rfl rfl rfl ?_
  refine k_X0_signAt hZ 2 3 rfl rfl (Nat.le_of_ble_eq_true rfl) hb ?_
  refine k_X6_isOfWord hZ 3 4 rfl rfl (Nat.le_of_ble_eq_true rfl)  ?_
  refine w_ifeq hZ 4 5 rfl rfl (fun c4 => ?_) (fun c4 => ?_)
  · refine w_const hZ 14 15 rfl rfl  ?_
    refine w_zret hZ 15 rfl (by omega) ?_
    exact ret_i hR (by (first | refine b2i_t ?_ | refine b2i_f ?_); (try replace c4 := b2i_z.mp c4); (try replace c4 := b2i_e.mp c4); (try replace c11 := b2i_z.mp c11); (try replace c11 := b2i_e.mp c11); simp [*])
  · refine w_aload hZ 5 6 rfl rfl rfl ?_
    refine w_iload hZ 6 7 rfl rfl rfl ?_
    refine w_const hZ 7 8 rfl rfl  ?_
    refine w_sub hZ 8 9 rfl rfl hi ?_
    refine k_X0_signAt hZ 9 10 rfl rfl (Nat.le_of_ble_eq_true rfl) hb ?_
    refine k_X6_isOfWord hZ 10 11 rfl rfl (Nat.le_of_ble_eq_true rfl)  ?_
    refine w_ifne hZ 11 12 rfl rfl (fun c11 => ?_) (fun c11 => ?_)
    · refine w_const hZ 14 15 rfl rfl  ?_
      refine w_zret hZ 15 rfl (by omega) ?_
      exact ret_i hR (by (first | refine b2i_t ?_ | refine b2i_f ?_); (try replace c4 := b2i_z.mp c4); (try replace c4 := b2i_e.mp c4); (try replace c11 := b2i_z.mp c11); (try replace c11 := b2i_e.mp c11); simp [*])
    · refine w_const hZ 12 13 rfl rfl  ?_
      refine w_goto hZ 13 15 rfl ?_
      refine w_zret hZ 15 rfl (by omega) ?_
      exact ret_i hR (by (first | refine b2i_t ?_ | refine b2i_f ?_); (try replace c4 := b2i_z.mp c4); (try replace c4 := b2i_e.mp c4); (try replace c11 := b2i_z.mp c11); (try replace c11 := b2i_e.mp c11); simp [*])
set_option maxRecDepth 100000 in
set_option maxHeartbeats 4000000 in
theorem ao_X0_wordBeginsAt : AllOk yX0_wordBeginsAt.cls cX0_wordBeginsAt 2 2 40 (some .boolean) none pc_X0_wordBeginsAt 0 cd_X0_wordBeginsAt := ⟨s_aload_n (k := 0) (by decide +kernel) rfl rfl, ⟨s_iload_n (k := 1) (by decide +kernel) rfl rfl, ⟨s_callV (C := RX0) (T := TX0) (N := 8) rfl ct_X0_signAt (by decide) (by decide) ⟨rfl, by decide +kernel, by decide +kernel, by decide +kernel⟩ tw_2_129 tw_2_130 tw_2_131 tw_1_2 tw_2_132 (by decide +kernel) rfl, ⟨s_callN ct_X6_isOfWord (by decide) (by decide) ⟨by decide +kernel, by decide +kernel, by decide +kernel⟩ ni_4 tw_2_87 tw_1_1 tw_2_88 (by decide +kernel) rfl, ⟨s_ifeq (off := (20)) (by decide +kernel) rfl rfl, ⟨s_aload_n (k := 0) (by decide +kernel) rfl rfl, ⟨s_iload_n (k := 1) (by decide +kernel) rfl rfl, ⟨s_iconst (by decide +kernel) rfl ⟨by decide, by decide⟩, ⟨s_sub (by decide +kernel) rfl, ⟨s_callV (C := RX0) (T := TX0) (N := 8) rfl ct_X0_signAt (by decide) (by decide) ⟨rfl, by decide +kernel, by decide +kernel, by decide +kernel⟩ tw_2_129 tw_2_130 tw_2_131 tw_1_2 tw_2_132 (by decide +kernel) rfl, ⟨s_callN ct_X6_isOfWord (by decide) (by decide) ⟨by decide +kernel, by decide +kernel, by decide +kernel⟩ ni_4 tw_2_87 tw_1_1 tw_2_88 (by decide +kernel) rfl, ⟨s_ifne (off := (7)) (by decide +kernel) rfl rfl, ⟨s_iconst (by decide +kernel) rfl ⟨by decide, by decide⟩, ⟨s_goto (off := (4)) (by decide +kernel) rfl, ⟨s_iconst (by decide +kernel) rfl ⟨by decide, by decide⟩, ⟨s_zret rfl (by decide +kernel), trivial⟩⟩⟩⟩⟩⟩⟩⟩⟩⟩⟩⟩⟩⟩⟩⟩
theorem ct_X0_wordBeginsAt : Ctr yX0_wordBeginsAt cX0_wordBeginsAt 2 (some .boolean) 2 40 sp_X0_wordBeginsAt := by
  refine ctr_of (by decide +kernel) ao_X0_wordBeginsAt rfl ?_
  rintro av M Ret ⟨i, rfl, hp, hR⟩ hok hM
  exact ⟨Nat.le_of_ble_eq_true rfl, fun Z hZ => b_X0_wordBeginsAt  i (hok _ (List.mem_of_getElem? (i := 1) rfl)) M Ret hp hR hM Z hZ⟩
def sp_X0_endOfWord : SP := fun av M Ret => ∃ b : Int, av = [mr 1, mi b] ∧ (Bx M ∧ 0 ≤ b ∧ b ≤ M 1 5) ∧ (Ret (some (mi (we (M 1 5) (SX M) b))) M)
theorem k_X0_endOfWord {code : List Sem} {Z : KZ} {Ret : KR} {ls : List (Option MV)} {M : Mem} {r : List MV} (hZ : Sim code Z Ret) (ip np : Nat) {b : Int} (hc : code[ip]? = some (I_callV 0 1 sp_X0_endOfWord)) (hn : ip + 1 = np) (h3 : catS r ≤ 8)  (hp : Bx M ∧ 0 ≤ b ∧ b ≤ M 1 5) (kz : Z np ls (mi (we (M 1 5) (SX M) b) :: r) M) : Z ip ls (mi b :: mr 1 :: r) M := w_callV1 hZ ip np hc hn rfl rfl h3 ⟨_, rfl, hp, kz⟩
def cd_X0_endOfWord : List Sem := [I_iload 1, I_istore 2, I_iload 2, I_aload 0, I_get 0 5, I_cge 15, I_aload 0, I_iload 2, I_callV 0 1 sp_X0_signAt, I_callS 1 sp_X6_isOfWord, I_ifne 13, I_iload 2, I_iret, I_iinc 2 (1), I_goto 2, I_aload 0, I_get 0 5, I_iret]
def pc_X0_endOfWord : List Nat := [0, 1, 2, 3, 4, 7, 10, 11, 12, 15, 18, 21, 22, 23, 26, 29, 30, 33]
set_option maxRecDepth 100000 in
set_option maxHeartbeats 4000000 in
theorem b_X0_endOfWord (b : Int) (i_b : InR b) (M : Mem) (Ret : KR) (hp : Bx M ∧ 0 ≤ b ∧ b ≤ M 1 5) (hR : Ret (some (mi (we (M 1 5) (SX M) b))) M) (hM : MOk M) (Z : KZ) (hZ : Sim cd_X0_endOfWord Z Ret) : Z 0 [some (mr 1), some (mi b), none] [] M := by
  obtain ⟨hb, k0, k1⟩ := hp
  have hb' := hb
  obtain ⟨b1, b2, b3, b4⟩ := hb'
  have loop : ∀ (d : Nat) (i : Int), d = (M 1 5 - i).toNat → b ≤ i → i ≤ M 1 5 → (∀ j : Int, b ≤ j → j < i → isLt (SX M j)) → Z 2 [some (mr 1), some (mi b), some (mi i)] [] M := by
    intro d
    induction d using Nat.strongRecOn with
    | ind d ih =>
      intro i hd h0 h1 hj
      refine w_iload hZ 2 3 rfl rfl rfl ?_
      refine w_aload hZ 3 4 rfl rfl rfl ?_
      refine w_geti hZ 4 5 rfl rfl rfl rfl rfl ?_
      refine w_cge hZ 5 6 rfl rfl (fun c5 => ?_) (fun c5 => ?_)
      · refine w_aload hZ 15 16 rfl rfl rfl ?_
        refine w_geti hZ 16 17 rfl rfl rfl rfl rfl ?_
        refine w_iret hZ 17 rfl ?_
        exact ret_i hR (we_eq k1 (Int.le_refl _) (SX_n M) (fun j a q => hj j a (by omega)) (SX_n M))
      · refine w_aload hZ 6 7 rfl rfl rfl ?_
        refine w_iload hZ 7 8 rfl rfl rfl ?_
        refine k_X0_signAt hZ 8 9 rfl rfl (Nat.le_of_ble_eq_true rfl) hb ?_
        refine k_X6_isOfWord hZ 9 10 rfl rfl (Nat.le_of_ble_eq_true rfl)  ?_
        refine w_ifne hZ 10 11 rfl rfl (fun c10 => ?_) (fun c10 => ?_)
        · refine w_in3_2 hZ 13 14 rfl rfl rfl (by unfold InR; omega) ?_
          refine w_goto hZ 14 2 rfl ?_
          refine ih ((M 1 5 - (i + 1)).toNat) (by omega) (i + 1) rfl (by omega) (by omega) (fun j a q => ?_)
          by_cases e : j = i
          · rw [e]; exact b2i_e.mp c10
          · exact hj j a (by omega)
        · refine w_iload hZ 11 12 rfl rfl rfl ?_
          refine w_iret hZ 12 rfl ?_
          exact ret_i hR (we_eq h0 h1 (SX_n M) hj (b2i_z.mp c10))
  refine w_iload hZ 0 1 rfl rfl rfl ?_
  refine w_st3_2 hZ 1 2 rfl rfl rfl ?_
  exact loop _ b rfl (by omega) (by omega) (fun j a q => by omega)
set_option maxRecDepth 100000 in
set_option maxHeartbeats 4000000 in
theorem ao_X0_endOfWord : AllOk yX0_endOfWord.cls cX0_endOfWord 3 2 40 (some .int) none pc_X0_endOfWord 0 cd_X0_endOfWord := ⟨s_iload_n (k := 1) (by decide +kernel) rfl rfl, ⟨s_istore_n (k := 2) (by decide +kernel) rfl rfl, ⟨s_iload_n (k := 2) (by decide +kernel) rfl rfl, ⟨s_aload_n (k := 0) (by decide +kernel) rfl rfl, ⟨s_get (C := RX0) (T := TX0) (N := 8) rfl inT0 (by decide) tw_1_38 (by decide +kernel) rfl, ⟨s_cge (off := (22)) (by decide +kernel) rfl rfl, ⟨s_aload_n (k := 0) (by decide +kernel) rfl rfl, ⟨s_iload_n (k := 2) (by decide +kernel) rfl rfl, ⟨s_callV (C := RX0) (T := TX0) (N := 8) rfl ct_X0_signAt (by decide) (by decide) ⟨rfl, by decide +kernel, by decide +kernel, by decide +kernel⟩ tw_2_129 tw_2_130 tw_2_131 tw_1_2 tw_2_132 (by decide +kernel) rfl, ⟨s_callN ct_X6_isOfWord (by decide) (by decide) ⟨by decide +kernel, by decide +kernel, by decide +kernel⟩ ni_4 tw_2_87 tw_1_1 tw_2_88 (by decide +kernel) rfl, ⟨s_ifne (off := (5)) (by decide +kernel) rfl rfl, ⟨s_iload_n (k := 2) (by decide +kernel) rfl rfl, ⟨s_iret rfl (by decide +kernel), ⟨s_iinc (by decide +kernel) rfl, ⟨s_goto (off := (-24)) (by decide +kernel) rfl, ⟨s_aload_n (k := 0) (by decide +kernel) rfl rfl, ⟨s_get (C := RX0) (T := TX0) (N := 8) rfl inT0 (by decide) tw_1_38 (by decide +kernel) rfl, ⟨s_iret rfl (by decide +kernel), trivial⟩⟩⟩⟩⟩⟩⟩⟩⟩⟩⟩⟩⟩⟩⟩⟩⟩⟩
theorem ct_X0_endOfWord : Ctr yX0_endOfWord cX0_endOfWord 3 (some .int) 2 40 sp_X0_endOfWord := by
  refine ctr_of (by decide +kernel) ao_X0_endOfWord rfl ?_
  rintro av M Ret ⟨b, rfl, hp, hR⟩ hok hM
  exact ⟨Nat.le_of_ble_eq_true rfl, fun Z hZ => b_X0_endOfWord  b (hok _ (List.mem_of_getElem? (i := 1) rfl)) M Ret hp hR hM Z hZ⟩
def sp_X0_wordCount : SP := fun av M Ret => av = [mr 1] ∧ (Bx M) ∧ (Ret (some (mi (cntW (SX M) (M 1 5).toNat))) M)
theorem k_X0_wordCount {code : List Sem} {Z : KZ} {Ret : KR} {ls : List (Option MV)} {M : Mem} {r : List MV} (hZ : Sim code Z Ret) (ip np : Nat)  (hc : code[ip]? = some (I_callV 0 0 sp_X0_wordCount)) (hn : ip + 1 = np) (h3 : catS r ≤ 8)  (hp : Bx M) (kz : Z np ls (mi (cntW (SX M) (M 1 5).toNat) :: r) M) : Z ip ls (mr 1 :: r) M := w_callV0 hZ ip np hc hn rfl rfl h3 ⟨rfl, hp, kz⟩
def cd_X0_wordCount : List Sem := [I_const (0), I_istore 1, I_const (0), I_istore 2, I_iload 2, I_aload 0, I_get 0 5, I_cge 15, I_aload 0, I_iload 2, I_callV 0 1 sp_X0_wordBeginsAt, I_ifeq 13, I_iinc 1 (1), I_iinc 2 (1), I_goto 4, I_iload 1, I_iret]
def pc_X0_wordCount : List Nat := [0, 1, 2, 3, 4, 5, 6, 9, 12, 13, 14, 17, 20, 23, 26, 29, 30]
set_option maxRecDepth 100000 in
set_option maxHeartbeats 4000000 in
theorem b_X0_wordCount  (M : Mem) (Ret : KR) (hp : Bx M) (hR : Ret (some (mi (cntW (SX M) (M 1 5).toNat))) M) (hM : MOk M) (Z : KZ) (hZ : Sim cd_X0_wordCount Z Ret) : Z 0 [some (mr 1), none, none] [] M := by
  have hb := hp
  obtain ⟨b1, b2, b3, b4⟩ := hp
  have loop : ∀ (d k : Nat), d + k = (M 1 5).toNat → Z 4 [some (mr 1), some (mi (cntW (SX M) k)), some (mi (k : Int))] [] M := by
    intro d
    induction d with
    | zero =>
      intro k hk
      refine w_iload hZ 4 5 rfl rfl rfl ?_
      refine w_aload hZ 5 6 rfl rfl rfl ?_
      refine w_geti hZ 6 7 rfl rfl rfl rfl rfl ?_
      refine w_cge hZ 7 8 rfl rfl (fun c7 => ?_) (fun c7 => absurd c7 (by omega))
      refine w_iload hZ 15 16 rfl rfl rfl ?_
      refine w_iret hZ 16 rfl ?_
      exact ret_i hR (by congr 1; omega)
    | succ d ih =>
      intro k hk
      have hc := cntW_le (SX M) k
      refine w_iload hZ 4 5 rfl rfl rfl ?_
      refine w_aload hZ 5 6 rfl rfl rfl ?_
      refine w_geti hZ 6 7 rfl rfl rfl rfl rfl ?_
      refine w_cge hZ 7 8 rfl rfl (fun c7 => absurd c7 (by omega)) (fun c7 => ?_)
      refine w_aload hZ 8 9 rfl rfl rfl ?_
      refine w_iload hZ 9 10 rfl rfl rfl ?_
      refine k_X0_wordBeginsAt hZ 10 11 rfl rfl (Nat.le_of_ble_eq_true rfl) ⟨hb, by unfold InR; omega⟩ ?_
      refine w_ifeq hZ 11 12 rfl rfl (fun c11 => ?_) (fun c11 => ?_)
      · refine w_in3_2 hZ 13 14 rfl rfl rfl (by unfold InR; omega) ?_
        refine w_goto hZ 14 4 rfl ?_
        have e := ih (k + 1) (by omega)
        unfold cntW at e
        first
          | (rw [b2i_t (b2i_e.mp c11)] at e; exact e)
          | (rw [b2i_f (b2i_z.mp c11)] at e; simp only [Int.add_zero] at e; exact e)
      · refine w_in3_1 hZ 12 13 rfl rfl rfl (by unfold InR; omega) ?_
        refine w_in3_2 hZ 13 14 rfl rfl rfl (by unfold InR; omega) ?_
        refine w_goto hZ 14 4 rfl ?_
        have e := ih (k + 1) (by omega)
        unfold cntW at e
        first
          | (rw [b2i_t (b2i_e.mp c11)] at e; exact e)
          | (rw [b2i_f (b2i_z.mp c11)] at e; simp only [Int.add_zero] at e; exact e)
  refine w_const hZ 0 1 rfl rfl  ?_
  refine w_st3_1 hZ 1 2 rfl rfl rfl ?_
  refine w_const hZ 2 3 rfl rfl  ?_
  refine w_st3_2 hZ 3 4 rfl rfl rfl ?_
  exact loop (M 1 5).toNat 0 (by omega)
set_option maxRecDepth 100000 in
set_option maxHeartbeats 4000000 in
theorem ao_X0_wordCount : AllOk yX0_wordCount.cls cX0_wordCount 3 3 61 (some .int) none pc_X0_wordCount 0 cd_X0_wordCount := ⟨s_iconst (by decide +kernel) rfl ⟨by decide, by decide⟩, ⟨s_istore_n (k := 1) (by decide +kernel) rfl rfl, ⟨s_iconst (by decide +kernel) rfl ⟨by decide, by decide⟩, ⟨s_istore_n (k := 2) (by decide +kernel) rfl rfl, ⟨s_iload_n (k := 2) (by decide +kernel) rfl rfl, ⟨s_aload_n (k := 0) (by decide +kernel) rfl rfl, ⟨s_get (C := RX0) (T := TX0) (N := 8) rfl inT0 (by decide) tw_1_38 (by decide +kernel) rfl, ⟨s_cge (off := (20)) (by decide +kernel) rfl rfl, ⟨s_aload_n (k := 0) (by decide +kernel) rfl rfl, ⟨s_iload_n (k := 2) (by decide +kernel) rfl rfl, ⟨s_callV (C := RX0) (T := TX0) (N := 8) rfl ct_X0_wordBeginsAt (by decide) (by decide) ⟨rfl, by decide +kernel, by decide +kernel, by decide +kernel⟩ tw_2_125 tw_2_126 tw_2_127 tw_1_2 tw_2_128 (by decide +kernel) rfl, ⟨s_ifeq (off := (6)) (by decide +kernel) rfl rfl, ⟨s_iinc (by decide +kernel) rfl, ⟨s_iinc (by decide +kernel) rfl, ⟨s_goto (off := (-22)) (by decide +kernel) rfl, ⟨s_iload_n (k := 1) (by decide +kernel) rfl rfl, ⟨s_iret rfl (by decide +kernel), trivial⟩⟩⟩⟩⟩⟩⟩⟩⟩⟩⟩⟩⟩⟩⟩⟩⟩
theorem ct_X0_wordCount : Ctr yX0_wordCount cX0_wordCount 3 (some .int) 3 61 sp_X0_wordCount := by
  refine ctr_of (by decide +kernel) ao_X0_wordCount rfl ?_
  rintro av M Ret ⟨rfl, hp, hR⟩ hok hM
  exact ⟨Nat.le_of_ble_eq_true rfl, fun Z hZ => b_X0_wordCount   M Ret hp hR hM Z hZ⟩
def sp_X0_isBehindFigures : SP := fun av M Ret => ∃ i : Int, av = [mr 1, mi i] ∧ (Bx M ∧ InR (i - 1) ∧ InR (i - 2)) ∧ (Ret (some (mi (b2i (isBh (SX M) i)))) M)
theorem k_X0_isBehindFigures {code : List Sem} {Z : KZ} {Ret : KR} {ls : List (Option MV)} {M : Mem} {r : List MV} (hZ : Sim code Z Ret) (ip np : Nat) {i : Int} (hc : code[ip]? = some (I_callV 0 1 sp_X0_isBehindFigures)) (hn : ip + 1 = np) (h3 : catS r ≤ 8)  (hp : Bx M ∧ InR (i - 1) ∧ InR (i - 2)) (kz : Z np ls (mi (b2i (isBh (SX M) i)) :: r) M) : Z ip ls (mi i :: mr 1 :: r) M := w_callV1 hZ ip np hc hn rfl rfl h3 ⟨_, rfl, hp, kz⟩
def cd_X0_isBehindFigures : List Sem := [I_aload 0, I_iload 1, I_const (1), I_sub, I_callV 0 1 sp_X0_signAt, I_callS 1 sp_X6_isFigure, I_ifne 21, I_aload 0, I_iload 1, I_const (1), I_sub, I_callV 0 1 sp_X0_signAt, I_callS 1 sp_X6_isPointOrComma, I_ifeq 23, I_aload 0, I_iload 1, I_const (2), I_sub, I_callV 0 1 sp_X0_signAt, I_callS 1 sp_X6_isFigure, I_ifeq 23, I_const (1), I_goto 24, I_const (0), I_zret]
def pc_X0_isBehindFigures : List Nat := [0, 1, 2, 3, 4, 7, 10, 13, 14, 15, 16, 17, 20, 23, 26, 27, 28, 29, 30, 33, 36, 39, 40, 43, 44]
set_option maxRecDepth 100000 in
set_option maxHeartbeats 4000000 in
theorem b_X0_isBehindFigures (i : Int) (i_i : InR i) (M : Mem) (Ret : KR) (hp : Bx M ∧ InR (i - 1) ∧ InR (i - 2)) (hR : Ret (some (mi (b2i (isBh (SX M) i)))) M) (hM : MOk M) (Z : KZ) (hZ : Sim cd_X0_isBehindFigures Z Ret) : Z 0 [some (mr 1), some (mi i)] [] M := by
  obtain ⟨hb, hi, hi2⟩ := hp
  refine w_aload hZ 0 1 rfl rfl rfl ?_
  refine w_iload hZ 1 2 rfl rfl rfl ?_
  refine w_const hZ 2 3 rfl rfl  ?_
  refine w_sub hZ 3 4 rfl rfl hi ?_
  refine k_X0_signAt hZ 4 5 rfl rfl (Nat.le_of_ble_eq_true rfl) hb ?_
  refine k_X6_isFigure hZ 5 6 rfl rfl (Nat.le_of_ble_eq_true rfl)  ?_
  refine w_ifne hZ 6 7 rfl rfl (fun c6 => ?_) (fun c6 => ?_)
  · refine w_const hZ 21 22 rfl rfl  ?_
    refine w_goto hZ 22 24 rfl ?_
    refine w_zret hZ 24 rfl (by omega) ?_
    exact ret_i hR (by (first | refine b2i_t ?_ | refine b2i_f ?_); (try replace c6 := b2i_z.mp c6); (try replace c6 := b2i_e.mp c6); (try replace c13 := b2i_z.mp c13); (try replace c13 := b2i_e.mp c13); (try replace c20 := b2i_z.mp c20); (try replace c20 := b2i_e.mp c20); simp only [isBh, isFg, isPC] at *; omega)
  · refine w_aload hZ 7 8 rfl rfl rfl ?_
    refine w_iload hZ 8 9 rfl rfl rfl ?_
    refine w_const hZ 9 10 rfl rfl  ?_
    refine w_sub hZ 10 11 rfl rfl hi ?_
    refine k_X0_signAt hZ 11 12 rfl rfl (Nat.le_of_ble_eq_true rfl) hb ?_
    refine k_X6_isPointOrComma hZ 12 13 rfl rfl (Nat.le_of_ble_eq_true rfl)  ?_
    refine w_ifeq hZ 13 14 rfl rfl (fun c13 => ?_) (fun c13 => ?_)
    · refine w_const hZ 23 24 rfl rfl  ?_
      refine w_zret hZ 24 rfl (by omega) ?_
      exact ret_i hR (by (first | refine b2i_t ?_ | refine b2i_f ?_); (try replace c6 := b2i_z.mp c6); (try replace c6 := b2i_e.mp c6); (try replace c13 := b2i_z.mp c13); (try replace c13 := b2i_e.mp c13); (try replace c20 := b2i_z.mp c20); (try replace c20 := b2i_e.mp c20); simp only [isBh, isFg, isPC] at *; omega)
    · refine w_aload hZ 14 15 rfl rfl rfl ?_
      refine w_iload hZ 15 16 rfl rfl rfl ?_
      refine w_const hZ 16 17 rfl rfl  ?_
      refine w_sub hZ 17 18 rfl rfl hi2 ?_
      refine k_X0_signAt hZ 18 19 rfl rfl (Nat.le_of_ble_eq_true rfl) hb ?_
      refine k_X6_isFigure hZ 19 20 rfl rfl (Nat.le_of_ble_eq_true rfl)  ?_
      refine w_ifeq hZ 20 21 rfl rfl (fun c20 => ?_) (fun c20 => ?_)
      · refine w_const hZ 23 24 rfl rfl  ?_
        refine w_zret hZ 24 rfl (by omega) ?_
        exact ret_i hR (by (first | refine b2i_t ?_ | refine b2i_f ?_); (try replace c6 := b2i_z.mp c6); (try replace c6 := b2i_e.mp c6); (try replace c13 := b2i_z.mp c13); (try replace c13 := b2i_e.mp c13); (try replace c20 := b2i_z.mp c20); (try replace c20 := b2i_e.mp c20); simp only [isBh, isFg, isPC] at *; omega)
      · refine w_const hZ 21 22 rfl rfl  ?_
        refine w_goto hZ 22 24 rfl ?_
        refine w_zret hZ 24 rfl (by omega) ?_
        exact ret_i hR (by (first | refine b2i_t ?_ | refine b2i_f ?_); (try replace c6 := b2i_z.mp c6); (try replace c6 := b2i_e.mp c6); (try replace c13 := b2i_z.mp c13); (try replace c13 := b2i_e.mp c13); (try replace c20 := b2i_z.mp c20); (try replace c20 := b2i_e.mp c20); simp only [isBh, isFg, isPC] at *; omega)
set_option maxRecDepth 100000 in
set_option maxHeartbeats 4000000 in
theorem ao_X0_isBehindFigures : AllOk yX0_isBehindFigures.cls cX0_isBehindFigures 2 1 21 (some .boolean) none pc_X0_isBehindFigures 0 cd_X0_isBehindFigures := ⟨s_aload_n (k := 0) (by decide +kernel) rfl rfl, ⟨s_iload_n (k := 1) (by decide +kernel) rfl rfl, ⟨s_iconst (by decide +kernel) rfl ⟨by decide, by decide⟩, ⟨s_sub (by decide +kernel) rfl, ⟨s_callV (C := RX0) (T := TX0) (N := 8) rfl ct_X0_signAt (by decide) (by decide) ⟨rfl, by decide +kernel, by decide +kernel, by decide +kernel⟩ tw_2_129 tw_2_130 tw_2_131 tw_1_2 tw_2_132 (by decide +kernel) rfl, ⟨s_callN ct_X6_isFigure (by decide) (by decide) ⟨by decide +kernel, by decide +kernel, by decide +kernel⟩ ni_8 tw_2_96 tw_1_1 tw_2_97 (by decide +kernel) rfl, ⟨s_ifne (off := (29)) (by decide +kernel) rfl rfl, ⟨s_aload_n (k := 0) (by decide +kernel) rfl rfl, ⟨s_iload_n (k := 1) (by decide +kernel) rfl rfl, ⟨s_iconst (by decide +kernel) rfl ⟨by decide, by decide⟩, ⟨s_sub (by decide +kernel) rfl, ⟨s_callV (C := RX0) (T := TX0) (N := 8) rfl ct_X0_signAt (by decide) (by decide) ⟨rfl, by decide +kernel, by decide +kernel, by decide +kernel⟩ tw_2_129 tw_2_130 tw_2_131 tw_1_2 tw_2_132 (by decide +kernel) rfl, ⟨s_callN ct_X6_isPointOrComma (by decide) (by decide) ⟨by decide +kernel, by decide +kernel, by decide +kernel⟩ ni_9 tw_2_99 tw_1_1 tw_2_100 (by decide +kernel) rfl, ⟨s_ifeq (off := (20)) (by decide +kernel) rfl rfl, ⟨s_aload_n (k := 0) (by decide +kernel) rfl rfl, ⟨s_iload_n (k := 1) (by decide +kernel) rfl rfl, ⟨s_iconst (by decide +kernel) rfl ⟨by decide, by decide⟩, ⟨s_sub (by decide +kernel) rfl, ⟨s_callV (C := RX0) (T := TX0) (N := 8) rfl ct_X0_signAt (by decide) (by decide) ⟨rfl, by decide +kernel, by decide +kernel, by decide +kernel⟩ tw_2_129 tw_2_130 tw_2_131 tw_1_2 tw_2_132 (by decide +kernel) rfl, ⟨s_callN ct_X6_isFigure (by decide) (by decide) ⟨by decide +kernel, by decide +kernel, by decide +kernel⟩ ni_8 tw_2_96 tw_1_1 tw_2_97 (by decide +kernel) rfl, ⟨s_ifeq (off := (7)) (by decide +kernel) rfl rfl, ⟨s_iconst (by decide +kernel) rfl ⟨by decide, by decide⟩, ⟨s_goto (off := (4)) (by decide +kernel) rfl, ⟨s_iconst (by decide +kernel) rfl ⟨by decide, by decide⟩, ⟨s_zret rfl (by decide +kernel), trivial⟩⟩⟩⟩⟩⟩⟩⟩⟩⟩⟩⟩⟩⟩⟩⟩⟩⟩⟩⟩⟩⟩⟩⟩⟩
theorem ct_X0_isBehindFigures : Ctr yX0_isBehindFigures cX0_isBehindFigures 2 (some .boolean) 1 21 sp_X0_isBehindFigures := by
  refine ctr_of (by decide +kernel) ao_X0_isBehindFigures rfl ?_
  rintro av M Ret ⟨i, rfl, hp, hR⟩ hok hM
  exact ⟨Nat.le_of_ble_eq_true rfl, fun Z hZ => b_X0_isBehindFigures  i (hok _ (List.mem_of_getElem? (i := 1) rfl)) M Ret hp hR hM Z hZ⟩
def sp_X0_copyFrom : SP := fun av M Ret => ∃ t o : Nat, av = [mr t, mr o] ∧ (isBk t ∧ isBk o ∧ (t = o ∨ t + 5 ≤ o ∨ o + 5 ≤ t)) ∧ (∀ M2 : Mem, (cpB t o M M2) → Ret none M2)
theorem k_X0_copyFrom {code : List Sem} {Z : KZ} {Ret : KR} {ls : List (Option MV)} {M : Mem} {r : List MV} (hZ : Sim code Z Ret) (ip np : Nat) {t o : Nat}  (hc : code[ip]? = some (I_callV 0 1 sp_X0_copyFrom)) (hn : ip + 1 = np) (h3 : catS r ≤ 8) {q : Nat × List Nat} (hs : shp[t]? = some (.inl q)) (hq : q.1 = 0) (hp : isBk t ∧ isBk o ∧ (t = o ∨ t + 5 ≤ o ∨ o + 5 ≤ t)) (kz : ∀ M2 : Mem, (cpB t o M M2) → Z np ls r M2) : Z ip ls (mr o :: mr t :: r) M := w_callV1 hZ ip np hc hn hs hq h3 ⟨_, _, rfl, hp, fun M2 h => kz M2 h⟩
def cd_X0_copyFrom : List Sem := [I_aload 0, I_aload 1, I_get 0 4, I_puti 0 4, I_aload 0, I_aload 1, I_get 0 5, I_puti 0 5, I_aload 0, I_aload 1, I_get 0 6, I_puti 0 6, I_aload 0, I_aload 1, I_get 0 7, I_puti 0 7, I_aload 1, I_get 0 0, I_const (0), I_aload 0, I_get 0 0, I_const (0), I_const (12), I_copy, I_aload 1, I_get 0 1, I_const (0), I_aload 0, I_get 0 1, I_const (0), I_const (12), I_copy, I_aload 1, I_get 0 2, I_const (0), I_aload 0, I_get 0 2, I_const (0), I_const (12), I_copy, I_aload 1, I_get 0 3, I_const (0), I_aload 0, I_get 0 3, I_const (0), I_const (120), I_copy, I_vret]
def pc_X0_copyFrom : List Nat := [0, 1, 2, 5, 8, 9, 10, 13, 16, 17, 18, 21, 24, 25, 26, 29, 32, 33, 36, 37, 38, 41, 42, 44, 47, 48, 51, 52, 53, 56, 57, 59, 62, 63, 66, 67, 68, 71, 72, 74, 77, 78, 81, 82, 83, 86, 87, 89, 92]
set_option maxRecDepth 100000 in
set_option maxHeartbeats 4000000 in
theorem b_X0_copyFrom (t o : Nat)  (M : Mem) (Ret : KR) (hp : isBk t ∧ isBk o ∧ (t = o ∨ t + 5 ≤ o ∨ o + 5 ≤ t)) (hR : ∀ M2 : Mem, (cpB t o M M2) → Ret none M2) (hM : MOk M) (Z : KZ) (hZ : Sim cd_X0_copyFrom Z Ret) : Z 0 [some (mr t), some (mr o)] [] M := by
  obtain ⟨hT, hO, hd⟩ := hp
  refine w_aload hZ 0 1 rfl rfl rfl ?_
  refine w_aload hZ 1 2 rfl rfl rfl ?_
  refine w_geti hZ 2 3 rfl rfl hO.1 rfl rfl ?_
  refine w_puti hZ 3 4 rfl rfl hT.1 rfl rfl ?_
  refine w_aload hZ 4 5 rfl rfl rfl ?_
  refine w_aload hZ 5 6 rfl rfl rfl ?_
  refine w_getiv hZ 6 7 rfl rfl hO.1 rfl rfl (v := M o 5) (by rw [mup_at, if_neg (by omega)]) ?_
  refine w_puti hZ 7 8 rfl rfl hT.1 rfl rfl ?_
  refine w_aload hZ 8 9 rfl rfl rfl ?_
  refine w_aload hZ 9 10 rfl rfl rfl ?_
  refine w_getiv hZ 10 11 rfl rfl hO.1 rfl rfl (v := M o 6) (by rw [mup_at, if_neg (by omega), mup_at, if_neg (by omega)]) ?_
  refine w_puti hZ 11 12 rfl rfl hT.1 rfl rfl ?_
  refine w_aload hZ 12 13 rfl rfl rfl ?_
  refine w_aload hZ 13 14 rfl rfl rfl ?_
  refine w_getiv hZ 14 15 rfl rfl hO.1 rfl rfl (v := M o 7) (by rw [mup_at, if_neg (by omega), mup_at, if_neg (by omega), mup_at, if_neg (by omega)]) ?_
  refine w_puti hZ 15 16 rfl rfl hT.1 rfl rfl ?_
  refine gen_mem (P := fun N => N t 4 = M o 4 ∧ N t 5 = M o 5 ∧ N t 6 = M o 6 ∧ N t 7 = M o 7 ∧ ∀ k, k ≠ t → N k = M k) ⟨by simp [mup_at], by simp [mup_at], by simp [mup_at], by simp [mup_at], fun k hk => by funext j; simp [mup_at, hk]⟩ (fun N0 hN0 => ?_)
  refine w_aload hZ 16 17 rfl rfl rfl ?_
  refine w_getr hZ 17 18 rfl rfl hO.1 rfl rfl ?_
  refine w_const hZ 18 19 rfl rfl  ?_
  refine w_aload hZ 19 20 rfl rfl rfl ?_
  refine w_getr hZ 20 21 rfl rfl hT.1 rfl rfl ?_
  refine w_const hZ 21 22 rfl rfl  ?_
  refine w_const hZ 22 23 rfl rfl  ?_
  refine w_copy hZ 23 24 rfl rfl hO.2.1 hT.2.1 (by omega) (by omega) (by omega) (by omega) (by omega) (Nat.le_of_ble_eq_true rfl) ?_
  refine gen_mem (P := fun N => (∀ j, j < 12 → N (t + 1) j = N0 (o + 1) j) ∧ ∀ k, k ≠ t + 1 → N k = N0 k) ⟨fun j hj => ?_, fun k hk => srow_ne _ _ hk⟩ (fun N1 hN1 => ?_)
  · rw [srow_same]
    unfold cpyR
    rw [if_pos ⟨Nat.zero_le _, by simp; omega⟩]
    simp
  refine w_aload hZ 24 25 rfl rfl rfl ?_
  refine w_getr hZ 25 26 rfl rfl hO.1 rfl rfl ?_
  refine w_const hZ 26 27 rfl rfl  ?_
  refine w_aload hZ 27 28 rfl rfl rfl ?_
  refine w_getr hZ 28 29 rfl rfl hT.1 rfl rfl ?_
  refine w_const hZ 29 30 rfl rfl  ?_
  refine w_const hZ 30 31 rfl rfl  ?_
  refine w_copy hZ 31 32 rfl rfl hO.2.2.1 hT.2.2.1 (by omega) (by omega) (by omega) (by omega) (by omega) (Nat.le_of_ble_eq_true rfl) ?_
  refine gen_mem (P := fun N => (∀ j, j < 12 → N (t + 2) j = N1 (o + 2) j) ∧ ∀ k, k ≠ t + 2 → N k = N1 k) ⟨fun j hj => ?_, fun k hk => srow_ne _ _ hk⟩ (fun N2 hN2 => ?_)
  · rw [srow_same]
    unfold cpyR
    rw [if_pos ⟨Nat.zero_le _, by simp; omega⟩]
    simp
  refine w_aload hZ 32 33 rfl rfl rfl ?_
  refine w_getr hZ 33 34 rfl rfl hO.1 rfl rfl ?_
  refine w_const hZ 34 35 rfl rfl  ?_
  refine w_aload hZ 35 36 rfl rfl rfl ?_
  refine w_getr hZ 36 37 rfl rfl hT.1 rfl rfl ?_
  refine w_const hZ 37 38 rfl rfl  ?_
  refine w_const hZ 38 39 rfl rfl  ?_
  refine w_copy hZ 39 40 rfl rfl hO.2.2.2.1 hT.2.2.2.1 (by omega) (by omega) (by omega) (by omega) (by omega) (Nat.le_of_ble_eq_true rfl) ?_
  refine gen_mem (P := fun N => (∀ j, j < 12 → N (t + 3) j = N2 (o + 3) j) ∧ ∀ k, k ≠ t + 3 → N k = N2 k) ⟨fun j hj => ?_, fun k hk => srow_ne _ _ hk⟩ (fun N3 hN3 => ?_)
  · rw [srow_same]
    unfold cpyR
    rw [if_pos ⟨Nat.zero_le _, by simp; omega⟩]
    simp
  refine w_aload hZ 40 41 rfl rfl rfl ?_
  refine w_getr hZ 41 42 rfl rfl hO.1 rfl rfl ?_
  refine w_const hZ 42 43 rfl rfl  ?_
  refine w_aload hZ 43 44 rfl rfl rfl ?_
  refine w_getr hZ 44 45 rfl rfl hT.1 rfl rfl ?_
  refine w_const hZ 45 46 rfl rfl  ?_
  refine w_const hZ 46 47 rfl rfl  ?_
  refine w_copy hZ 47 48 rfl rfl hO.2.2.2.2 hT.2.2.2.2 (by omega) (by omega) (by omega) (by omega) (by omega) (Nat.le_of_ble_eq_true rfl) ?_
  refine w_vret hZ 48 rfl ?_
  refine gen_mem' (Ret := Ret) (P := fun N => (∀ j, j < 120 → N (t + 4) j = N3 (o + 4) j) ∧ ∀ k, k ≠ t + 4 → N k = N3 k) ⟨fun j hj => ?_, fun k hk => srow_ne _ _ hk⟩ (fun N4 hN4 => ?_)
  · rw [srow_same]
    unfold cpyR
    rw [if_pos ⟨Nat.zero_le _, by simp; omega⟩]
    simp
  obtain ⟨a4, a5, a6, a7, a0⟩ := hN0
  have r0 : N4 t = N0 t := by rw [hN4.2 t (by omega), hN3.2 t (by omega), hN2.2 t (by omega), hN1.2 t (by omega)]
  refine hR _ ⟨by rw [r0]; exact a4, by rw [r0]; exact a5, by rw [r0]; exact a6, by rw [r0]; exact a7, fun j hj => ?_, fun j hj => ?_, fun j hj => ?_, fun j hj => ?_, fun k hk => ?_⟩
  · rw [hN4.2 _ (by omega), hN3.2 _ (by omega), hN2.2 _ (by omega), hN1.1 j hj, a0 _ (by omega)]
  · rw [hN4.2 _ (by omega), hN3.2 _ (by omega), hN2.1 j hj, hN1.2 _ (by omega), a0 _ (by omega)]
  · rw [hN4.2 _ (by omega), hN3.1 j hj, hN2.2 _ (by omega), hN1.2 _ (by omega), a0 _ (by omega)]
  · rw [hN4.1 j hj, hN3.2 _ (by omega), hN2.2 _ (by omega), hN1.2 _ (by omega), a0 _ (by omega)]
  · rw [hN4.2 _ (by omega), hN3.2 _ (by omega), hN2.2 _ (by omega), hN1.2 _ (by omega), a0 _ (by omega)]
set_option maxRecDepth 100000 in
set_option maxHeartbeats 4000000 in
theorem ao_X0_copyFrom : AllOk yX0_copyFrom.cls cX0_copyFrom 2 1 26 none none pc_X0_copyFrom 0 cd_X0_copyFrom := ⟨s_aload_n (k := 0) (by decide +kernel) rfl rfl, ⟨s_aload_n (k := 1) (by decide +kernel) rfl rfl, ⟨s_get (C := RX0) (T := TX0) (N := 8) rfl inT0 (by decide) tw_1_36 (by decide +kernel) rfl, ⟨s_puti (C := RX0) (T := TX0) (N := 8) (tyf := tyX0) rfl inT0 tyX0_ok nmX0 (by decide) rfl rfl tw_1_36 (by decide +kernel) rfl, ⟨s_aload_n (k := 0) (by decide +kernel) rfl rfl, ⟨s_aload_n (k := 1) (by decide +kernel) rfl rfl, ⟨s_get (C := RX0) (T := TX0) (N := 8) rfl inT0 (by decide) tw_1_38 (by decide +kernel) rfl, ⟨s_puti (C := RX0) (T := TX0) (N := 8) (tyf := tyX0) rfl inT0 tyX0_ok nmX0 (by decide) rfl rfl tw_1_38 (by decide +kernel) rfl, ⟨s_aload_n (k := 0) (by decide +kernel) rfl rfl, ⟨s_aload_n (k := 1) (by decide +kernel) rfl rfl, ⟨s_get (C := RX0) (T := TX0) (N := 8) rfl inT0 (by decide) tw_1_41 (by decide +kernel) rfl, ⟨s_puti (C := RX0) (T := TX0) (N := 8) (tyf := tyX0) rfl inT0 tyX0_ok nmX0 (by decide) rfl rfl tw_1_41 (by decide +kernel) rfl, ⟨s_aload_n (k := 0) (by decide +kernel) rfl rfl, ⟨s_aload_n (k := 1) (by decide +kernel) rfl rfl, ⟨s_get (C := RX0) (T := TX0) (N := 8) rfl inT0 (by decide) tw_1_43 (by decide +kernel) rfl, ⟨s_puti (C := RX0) (T := TX0) (N := 8) (tyf := tyX0) rfl inT0 tyX0_ok nmX0 (by decide) rfl rfl tw_1_43 (by decide +kernel) rfl, ⟨s_aload_n (k := 1) (by decide +kernel) rfl rfl, ⟨s_get (C := RX0) (T := TX0) (N := 8) rfl inT0 (by decide) tw_1_25 (by decide +kernel) rfl, ⟨s_iconst (by decide +kernel) rfl ⟨by decide, by decide⟩, ⟨s_aload_n (k := 0) (by decide +kernel) rfl rfl, ⟨s_get (C := RX0) (T := TX0) (N := 8) rfl inT0 (by decide) tw_1_25 (by decide +kernel) rfl, ⟨s_iconst (by decide +kernel) rfl ⟨by decide, by decide⟩, ⟨s_bipush (by decide +kernel) rfl ⟨by decide, by decide⟩ (by decide +kernel), ⟨s_copy tw_2_25 tw_2_27 tw_2_26 tw_1_9 (by decide) (by decide) (by decide +kernel) rfl, ⟨s_aload_n (k := 1) (by decide +kernel) rfl rfl, ⟨s_get (C := RX0) (T := TX0) (N := 8) rfl inT0 (by decide) tw_1_29 (by decide +kernel) rfl, ⟨s_iconst (by decide +kernel) rfl ⟨by decide, by decide⟩, ⟨s_aload_n (k := 0) (by decide +kernel) rfl rfl, ⟨s_get (C := RX0) (T := TX0) (N := 8) rfl inT0 (by decide) tw_1_29 (by decide +kernel) rfl, ⟨s_iconst (by decide +kernel) rfl ⟨by decide, by decide⟩, ⟨s_bipush (by decide +kernel) rfl ⟨by decide, by decide⟩ (by decide +kernel), ⟨s_copy tw_2_25 tw_2_27 tw_2_26 tw_1_9 (by decide) (by decide) (by decide +kernel) rfl, ⟨s_aload_n (k := 1) (by decide +kernel) rfl rfl, ⟨s_get (C := RX0) (T := TX0) (N := 8) rfl inT0 (by decide) tw_1_32 (by decide +kernel) rfl, ⟨s_iconst (by decide +kernel) rfl ⟨by decide, by decide⟩, ⟨s_aload_n (k := 0) (by decide +kernel) rfl rfl, ⟨s_get (C := RX0) (T := TX0) (N := 8) rfl inT0 (by decide) tw_1_32 (by decide +kernel) rfl, ⟨s_iconst (by decide +kernel) rfl ⟨by decide, by decide⟩, ⟨s_bipush (by decide +kernel) rfl ⟨by decide, by decide⟩ (by decide +kernel), ⟨s_copy tw_2_25 tw_2_27 tw_2_26 tw_1_9 (by decide) (by decide) (by decide +kernel) rfl, ⟨s_aload_n (k := 1) (by decide +kernel) rfl rfl, ⟨s_get (C := RX0) (T := TX0) (N := 8) rfl inT0 (by decide) tw_1_35 (by decide +kernel) rfl, ⟨s_iconst (by decide +kernel) rfl ⟨by decide, by decide⟩, ⟨s_aload_n (k := 0) (by decide +kernel) rfl rfl, ⟨s_get (C := RX0) (T := TX0) (N := 8) rfl inT0 (by decide) tw_1_35 (by decide +kernel) rfl, ⟨s_iconst (by decide +kernel) rfl ⟨by decide, by decide⟩, ⟨s_bipush (by decide +kernel) rfl ⟨by decide, by decide⟩ (by decide +kernel), ⟨s_copy tw_2_25 tw_2_27 tw_2_26 tw_1_9 (by decide) (by decide) (by decide +kernel) rfl, ⟨s_vret rfl (by decide +kernel), trivial⟩⟩⟩⟩⟩⟩⟩⟩⟩⟩⟩⟩⟩⟩⟩⟩⟩⟩⟩⟩⟩⟩⟩⟩⟩⟩⟩⟩⟩⟩⟩⟩⟩⟩⟩⟩⟩⟩⟩⟩⟩⟩⟩⟩⟩⟩⟩⟩⟩
theorem ct_X0_copyFrom : Ctr yX0_copyFrom cX0_copyFrom 2 none 1 26 sp_X0_copyFrom := by
  refine ctr_of (by decide +kernel) ao_X0_copyFrom rfl ?_
  rintro av M Ret ⟨t, o, rfl, hp, hR⟩ hok hM
  exact ⟨Nat.le_of_ble_eq_true rfl, fun Z hZ => b_X0_copyFrom t o  M Ret hp hR hM Z hZ⟩
