/-! Reader -/
abbrev FX (M : Mem) : Int → Int := sgn (M 20 6) (M 19)
def adS (M : Mem) (s : Int) : Mem := mup (mup M 21 (M 20 1).toNat s) 20 1 (M 20 1 + 1)
/-- signs come behind what is read; the FAULT, its place, the figures' end -/
def RS (D : List Int) (k fa fe : Int) (M M2 : Mem) : Prop := M2 20 1 = M 20 1 + D.length ∧ (∀ j : Nat, (j : Int) < M 20 1 → M2 21 j = M 21 j) ∧ (∀ j : Nat, j < D.length → M2 21 ((M 20 1).toNat + j) = D.getD j 0) ∧ M2 20 2 = k ∧ M2 20 3 = fa ∧ M2 20 6 = M 20 6 ∧ M2 20 7 = fe ∧ ∀ o, ¬ o = 20 → ¬ o = 21 → M2 o = M o
theorem RS_nil (M : Mem) : RS [] (M 20 2) (M 20 3) (M 20 7) M M := ⟨by simp, fun _ _ => rfl, fun j h => by simp at h, rfl, rfl, rfl, rfl, fun _ _ _ => rfl⟩
theorem RS_1 {M : Mem} (h0 : 0 ≤ M 20 1) (s : Int) : RS [s] (M 20 2) (M 20 3) (M 20 7) M (adS M s) := by
  refine ⟨by simp [adS, mup_at], fun j hj => ?_, fun j hj => ?_, by simp [adS, mup_at], by simp [adS, mup_at], by simp [adS, mup_at], by simp [adS, mup_at], fun o h1 h2 => ?_⟩
  · have : ¬ j = (M 20 1).toNat := by omega
    simp [adS, mup_at, this]
  · have : j = 0 := by simpa using hj
    subst this
    simp [adS, mup_at]
  · funext j; simp [adS, mup_at, h1, h2]
theorem RS.trans {A B : List Int} {k fa fe k2 fa2 fe2 : Int} {M N M2 : Mem} (h : RS A k fa fe M N) (h2 : RS B k2 fa2 fe2 N M2) (h0 : 0 ≤ M 20 1) : RS (A ++ B) k2 fa2 fe2 M M2 := by
  obtain ⟨a1, a2, a3, a4, a5, a6, a7, a8⟩ := h
  obtain ⟨b1, b2, b3, b4, b5, b6, b7, b8⟩ := h2
  refine ⟨by rw [b1, a1, List.length_append]; omega, fun j hj => by rw [b2 j (by omega), a2 j hj], fun j hj => ?_, b4, b5, by rw [b6, a6], b7, fun o h1 h2 => by rw [b8 o h1 h2, a8 o h1 h2]⟩
  rw [List.length_append] at hj
  by_cases q : j < A.length
  · rw [b2 _ (by omega), a3 j q, List.getD_eq_getElem?_getD, List.getD_eq_getElem?_getD, List.getElem?_append_left q]
  · have e : (M 20 1).toNat + j = (N 20 1).toNat + (j - A.length) := by omega
    rw [e, b3 _ (by omega), List.getD_eq_getElem?_getD, List.getD_eq_getElem?_getD, List.getElem?_append_right (by omega)]
theorem RS.bx {D : List Int} {k fa fe : Int} {M M2 : Mem} (h : RS D k fa fe M M2) : bX M2 1 = bX M 1 := bX_same 1 (fun j a b => h.2.2.2.2.2.2.2 j (by omega) (by omega))
theorem RS.fx {D : List Int} {k fa fe : Int} {M M2 : Mem} (h : RS D k fa fe M M2) : FX M2 = FX M := by
  unfold FX; rw [h.2.2.2.2.2.1, h.2.2.2.2.2.2.2 19 (by omega) (by omega)]
def flA (M : Mem) (p k : Int) : Mem := mup (mup M 20 2 k) 20 3 p
theorem RS_fl (M : Mem) (p k : Int) : RS [] k p (M 20 7) M (flA M p k) := by
  refine ⟨by simp [flA, mup_at], fun j _ => by simp [flA, mup_at], fun j h => by simp at h, by simp [flA, mup_at], by simp [flA, mup_at], by simp [flA, mup_at], by simp [flA, mup_at], fun o h1 h2 => ?_⟩
  funext j; simp [flA, mup_at, h1]
theorem rOf_bX {M : Mem} (hb : Bx M) (c : Int) : fIx (M 3) c (M 1 4) = rOf (bX M 1) c := (fIx_cut (M 3) c hb.1).symm
def sp_X4_cellAt : SP := fun av M Ret => ∃ i : Int, av = [mr 20, mi i] ∧ (0 ≤ M 20 6 ∧ M 20 6 ≤ 240) ∧ (Ret (some (mi (FX M i))) M)
theorem k_X4_cellAt {code : List Sem} {Z : KZ} {Ret : KR} {ls : List (Option MV)} {M : Mem} {r : List MV} (hZ : Sim code Z Ret) (ip np : Nat) {i : Int} (hc : code[ip]? = some (I_callV 4 1 sp_X4_cellAt)) (hn : ip + 1 = np) (h3 : catS r ≤ 8)  (hp : 0 ≤ M 20 6 ∧ M 20 6 ≤ 240) (kz : Z np ls (mi (FX M i) :: r) M) : Z ip ls (mi i :: mr 20 :: r) M := w_callV1 hZ ip np hc hn rfl rfl h3 ⟨_, rfl, hp, kz⟩
def cd_X4_cellAt : List Sem := [I_iload 1, I_iflt 11, I_iload 1, I_aload 0, I_get 4 6, I_cge 11, I_aload 0, I_get 4 5, I_iload 1, I_iald, I_goto 12, I_const (-1), I_iret]
def pc_X4_cellAt : List Nat := [0, 1, 4, 5, 6, 9, 12, 13, 16, 17, 18, 21, 22]
set_option maxRecDepth 100000 in
set_option maxHeartbeats 4000000 in
theorem b_X4_cellAt (i : Int) (i_i : InR i) (M : Mem) (Ret : KR) (hp : 0 ≤ M 20 6 ∧ M 20 6 ≤ 240) (hR : Ret (some (mi (FX M i))) M) (hM : MOk M) (Z : KZ) (hZ : Sim cd_X4_cellAt Z Ret) : Z 0 [some (mr 20), some (mi i)] [] M := by
  obtain ⟨b3, b4⟩ := hp
  refine w_iload hZ 0 1 rfl rfl rfl ?_
  refine w_iflt hZ 1 2 rfl rfl (fun c1 => ?_) (fun c1 => ?_)
  · refine w_const hZ 11 12 rfl rfl  ?_
    refine w_iret hZ 12 rfl ?_
    exact ret_i hR (by unfold FX sgn; split <;> first | rfl | omega)
  · refine w_iload hZ 2 3 rfl rfl rfl ?_
    refine w_aload hZ 3 4 rfl rfl rfl ?_
    refine w_geti hZ 4 5 rfl rfl rfl rfl rfl ?_
    refine w_cge hZ 5 6 rfl rfl (fun c5 => ?_) (fun c5 => ?_)
    · refine w_const hZ 11 12 rfl rfl  ?_
      refine w_iret hZ 12 rfl ?_
      exact ret_i hR (by unfold FX sgn; split <;> first | rfl | omega)
    · refine w_aload hZ 6 7 rfl rfl rfl ?_
      refine w_getr hZ 7 8 rfl rfl rfl rfl rfl ?_
      refine w_iload hZ 8 9 rfl rfl rfl ?_
      refine w_iald hZ 9 10 rfl rfl rfl (by omega) (by omega) ?_
      refine w_goto hZ 10 12 rfl ?_
      refine w_iret hZ 12 rfl ?_
      exact ret_i hR (by unfold FX sgn; split <;> first | rfl | omega)
set_option maxRecDepth 100000 in
set_option maxHeartbeats 4000000 in
theorem ao_X4_cellAt : AllOk yX4_cellAt.cls cX4_cellAt 2 0 0 (some .int) none pc_X4_cellAt 0 cd_X4_cellAt := ⟨s_iload_n (k := 1) (by decide +kernel) rfl rfl, ⟨s_iflt (off := (20)) (by decide +kernel) rfl rfl, ⟨s_iload_n (k := 1) (by decide +kernel) rfl rfl, ⟨s_aload_n (k := 0) (by decide +kernel) rfl rfl, ⟨s_get (C := RX4) (T := TX4) (N := 8) rfl inT4 (by decide) tw_1_168 (by decide +kernel) rfl, ⟨s_cge (off := (12)) (by decide +kernel) rfl rfl, ⟨s_aload_n (k := 0) (by decide +kernel) rfl rfl, ⟨s_get (C := RX4) (T := TX4) (N := 8) rfl inT4 (by decide) tw_1_167 (by decide +kernel) rfl, ⟨s_iload_n (k := 1) (by decide +kernel) rfl rfl, ⟨s_iald (by decide +kernel) rfl, ⟨s_goto (off := (4)) (by decide +kernel) rfl, ⟨s_iconst (by decide +kernel) rfl ⟨by decide, by decide⟩, ⟨s_iret rfl (by decide +kernel), trivial⟩⟩⟩⟩⟩⟩⟩⟩⟩⟩⟩⟩⟩
theorem ct_X4_cellAt : Ctr yX4_cellAt cX4_cellAt 2 (some .int) 0 0 sp_X4_cellAt := by
  refine ctr_of (by decide +kernel) ao_X4_cellAt rfl ?_
  rintro av M Ret ⟨i, rfl, hp, hR⟩ hok hM
  exact ⟨Nat.le_of_ble_eq_true rfl, fun Z hZ => b_X4_cellAt  i (hok _ (List.mem_of_getElem? (i := 1) rfl)) M Ret hp hR hM Z hZ⟩
def sp_X4_isRule : SP := fun av M Ret => ∃ c : Int, av = [mr 20, mi c] ∧ (Bx M) ∧ (Ret (some (mi (b2i (isRl (bX M 1) c)))) M)
theorem k_X4_isRule {code : List Sem} {Z : KZ} {Ret : KR} {ls : List (Option MV)} {M : Mem} {r : List MV} (hZ : Sim code Z Ret) (ip np : Nat) {c : Int} (hc : code[ip]? = some (I_callV 4 1 sp_X4_isRule)) (hn : ip + 1 = np) (h3 : catS r ≤ 8)  (hp : Bx M) (kz : Z np ls (mi (b2i (isRl (bX M 1) c)) :: r) M) : Z ip ls (mi c :: mr 20 :: r) M := w_callV1 hZ ip np hc hn rfl rfl h3 ⟨_, rfl, hp, kz⟩
def cd_X4_isRule : List Sem := [I_iload 1, I_callS 1 sp_X6_isRuleCell, I_ifeq 11, I_aload 0, I_get 4 4, I_iload 1, I_callV 0 1 sp_X0_ruleOfCell, I_const (-1), I_ceq 11, I_const (1), I_goto 12, I_const (0), I_zret]
def pc_X4_isRule : List Nat := [0, 1, 4, 7, 8, 11, 12, 15, 16, 19, 20, 23, 24]
set_option maxRecDepth 100000 in
set_option maxHeartbeats 4000000 in
theorem b_X4_isRule (c : Int) (i_c : InR c) (M : Mem) (Ret : KR) (hp : Bx M) (hR : Ret (some (mi (b2i (isRl (bX M 1) c)))) M) (hM : MOk M) (Z : KZ) (hZ : Sim cd_X4_isRule Z Ret) : Z 0 [some (mr 20), some (mi c)] [] M := by
  refine w_iload hZ 0 1 rfl rfl rfl ?_
  refine k_X6_isRuleCell hZ 1 2 rfl rfl (Nat.le_of_ble_eq_true rfl)  ?_
  refine w_ifeq hZ 2 3 rfl rfl (fun c2 => ?_) (fun c2 => ?_)
  · refine w_const hZ 11 12 rfl rfl  ?_
    refine w_zret hZ 12 rfl (by omega) ?_
    first
      | exact ret_i hR (b2i_t ⟨b2i_e.mp c2, c8⟩)
      | exact ret_i hR (b2i_f (fun q => q.2 c8))
      | exact ret_i hR (b2i_f (fun q => (b2i_z.mp c2) q.1))
  · refine w_aload hZ 3 4 rfl rfl rfl ?_
    refine w_getr hZ 4 5 rfl rfl rfl rfl rfl ?_
    refine w_iload hZ 5 6 rfl rfl rfl ?_
    refine k_X0_ruleOfCell hZ 6 7 rfl rfl (Nat.le_of_ble_eq_true rfl) hp ?_
    rw [rOf_bX hp]
    refine w_const hZ 7 8 rfl rfl  ?_
    refine w_ceq hZ 8 9 rfl rfl (fun c8 => ?_) (fun c8 => ?_)
    · refine w_const hZ 11 12 rfl rfl  ?_
      refine w_zret hZ 12 rfl (by omega) ?_
      first
        | exact ret_i hR (b2i_t ⟨b2i_e.mp c2, c8⟩)
        | exact ret_i hR (b2i_f (fun q => q.2 c8))
        | exact ret_i hR (b2i_f (fun q => (b2i_z.mp c2) q.1))
    · refine w_const hZ 9 10 rfl rfl  ?_
      refine w_goto hZ 10 12 rfl ?_
      refine w_zret hZ 12 rfl (by omega) ?_
      first
        | exact ret_i hR (b2i_t ⟨b2i_e.mp c2, c8⟩)
        | exact ret_i hR (b2i_f (fun q => q.2 c8))
        | exact ret_i hR (b2i_f (fun q => (b2i_z.mp c2) q.1))
set_option maxRecDepth 100000 in
set_option maxHeartbeats 4000000 in
theorem ao_X4_isRule : AllOk yX4_isRule.cls cX4_isRule 2 1 22 (some .boolean) none pc_X4_isRule 0 cd_X4_isRule := ⟨s_iload_n (k := 1) (by decide +kernel) rfl rfl, ⟨s_callN ct_X6_isRuleCell (by decide) (by decide) ⟨by decide +kernel, by decide +kernel, by decide +kernel⟩ ni_16 tw_2_0 tw_1_1 tw_2_1 (by decide +kernel) rfl, ⟨s_ifeq (off := (19)) (by decide +kernel) rfl rfl, ⟨s_aload_n (k := 0) (by decide +kernel) rfl rfl, ⟨s_get (C := RX4) (T := TX4) (N := 8) rfl inT4 (by decide) tw_1_166 (by decide +kernel) rfl, ⟨s_iload_n (k := 1) (by decide +kernel) rfl rfl, ⟨s_callV (C := RX0) (T := TX0) (N := 8) rfl ct_X0_ruleOfCell (by decide) (by decide) ⟨rfl, by decide +kernel, by decide +kernel, by decide +kernel⟩ tw_3_74 tw_2_12 tw_2_13 tw_1_2 tw_2_14 (by decide +kernel) rfl, ⟨s_iconst (by decide +kernel) rfl ⟨by decide, by decide⟩, ⟨s_ceq (off := (7)) (by decide +kernel) rfl rfl, ⟨s_iconst (by decide +kernel) rfl ⟨by decide, by decide⟩, ⟨s_goto (off := (4)) (by decide +kernel) rfl, ⟨s_iconst (by decide +kernel) rfl ⟨by decide, by decide⟩, ⟨s_zret rfl (by decide +kernel), trivial⟩⟩⟩⟩⟩⟩⟩⟩⟩⟩⟩⟩⟩
theorem ct_X4_isRule : Ctr yX4_isRule cX4_isRule 2 (some .boolean) 1 22 sp_X4_isRule := by
  refine ctr_of (by decide +kernel) ao_X4_isRule rfl ?_
  rintro av M Ret ⟨c, rfl, hp, hR⟩ hok hM
  exact ⟨Nat.le_of_ble_eq_true rfl, fun Z hZ => b_X4_isRule  c (hok _ (List.mem_of_getElem? (i := 1) rfl)) M Ret hp hR hM Z hZ⟩
def sp_X4_isNoSuchCell : SP := fun av M Ret => ∃ c : Int, av = [mr 20, mi c] ∧ (Bx M) ∧ (Ret (some (mi (b2i (noCl (bX M 1) c)))) M)
theorem k_X4_isNoSuchCell {code : List Sem} {Z : KZ} {Ret : KR} {ls : List (Option MV)} {M : Mem} {r : List MV} (hZ : Sim code Z Ret) (ip np : Nat) {c : Int} (hc : code[ip]? = some (I_callV 4 1 sp_X4_isNoSuchCell)) (hn : ip + 1 = np) (h3 : catS r ≤ 8)  (hp : Bx M) (kz : Z np ls (mi (b2i (noCl (bX M 1) c)) :: r) M) : Z ip ls (mi c :: mr 20 :: r) M := w_callV1 hZ ip np hc hn rfl rfl h3 ⟨_, rfl, hp, kz⟩
def cd_X4_isNoSuchCell : List Sem := [I_iload 1, I_const (63), I_ceq 12, I_iload 1, I_callS 1 sp_X6_isRuleCell, I_ifeq 14, I_aload 0, I_get 4 4, I_iload 1, I_callV 0 1 sp_X0_ruleOfCell, I_const (-1), I_cne 14, I_const (1), I_goto 15, I_const (0), I_zret]
def pc_X4_isNoSuchCell : List Nat := [0, 1, 3, 6, 7, 10, 13, 14, 17, 18, 21, 22, 25, 26, 29, 30]
set_option maxRecDepth 100000 in
set_option maxHeartbeats 4000000 in
theorem b_X4_isNoSuchCell (c : Int) (i_c : InR c) (M : Mem) (Ret : KR) (hp : Bx M) (hR : Ret (some (mi (b2i (noCl (bX M 1) c)))) M) (hM : MOk M) (Z : KZ) (hZ : Sim cd_X4_isNoSuchCell Z Ret) : Z 0 [some (mr 20), some (mi c)] [] M := by
  refine w_iload hZ 0 1 rfl rfl rfl ?_
  refine w_const hZ 1 2 rfl rfl  ?_
  refine w_ceq hZ 2 3 rfl rfl (fun c2 => ?_) (fun c2 => ?_)
  · refine w_const hZ 12 13 rfl rfl  ?_
    refine w_goto hZ 13 15 rfl ?_
    refine w_zret hZ 15 rfl (by omega) ?_
    first
      | exact ret_i hR (b2i_t (Or.inl c2))
      | exact ret_i hR (b2i_t (Or.inr ⟨b2i_e.mp c5, c11⟩))
      | exact ret_i hR (b2i_f (fun q => q.elim c2 (fun q => c11 q.2)))
      | exact ret_i hR (b2i_f (fun q => q.elim c2 (fun q => (b2i_z.mp c5) q.1)))
  · refine w_iload hZ 3 4 rfl rfl rfl ?_
    refine k_X6_isRuleCell hZ 4 5 rfl rfl (Nat.le_of_ble_eq_true rfl)  ?_
    refine w_ifeq hZ 5 6 rfl rfl (fun c5 => ?_) (fun c5 => ?_)
    · refine w_const hZ 14 15 rfl rfl  ?_
      refine w_zret hZ 15 rfl (by omega) ?_
      first
        | exact ret_i hR (b2i_t (Or.inl c2))
        | exact ret_i hR (b2i_t (Or.inr ⟨b2i_e.mp c5, c11⟩))
        | exact ret_i hR (b2i_f (fun q => q.elim c2 (fun q => c11 q.2)))
        | exact ret_i hR (b2i_f (fun q => q.elim c2 (fun q => (b2i_z.mp c5) q.1)))
    · refine w_aload hZ 6 7 rfl rfl rfl ?_
      refine w_getr hZ 7 8 rfl rfl rfl rfl rfl ?_
      refine w_iload hZ 8 9 rfl rfl rfl ?_
      refine k_X0_ruleOfCell hZ 9 10 rfl rfl (Nat.le_of_ble_eq_true rfl) hp ?_
      rw [rOf_bX hp]
      refine w_const hZ 10 11 rfl rfl  ?_
      refine w_cne hZ 11 12 rfl rfl (fun c11 => ?_) (fun c11 => ?_)
      · refine w_const hZ 14 15 rfl rfl  ?_
        refine w_zret hZ 15 rfl (by omega) ?_
        first
          | exact ret_i hR (b2i_t (Or.inl c2))
          | exact ret_i hR (b2i_t (Or.inr ⟨b2i_e.mp c5, c11⟩))
          | exact ret_i hR (b2i_f (fun q => q.elim c2 (fun q => c11 q.2)))
          | exact ret_i hR (b2i_f (fun q => q.elim c2 (fun q => (b2i_z.mp c5) q.1)))
      · refine w_const hZ 12 13 rfl rfl  ?_
        refine w_goto hZ 13 15 rfl ?_
        refine w_zret hZ 15 rfl (by omega) ?_
        first
          | exact ret_i hR (b2i_t (Or.inl c2))
          | exact ret_i hR (b2i_t (Or.inr ⟨b2i_e.mp c5, c11⟩))
          | exact ret_i hR (b2i_f (fun q => q.elim c2 (fun q => c11 q.2)))
          | exact ret_i hR (b2i_f (fun q => q.elim c2 (fun q => (b2i_z.mp c5) q.1)))
set_option maxRecDepth 100000 in
set_option maxHeartbeats 4000000 in
theorem ao_X4_isNoSuchCell : AllOk yX4_isNoSuchCell.cls cX4_isNoSuchCell 2 1 22 (some .boolean) none pc_X4_isNoSuchCell 0 cd_X4_isNoSuchCell := ⟨s_iload_n (k := 1) (by decide +kernel) rfl rfl, ⟨s_bipush (by decide +kernel) rfl ⟨by decide, by decide⟩ (by decide +kernel), ⟨s_ceq (off := (22)) (by decide +kernel) rfl rfl, ⟨s_iload_n (k := 1) (by decide +kernel) rfl rfl, ⟨s_callN ct_X6_isRuleCell (by decide) (by decide) ⟨by decide +kernel, by decide +kernel, by decide +kernel⟩ ni_16 tw_2_0 tw_1_1 tw_2_1 (by decide +kernel) rfl, ⟨s_ifeq (off := (19)) (by decide +kernel) rfl rfl, ⟨s_aload_n (k := 0) (by decide +kernel) rfl rfl, ⟨s_get (C := RX4) (T := TX4) (N := 8) rfl inT4 (by decide) tw_1_166 (by decide +kernel) rfl, ⟨s_iload_n (k := 1) (by decide +kernel) rfl rfl, ⟨s_callV (C := RX0) (T := TX0) (N := 8) rfl ct_X0_ruleOfCell (by decide) (by decide) ⟨rfl, by decide +kernel, by decide +kernel, by decide +kernel⟩ tw_3_74 tw_2_12 tw_2_13 tw_1_2 tw_2_14 (by decide +kernel) rfl, ⟨s_iconst (by decide +kernel) rfl ⟨by decide, by decide⟩, ⟨s_cne (off := (7)) (by decide +kernel) rfl rfl, ⟨s_iconst (by decide +kernel) rfl ⟨by decide, by decide⟩, ⟨s_goto (off := (4)) (by decide +kernel) rfl, ⟨s_iconst (by decide +kernel) rfl ⟨by decide, by decide⟩, ⟨s_zret rfl (by decide +kernel), trivial⟩⟩⟩⟩⟩⟩⟩⟩⟩⟩⟩⟩⟩⟩⟩⟩
theorem ct_X4_isNoSuchCell : Ctr yX4_isNoSuchCell cX4_isNoSuchCell 2 (some .boolean) 1 22 sp_X4_isNoSuchCell := by
  refine ctr_of (by decide +kernel) ao_X4_isNoSuchCell rfl ?_
  rintro av M Ret ⟨c, rfl, hp, hR⟩ hok hM
  exact ⟨Nat.le_of_ble_eq_true rfl, fun Z hZ => b_X4_isNoSuchCell  c (hok _ (List.mem_of_getElem? (i := 1) rfl)) M Ret hp hR hM Z hZ⟩
def sp_X4_addSign : SP := fun av M Ret => ∃ s : Int, av = [mr 20, mi s] ∧ (0 ≤ M 20 1 ∧ M 20 1 < 960) ∧ (∀ M2 : Mem, (M2 = adS M s) → Ret none M2)
theorem k_X4_addSign {code : List Sem} {Z : KZ} {Ret : KR} {ls : List (Option MV)} {M : Mem} {r : List MV} (hZ : Sim code Z Ret) (ip np : Nat) {s : Int} (hc : code[ip]? = some (I_callV 4 1 sp_X4_addSign)) (hn : ip + 1 = np) (h3 : catS r ≤ 8)  (hp : 0 ≤ M 20 1 ∧ M 20 1 < 960) (kz : ∀ M2 : Mem, (M2 = adS M s) → Z np ls r M2) : Z ip ls (mi s :: mr 20 :: r) M := w_callV1 hZ ip np hc hn rfl rfl h3 ⟨_, rfl, hp, fun M2 h => kz M2 h⟩
def cd_X4_addSign : List Sem := [I_aload 0, I_get 4 1, I_const (960), I_cge 16, I_aload 0, I_get 4 0, I_aload 0, I_get 4 1, I_iload 1, I_iast, I_aload 0, I_dup, I_get 4 1, I_const (1), I_add, I_puti 4 1, I_vret]
def pc_X4_addSign : List Nat := [0, 1, 4, 7, 10, 11, 14, 15, 18, 19, 20, 21, 22, 25, 26, 27, 30]
set_option maxRecDepth 100000 in
set_option maxHeartbeats 4000000 in
theorem b_X4_addSign (s : Int) (i_s : InR s) (M : Mem) (Ret : KR) (hp : 0 ≤ M 20 1 ∧ M 20 1 < 960) (hR : ∀ M2 : Mem, (M2 = adS M s) → Ret none M2) (hM : MOk M) (Z : KZ) (hZ : Sim cd_X4_addSign Z Ret) : Z 0 [some (mr 20), some (mi s)] [] M := by
  obtain ⟨b1, b2⟩ := hp
  refine w_aload hZ 0 1 rfl rfl rfl ?_
  refine w_geti hZ 1 2 rfl rfl rfl rfl rfl ?_
  refine w_const hZ 2 3 rfl rfl  ?_
  refine w_cge hZ 3 4 rfl rfl (fun c3 => absurd c3 (by omega)) (fun c3 => ?_)
  refine w_aload hZ 4 5 rfl rfl rfl ?_
  refine w_getr hZ 5 6 rfl rfl rfl rfl rfl ?_
  refine w_aload hZ 6 7 rfl rfl rfl ?_
  refine w_geti hZ 7 8 rfl rfl rfl rfl rfl ?_
  refine w_iload hZ 8 9 rfl rfl rfl ?_
  refine w_iast hZ 9 10 rfl rfl rfl (by omega) (by omega) ?_
  refine w_aload hZ 10 11 rfl rfl rfl ?_
  refine w_dup hZ 11 12 rfl rfl rfl ?_
  refine w_getiv hZ 12 13 rfl rfl rfl rfl rfl (v := M 20 1) rfl ?_
  refine w_const hZ 13 14 rfl rfl  ?_
  refine w_add hZ 14 15 rfl rfl (by unfold InR; omega) ?_
  refine w_puti hZ 15 16 rfl rfl rfl rfl rfl ?_
  refine w_vret hZ 16 rfl ?_
  exact hR _ rfl
set_option maxRecDepth 100000 in
set_option maxHeartbeats 4000000 in
theorem ao_X4_addSign : AllOk yX4_addSign.cls cX4_addSign 2 0 0 none none pc_X4_addSign 0 cd_X4_addSign := ⟨s_aload_n (k := 0) (by decide +kernel) rfl rfl, ⟨s_get (C := RX4) (T := TX4) (N := 8) rfl inT4 (by decide) tw_1_160 (by decide +kernel) rfl, ⟨s_sipush (by decide +kernel) rfl ⟨by decide, by decide⟩ (by decide +kernel), ⟨s_cge (off := (23)) (by decide +kernel) rfl rfl, ⟨s_aload_n (k := 0) (by decide +kernel) rfl rfl, ⟨s_get (C := RX4) (T := TX4) (N := 8) rfl inT4 (by decide) tw_1_158 (by decide +kernel) rfl, ⟨s_aload_n (k := 0) (by decide +kernel) rfl rfl, ⟨s_get (C := RX4) (T := TX4) (N := 8) rfl inT4 (by decide) tw_1_160 (by decide +kernel) rfl, ⟨s_iload_n (k := 1) (by decide +kernel) rfl rfl, ⟨s_iast (by decide +kernel) rfl, ⟨s_aload_n (k := 0) (by decide +kernel) rfl rfl, ⟨s_dup (by decide +kernel) rfl, ⟨s_get (C := RX4) (T := TX4) (N := 8) rfl inT4 (by decide) tw_1_160 (by decide +kernel) rfl, ⟨s_iconst (by decide +kernel) rfl ⟨by decide, by decide⟩, ⟨s_add (by decide +kernel) rfl, ⟨s_puti (C := RX4) (T := TX4) (N := 8) (tyf := tyX4) rfl inT4 tyX4_ok nmX4 (by decide) rfl rfl tw_1_160 (by decide +kernel) rfl, ⟨s_vret rfl (by decide +kernel), trivial⟩⟩⟩⟩⟩⟩⟩⟩⟩⟩⟩⟩⟩⟩⟩⟩⟩
theorem ct_X4_addSign : Ctr yX4_addSign cX4_addSign 2 none 0 0 sp_X4_addSign := by
  refine ctr_of (by decide +kernel) ao_X4_addSign rfl ?_
  rintro av M Ret ⟨s, rfl, hp, hR⟩ hok hM
  exact ⟨Nat.le_of_ble_eq_true rfl, fun Z hZ => b_X4_addSign  s (hok _ (List.mem_of_getElem? (i := 1) rfl)) M Ret hp hR hM Z hZ⟩
def sp_X4_failAt : SP := fun av M Ret => ∃ p : Int, ∃ k : Int, av = [mr 20, mi p, mi k] ∧ (∀ M2 : Mem, (M2 = flA M p k) → Ret none M2)
theorem k_X4_failAt {code : List Sem} {Z : KZ} {Ret : KR} {ls : List (Option MV)} {M : Mem} {r : List MV} (hZ : Sim code Z Ret) (ip np : Nat) {p k : Int} (hc : code[ip]? = some (I_callV 4 2 sp_X4_failAt)) (hn : ip + 1 = np) (h3 : catS r ≤ 8)   (kz : ∀ M2 : Mem, (M2 = flA M p k) → Z np ls r M2) : Z ip ls (mi k :: mi p :: mr 20 :: r) M := w_callV2 hZ ip np hc hn rfl rfl h3 ⟨_, _, rfl, fun M2 h => kz M2 h⟩
def cd_X4_failAt : List Sem := [I_aload 0, I_iload 2, I_puti 4 2, I_aload 0, I_iload 1, I_puti 4 3, I_vret]
def pc_X4_failAt : List Nat := [0, 1, 2, 5, 6, 7, 10]
set_option maxRecDepth 100000 in
set_option maxHeartbeats 4000000 in
theorem b_X4_failAt (p : Int) (i_p : InR p) (k : Int) (i_k : InR k) (M : Mem) (Ret : KR)  (hR : ∀ M2 : Mem, (M2 = flA M p k) → Ret none M2) (hM : MOk M) (Z : KZ) (hZ : Sim cd_X4_failAt Z Ret) : Z 0 [some (mr 20), some (mi p), some (mi k)] [] M := by
  refine w_aload hZ 0 1 rfl rfl rfl ?_
  refine w_iload hZ 1 2 rfl rfl rfl ?_
  refine w_puti hZ 2 3 rfl rfl rfl rfl rfl ?_
  refine w_aload hZ 3 4 rfl rfl rfl ?_
  refine w_iload hZ 4 5 rfl rfl rfl ?_
  refine w_puti hZ 5 6 rfl rfl rfl rfl rfl ?_
  refine w_vret hZ 6 rfl ?_
  exact hR _ rfl
set_option maxRecDepth 100000 in
set_option maxHeartbeats 4000000 in
theorem ao_X4_failAt : AllOk yX4_failAt.cls cX4_failAt 3 0 0 none none pc_X4_failAt 0 cd_X4_failAt := ⟨s_aload_n (k := 0) (by decide +kernel) rfl rfl, ⟨s_iload_n (k := 2) (by decide +kernel) rfl rfl, ⟨s_puti (C := RX4) (T := TX4) (N := 8) (tyf := tyX4) rfl inT4 tyX4_ok nmX4 (by decide) rfl rfl tw_1_162 (by decide +kernel) rfl, ⟨s_aload_n (k := 0) (by decide +kernel) rfl rfl, ⟨s_iload_n (k := 1) (by decide +kernel) rfl rfl, ⟨s_puti (C := RX4) (T := TX4) (N := 8) (tyf := tyX4) rfl inT4 tyX4_ok nmX4 (by decide) rfl rfl tw_1_164 (by decide +kernel) rfl, ⟨s_vret rfl (by decide +kernel), trivial⟩⟩⟩⟩⟩⟩⟩
theorem ct_X4_failAt : Ctr yX4_failAt cX4_failAt 3 none 0 0 sp_X4_failAt := by
  refine ctr_of (by decide +kernel) ao_X4_failAt rfl ?_
  rintro av M Ret ⟨p, k, rfl, hR⟩ hok hM
  exact ⟨Nat.le_of_ble_eq_true rfl, fun Z hZ => b_X4_failAt  p (hok _ (List.mem_of_getElem? (i := 1) rfl)) k (hok _ (List.mem_of_getElem? (i := 2) rfl)) M Ret  hR hM Z hZ⟩
def sp_X4_failWrongAt : SP := fun av M Ret => ∃ p : Int, av = [mr 20, mi p] ∧ (Bx M ∧ 0 ≤ M 20 6 ∧ M 20 6 ≤ 240) ∧ (∀ M2 : Mem, (M2 = flA M p (fk (bX M 1) (FX M p))) → Ret none M2)
theorem k_X4_failWrongAt {code : List Sem} {Z : KZ} {Ret : KR} {ls : List (Option MV)} {M : Mem} {r : List MV} (hZ : Sim code Z Ret) (ip np : Nat) {p : Int} (hc : code[ip]? = some (I_callV 4 1 sp_X4_failWrongAt)) (hn : ip + 1 = np) (h3 : catS r ≤ 8)  (hp : Bx M ∧ 0 ≤ M 20 6 ∧ M 20 6 ≤ 240) (kz : ∀ M2 : Mem, (M2 = flA M p (fk (bX M 1) (FX M p))) → Z np ls r M2) : Z ip ls (mi p :: mr 20 :: r) M := w_callV1 hZ ip np hc hn rfl rfl h3 ⟨_, rfl, hp, fun M2 h => kz M2 h⟩
def cd_X4_failWrongAt : List Sem := [I_aload 0, I_iload 1, I_aload 0, I_aload 0, I_iload 1, I_callV 4 1 sp_X4_cellAt, I_callV 4 1 sp_X4_isNoSuchCell, I_ifeq 10, I_const (1), I_goto 11, I_const (2), I_callV 4 2 sp_X4_failAt, I_vret]
def pc_X4_failWrongAt : List Nat := [0, 1, 2, 3, 4, 5, 8, 11, 14, 15, 18, 19, 22]
set_option maxRecDepth 100000 in
set_option maxHeartbeats 4000000 in
theorem b_X4_failWrongAt (p : Int) (i_p : InR p) (M : Mem) (Ret : KR) (hp : Bx M ∧ 0 ≤ M 20 6 ∧ M 20 6 ≤ 240) (hR : ∀ M2 : Mem, (M2 = flA M p (fk (bX M 1) (FX M p))) → Ret none M2) (hM : MOk M) (Z : KZ) (hZ : Sim cd_X4_failWrongAt Z Ret) : Z 0 [some (mr 20), some (mi p)] [] M := by
  obtain ⟨hb, h6⟩ := hp
  refine w_aload hZ 0 1 rfl rfl rfl ?_
  refine w_iload hZ 1 2 rfl rfl rfl ?_
  refine w_aload hZ 2 3 rfl rfl rfl ?_
  refine w_aload hZ 3 4 rfl rfl rfl ?_
  refine w_iload hZ 4 5 rfl rfl rfl ?_
  refine k_X4_cellAt hZ 5 6 rfl rfl (Nat.le_of_ble_eq_true rfl) h6 ?_
  refine k_X4_isNoSuchCell hZ 6 7 rfl rfl (Nat.le_of_ble_eq_true rfl) hb ?_
  refine w_ifeq hZ 7 8 rfl rfl (fun c7 => ?_) (fun c7 => ?_)
  · refine w_const hZ 10 11 rfl rfl  ?_
    refine k_X4_failAt hZ 11 12 rfl rfl (Nat.le_of_ble_eq_true rfl)  (fun M11 p11 => ?_)
    refine w_vret hZ 12 rfl ?_
    subst p11
    refine hR _ ?_
    unfold fk
    first
      | rw [if_pos (b2i_e.mp c7)]
      | rw [if_neg (b2i_z.mp c7)]
  · refine w_const hZ 8 9 rfl rfl  ?_
    refine w_goto hZ 9 11 rfl ?_
    refine k_X4_failAt hZ 11 12 rfl rfl (Nat.le_of_ble_eq_true rfl)  (fun M11 p11 => ?_)
    refine w_vret hZ 12 rfl ?_
    subst p11
    refine hR _ ?_
    unfold fk
    first
      | rw [if_pos (b2i_e.mp c7)]
      | rw [if_neg (b2i_z.mp c7)]
set_option maxRecDepth 100000 in
set_option maxHeartbeats 4000000 in
theorem ao_X4_failWrongAt : AllOk yX4_failWrongAt.cls cX4_failWrongAt 2 2 43 none none pc_X4_failWrongAt 0 cd_X4_failWrongAt := ⟨s_aload_n (k := 0) (by decide +kernel) rfl rfl, ⟨s_iload_n (k := 1) (by decide +kernel) rfl rfl, ⟨s_aload_n (k := 0) (by decide +kernel) rfl rfl, ⟨s_aload_n (k := 0) (by decide +kernel) rfl rfl, ⟨s_iload_n (k := 1) (by decide +kernel) rfl rfl, ⟨s_callV (C := RX4) (T := TX4) (N := 8) rfl ct_X4_cellAt (by decide) (by decide) ⟨rfl, by decide +kernel, by decide +kernel, by decide +kernel⟩ tw_3_58 tw_3_60 ts_2_6 tw_1_6 tw_3_61 (by decide +kernel) rfl, ⟨s_callV (C := RX4) (T := TX4) (N := 8) rfl ct_X4_isNoSuchCell (by decide) (by decide) ⟨rfl, by decide +kernel, by decide +kernel, by decide +kernel⟩ tw_3_88 tw_3_90 ts_2_12 tw_1_6 tw_3_91 (by decide +kernel) rfl, ⟨s_ifeq (off := (7)) (by decide +kernel) rfl rfl, ⟨s_iconst (by decide +kernel) rfl ⟨by decide, by decide⟩, ⟨s_goto (off := (4)) (by decide +kernel) rfl, ⟨s_iconst (by decide +kernel) rfl ⟨by decide, by decide⟩, ⟨s_callV (C := RX4) (T := TX4) (N := 8) rfl ct_X4_failAt (by decide) (by decide) ⟨rfl, by decide +kernel, by decide +kernel, by decide +kernel⟩ tw_3_92 tw_3_94 ts_2_13 tw_1_6 tw_3_95 (by decide +kernel) rfl, ⟨s_vret rfl (by decide +kernel), trivial⟩⟩⟩⟩⟩⟩⟩⟩⟩⟩⟩⟩⟩
theorem ct_X4_failWrongAt : Ctr yX4_failWrongAt cX4_failWrongAt 2 none 2 43 sp_X4_failWrongAt := by
  refine ctr_of (by decide +kernel) ao_X4_failWrongAt rfl ?_
  rintro av M Ret ⟨p, rfl, hp, hR⟩ hok hM
  exact ⟨Nat.le_of_ble_eq_true rfl, fun Z hZ => b_X4_failWrongAt  p (hok _ (List.mem_of_getElem? (i := 1) rfl)) M Ret hp hR hM Z hZ⟩
def sp_X4_addLetters : SP := fun av M Ret => ∃ c : Int, ∃ bs : Int, av = [mr 20, mi c, mi bs] ∧ (vOk (bX M 1) ∧ 0 ≤ M 20 1 ∧ M 20 1 + 4 ≤ 960 ∧ 0 ≤ bs ∧ bs ≤ 1000) ∧ (∀ M2 : Mem, (RS (ltrs (bX M 1) c bs) (M 20 2) (M 20 3) (M 20 7) M M2) → Ret none M2)
theorem k_X4_addLetters {code : List Sem} {Z : KZ} {Ret : KR} {ls : List (Option MV)} {M : Mem} {r : List MV} (hZ : Sim code Z Ret) (ip np : Nat) {c bs : Int} (hc : code[ip]? = some (I_callV 4 2 sp_X4_addLetters)) (hn : ip + 1 = np) (h3 : catS r ≤ 8)  (hp : vOk (bX M 1) ∧ 0 ≤ M 20 1 ∧ M 20 1 + 4 ≤ 960 ∧ 0 ≤ bs ∧ bs ≤ 1000) (kz : ∀ M2 : Mem, (RS (ltrs (bX M 1) c bs) (M 20 2) (M 20 3) (M 20 7) M M2) → Z np ls r M2) : Z ip ls (mi bs :: mi c :: mr 20 :: r) M := w_callV2 hZ ip np hc hn rfl rfl h3 ⟨_, _, rfl, hp, fun M2 h => kz M2 h⟩
def cd_X4_addLetters : List Sem := [I_iload 1, I_callS 1 sp_X6_isLetterCell, I_ifeq 11, I_aload 0, I_iload 2, I_iload 1, I_add, I_const (1), I_sub, I_callV 4 1 sp_X4_addSign, I_vret, I_aload 0, I_get 4 4, I_iload 1, I_callV 0 1 sp_X0_ruleOfCell, I_istore 3, I_iload 3, I_const (-1), I_cne 20, I_vret, I_aload 0, I_get 4 4, I_get 0 0, I_iload 3, I_iald, I_istore 4, I_iload 4, I_callS 1 sp_X6_lettersOf, I_istore 5, I_const (1), I_istore 6, I_const (1), I_istore 7, I_iload 7, I_iload 5, I_cge 42, I_iload 6, I_const (27), I_mul, I_istore 6, I_iinc 7 (1), I_goto 33, I_const (0), I_istore 7, I_iload 7, I_iload 5, I_cge 66, I_iload 6, I_ifle 66, I_aload 0, I_iload 2, I_iload 4, I_iload 6, I_div, I_const (27), I_rem, I_add, I_const (1), I_sub, I_callV 4 1 sp_X4_addSign, I_iload 6, I_const (27), I_div, I_istore 6, I_iinc 7 (1), I_goto 44, I_vret]
def pc_X4_addLetters : List Nat := [0, 1, 4, 7, 8, 9, 10, 11, 12, 13, 16, 17, 18, 21, 22, 25, 26, 27, 28, 31, 32, 33, 36, 39, 40, 41, 43, 45, 48, 50, 51, 53, 54, 56, 58, 60, 63, 65, 67, 68, 70, 73, 76, 77, 79, 81, 83, 86, 88, 91, 92, 93, 95, 97, 98, 100, 101, 102, 103, 104, 107, 109, 111, 112, 114, 117, 120]
set_option maxRecDepth 100000 in
set_option maxHeartbeats 4000000 in
theorem b_X4_addLetters (c : Int) (i_c : InR c) (bs : Int) (i_bs : InR bs) (M : Mem) (Ret : KR) (hp : vOk (bX M 1) ∧ 0 ≤ M 20 1 ∧ M 20 1 + 4 ≤ 960 ∧ 0 ≤ bs ∧ bs ≤ 1000) (hR : ∀ M2 : Mem, (RS (ltrs (bX M 1) c bs) (M 20 2) (M 20 3) (M 20 7) M M2) → Ret none M2) (hM : MOk M) (Z : KZ) (hZ : Sim cd_X4_addLetters Z Ret) : Z 0 [some (mr 20), some (mi c), some (mi bs), none, none, none, none, none] [] M := by
  obtain ⟨hv, h0, h1, s0, s1⟩ := hp
  have hb := hv.bx
  have hbb := hb
  obtain ⟨b1, b2, b3, b4⟩ := hbb
  generalize hV : bX M 1 = V at *
  have hro : rOf V c = fIx (M 3) c (M 1 4) := by rw [rOf_bX hb, hV]
  have t26 : ¬ isLC c → ¬ rOf V c = -1 → ∀ cd : Int, vC cd → cd = vC' V (rOf V c).toNat → Z 26 [some (mr 20), some (mi c), some (mi bs), none, some (mi cd), none, none, none] [] M := by
    intro hnl hne cd hcd hce
    have hlt : ltrs V c bs = cdL cd bs := by unfold ltrs; rw [if_neg hnl, if_neg hne, ← hce]
    have hln := lnC_le cd
    have hln2 := lnC_2.mpr hcd.1
    have wr : ∀ (d : Nat) (e u : Int) (N : Mem), d = (lnC cd - e).toNat → 0 ≤ e → e ≤ lnC cd → (e < lnC cd → u = p27 (lnC cd - 1 - e)) → RS ((List.range e.toNat).map fun (x : Nat) => bs + dgC cd (x : Int) - 1) (M 20 2) (M 20 3) (M 20 7) M N → Z 44 [some (mr 20), some (mi c), some (mi bs), none, some (mi cd), some (mi (lnC cd)), some (mi u), some (mi e)] [] N := by
      intro d
      induction d using Nat.strongRecOn with
      | ind d ih =>
        intro e u N hd e0 e1 hu hN
        have n1 := hN.1
        rw [List.length_map, List.length_range] at n1
        have hpp := p27_pos (lnC cd - 1 - e)
        refine w_iload hZ 44 45 rfl rfl rfl ?_
        refine w_iload hZ 45 46 rfl rfl rfl ?_
        refine w_cge hZ 46 47 rfl rfl (fun c46 => ?_) (fun c46 => ?_)
        · refine w_vret hZ 66 rfl ?_
          have he : e = lnC cd := by omega
          refine hR _ ?_
          rw [hlt]
          unfold cdL
          rw [← he]
          exact hN
        · have hue := hu (by omega)
          have hdg : dgC cd e = cd / u % 27 := by unfold dgC; rw [hue]
          have hq : 0 ≤ cd / u := Int.ediv_nonneg (by have := hcd.1; omega) (by omega)
          have hq2 : 0 ≤ cd / u % 27 ∧ cd / u % 27 < 27 := by omega
          refine w_iload hZ 47 48 rfl rfl rfl ?_
          refine w_ifle hZ 48 49 rfl rfl (fun c48 => absurd c48 (by have := hu (by omega); omega)) (fun c48 => ?_)
          refine w_aload hZ 49 50 rfl rfl rfl ?_
          refine w_iload hZ 50 51 rfl rfl rfl ?_
          refine w_iload hZ 51 52 rfl rfl rfl ?_
          refine w_iload hZ 52 53 rfl rfl rfl ?_
          refine w_div hZ 53 54 rfl rfl (by have := hcd.1; omega) (by omega) ?_
          refine w_const hZ 54 55 rfl rfl  ?_
          refine w_rem hZ 55 56 rfl rfl (by omega) (by omega) ?_
          refine w_add hZ 56 57 rfl rfl (by unfold InR; omega) ?_
          refine w_const hZ 57 58 rfl rfl  ?_
          refine w_sub hZ 58 59 rfl rfl (by unfold InR; omega) ?_
          refine k_X4_addSign hZ 59 60 rfl rfl (Nat.le_of_ble_eq_true rfl) ⟨by omega, by omega⟩ (fun M59 p59 => ?_)
          subst p59
          refine w_iload hZ 60 61 rfl rfl rfl ?_
          refine w_const hZ 61 62 rfl rfl ?_
          refine w_div hZ 62 63 rfl rfl (by omega) (by omega) ?_
          refine w_st8_6 hZ 63 64 rfl rfl rfl ?_
          refine w_in8_7 hZ 64 65 rfl rfl rfl (by unfold InR; omega) ?_
          refine w_goto hZ 65 44 rfl ?_
          refine ih ((lnC cd - (e + 1)).toNat) (by omega) (e + 1) (u / 27) _ rfl (by omega) (by omega) (fun he => ?_) ?_
          · rw [hue]
            have hx : lnC cd - 1 - e = (lnC cd - 1 - (e + 1)) + 1 := by omega
            rcases (by omega : lnC cd - 1 - (e + 1) = 0 ∨ lnC cd - 1 - (e + 1) = 1 ∨ lnC cd - 1 - (e + 1) = 2) with z | z | z <;> rw [hx, z] <;> decide
          · have hz := hN.trans (RS_1 (by omega) (bs + cd / u % 27 - 1)) h0
            rw [hN.2.2.2.1, hN.2.2.2.2.1, hN.2.2.2.2.2.2.1] at hz
            have hrg : (List.range (e + 1).toNat).map (fun (x : Nat) => bs + dgC cd (x : Int) - 1) = (List.range e.toNat).map (fun (x : Nat) => bs + dgC cd (x : Int) - 1) ++ [bs + cd / u % 27 - 1] := by
              rw [show (e + 1).toNat = e.toNat + 1 by omega, List.range_succ, List.map_append]
              simp only [List.map_cons, List.map_nil]
              rw [Int.toNat_of_nonneg e0, hdg]
            rw [hrg]; exact hz
    have un : ∀ (d : Nat) (e u : Int), d = (lnC cd - e).toNat → 1 ≤ e → e ≤ lnC cd → u = p27 (e - 1) → Z 33 [some (mr 20), some (mi c), some (mi bs), none, some (mi cd), some (mi (lnC cd)), some (mi u), some (mi e)] [] M := by
      intro d
      induction d using Nat.strongRecOn with
      | ind d ih =>
        intro e u hd e0 e1 hu
        have hub : u ≤ 19683 ∧ 1 ≤ u := by rw [hu]; unfold p27; repeat' split <;> omega
        refine w_iload hZ 33 34 rfl rfl rfl ?_
        refine w_iload hZ 34 35 rfl rfl rfl ?_
        refine w_cge hZ 35 36 rfl rfl (fun c35 => ?_) (fun c35 => ?_)
        · refine w_const hZ 42 43 rfl rfl  ?_
          refine w_st8_7 hZ 43 44 rfl rfl rfl ?_
          refine wr _ 0 u M rfl (Int.le_refl _) (by omega) (fun _ => ?_) (RS_nil M)
          rw [hu]; congr 1; omega
        · refine w_iload hZ 36 37 rfl rfl rfl ?_
          refine w_const hZ 37 38 rfl rfl  ?_
          refine w_mul hZ 38 39 rfl rfl (by unfold InR; omega) ?_
          refine w_st8_6 hZ 39 40 rfl rfl rfl ?_
          refine w_in8_7 hZ 40 41 rfl rfl rfl (by unfold InR; omega) ?_
          refine w_goto hZ 41 33 rfl ?_
          refine ih ((lnC cd - (e + 1)).toNat) (by omega) (e + 1) (u * 27) rfl (by omega) (by omega) ?_
          rw [hu]
          rcases (by omega : e = 1 ∨ e = 2 ∨ e = 3) with z | z | z <;> subst z <;> decide
    refine w_iload hZ 26 27 rfl rfl rfl ?_
    refine k_X6_lettersOf hZ 27 28 rfl rfl (Nat.le_of_ble_eq_true rfl) hcd.2.1 ?_
    refine w_st8_5 hZ 28 29 rfl rfl rfl ?_
    refine w_const hZ 29 30 rfl rfl  ?_
    refine w_st8_6 hZ 30 31 rfl rfl rfl ?_
    refine w_const hZ 31 32 rfl rfl  ?_
    refine w_st8_7 hZ 32 33 rfl rfl rfl ?_
    exact un _ 1 1 rfl (Int.le_refl _) (by omega) (by decide)
  refine w_iload hZ 0 1 rfl rfl rfl ?_
  refine k_X6_isLetterCell hZ 1 2 rfl rfl (Nat.le_of_ble_eq_true rfl)  ?_
  refine w_ifeq hZ 2 3 rfl rfl (fun c2 => ?_) (fun c2 => ?_)
  · replace c2 := b2i_z.mp c2
    refine w_aload hZ 11 12 rfl rfl rfl ?_
    refine w_getr hZ 12 13 rfl rfl rfl rfl rfl ?_
    refine w_iload hZ 13 14 rfl rfl rfl ?_
    refine k_X0_ruleOfCell hZ 14 15 rfl rfl (Nat.le_of_ble_eq_true rfl) hb ?_
    rw [← hro]
    refine w_st8_3 hZ 15 16 rfl rfl rfl ?_
    refine w_iload hZ 16 17 rfl rfl rfl ?_
    refine w_const hZ 17 18 rfl rfl  ?_
    refine w_cne hZ 18 19 rfl rfl (fun c18 => ?_) (fun c18 => ?_)
    · have hr : 0 ≤ rOf V c ∧ rOf V c < M 1 4 := by
        rcases fIx_is (M 3) c b1 with ⟨q, -⟩ | ⟨q1, q2, -⟩
        · rw [← hro] at q; exact absurd q c18
        · rw [← hro] at q1 q2; exact ⟨q1, q2⟩
      have hcc : vC' V (rOf V c).toNat = M 2 (rOf V c).toNat := by rw [← hV]; exact cut_in (by rw [hV]; omega)
      have hvc := (hv.2.2.2.2.2.2.1 (rOf V c).toNat (by rw [← hV]; show (((rOf (bX M 1) c).toNat : Nat) : Int) < M 1 4; rw [hV]; omega)).1
      refine w_aload hZ 20 21 rfl rfl rfl ?_
      refine w_getr hZ 21 22 rfl rfl rfl rfl rfl ?_
      refine w_getr hZ 22 23 rfl rfl rfl rfl rfl ?_
      refine w_iload hZ 23 24 rfl rfl rfl ?_
      refine w_iald hZ 24 25 rfl rfl rfl (by omega) (by omega) ?_
      refine w_st8_4 hZ 25 26 rfl rfl rfl ?_
      refine w_fg8_3 hZ ?_
      exact t26 c2 c18 _ (hcc ▸ hvc) hcc.symm
    · refine w_vret hZ 19 rfl ?_
      refine hR _ ?_
      unfold ltrs
      rw [if_neg c2, if_pos c18]
      exact RS_nil M
  · replace c2 := b2i_e.mp c2
    refine w_aload hZ 3 4 rfl rfl rfl ?_
    refine w_iload hZ 4 5 rfl rfl rfl ?_
    refine w_iload hZ 5 6 rfl rfl rfl ?_
    
    refine w_add hZ 6 7 rfl rfl (by unfold InR; omega) ?_
    refine w_const hZ 7 8 rfl rfl  ?_
    refine w_sub hZ 8 9 rfl rfl (by unfold InR; omega) ?_
    refine k_X4_addSign hZ 9 10 rfl rfl (Nat.le_of_ble_eq_true rfl) ⟨by omega, by omega⟩ (fun M9 p9 => ?_)
    refine w_vret hZ 10 rfl ?_
    subst p9
    refine hR _ ?_
    unfold ltrs
    rw [if_pos c2]
    exact RS_1 h0 _
set_option maxRecDepth 100000 in
set_option maxHeartbeats 4000000 in
theorem ao_X4_addLetters : AllOk yX4_addLetters.cls cX4_addLetters 8 1 23 none none pc_X4_addLetters 0 cd_X4_addLetters := ⟨s_iload_n (k := 1) (by decide +kernel) rfl rfl, ⟨s_callN ct_X6_isLetterCell (by decide) (by decide) ⟨by decide +kernel, by decide +kernel, by decide +kernel⟩ ni_15 tw_3_67 tw_1_1 tw_3_68 (by decide +kernel) rfl, ⟨s_ifeq (off := (13)) (by decide +kernel) rfl rfl, ⟨s_aload_n (k := 0) (by decide +kernel) rfl rfl, ⟨s_iload_n (k := 2) (by decide +kernel) rfl rfl, ⟨s_iload_n (k := 1) (by decide +kernel) rfl rfl, ⟨s_add (by decide +kernel) rfl, ⟨s_iconst (by decide +kernel) rfl ⟨by decide, by decide⟩, ⟨s_sub (by decide +kernel) rfl, ⟨s_callV (C := RX4) (T := TX4) (N := 8) rfl ct_X4_addSign (by decide) (by decide) ⟨rfl, by decide +kernel, by decide +kernel, by decide +kernel⟩ tw_3_79 tw_3_81 ts_2_10 tw_1_6 tw_3_82 (by decide +kernel) rfl, ⟨s_vret rfl (by decide +kernel), ⟨s_aload_n (k := 0) (by decide +kernel) rfl rfl, ⟨s_get (C := RX4) (T := TX4) (N := 8) rfl inT4 (by decide) tw_1_166 (by decide +kernel) rfl, ⟨s_iload_n (k := 1) (by decide +kernel) rfl rfl, ⟨s_callV (C := RX0) (T := TX0) (N := 8) rfl ct_X0_ruleOfCell (by decide) (by decide) ⟨rfl, by decide +kernel, by decide +kernel, by decide +kernel⟩ tw_3_74 tw_2_12 tw_2_13 tw_1_2 tw_2_14 (by decide +kernel) rfl, ⟨s_istore_n (k := 3) (by decide +kernel) rfl rfl, ⟨s_iload_n (k := 3) (by decide +kernel) rfl rfl, ⟨s_iconst (by decide +kernel) rfl ⟨by decide, by decide⟩, ⟨s_cne (off := (4)) (by decide +kernel) rfl rfl, ⟨s_vret rfl (by decide +kernel), ⟨s_aload_n (k := 0) (by decide +kernel) rfl rfl, ⟨s_get (C := RX4) (T := TX4) (N := 8) rfl inT4 (by decide) tw_1_166 (by decide +kernel) rfl, ⟨s_get (C := RX0) (T := TX0) (N := 8) rfl inT0 (by decide) tw_1_26 (by decide +kernel) rfl, ⟨s_iload_n (k := 3) (by decide +kernel) rfl rfl, ⟨s_iald (by decide +kernel) rfl, ⟨s_istore (by decide +kernel) rfl, ⟨s_iload (by decide +kernel) rfl, ⟨s_callN ct_X6_lettersOf (by decide) (by decide) ⟨by decide +kernel, by decide +kernel, by decide +kernel⟩ ni_17 tw_1_237 tw_1_1 tw_1_238 (by decide +kernel) rfl, ⟨s_istore (by decide +kernel) rfl, ⟨s_iconst (by decide +kernel) rfl ⟨by decide, by decide⟩, ⟨s_istore (by decide +kernel) rfl, ⟨s_iconst (by decide +kernel) rfl ⟨by decide, by decide⟩, ⟨s_istore (by decide +kernel) rfl, ⟨s_iload (by decide +kernel) rfl, ⟨s_iload (by decide +kernel) rfl, ⟨s_cge (off := (16)) (by decide +kernel) rfl rfl, ⟨s_iload (by decide +kernel) rfl, ⟨s_bipush (by decide +kernel) rfl ⟨by decide, by decide⟩ (by decide +kernel), ⟨s_mul (by decide +kernel) rfl, ⟨s_istore (by decide +kernel) rfl, ⟨s_iinc (by decide +kernel) rfl, ⟨s_goto (off := (-17)) (by decide +kernel) rfl, ⟨s_iconst (by decide +kernel) rfl ⟨by decide, by decide⟩, ⟨s_istore (by decide +kernel) rfl, ⟨s_iload (by decide +kernel) rfl, ⟨s_iload (by decide +kernel) rfl, ⟨s_cge (off := (37)) (by decide +kernel) rfl rfl, ⟨s_iload (by decide +kernel) rfl, ⟨s_ifle (off := (32)) (by decide +kernel) rfl rfl, ⟨s_aload_n (k := 0) (by decide +kernel) rfl rfl, ⟨s_iload_n (k := 2) (by decide +kernel) rfl rfl, ⟨s_iload (by decide +kernel) rfl, ⟨s_iload (by decide +kernel) rfl, ⟨s_div (by decide +kernel) rfl, ⟨s_bipush (by decide +kernel) rfl ⟨by decide, by decide⟩ (by decide +kernel), ⟨s_rem (by decide +kernel) rfl, ⟨s_add (by decide +kernel) rfl, ⟨s_iconst (by decide +kernel) rfl ⟨by decide, by decide⟩, ⟨s_sub (by decide +kernel) rfl, ⟨s_callV (C := RX4) (T := TX4) (N := 8) rfl ct_X4_addSign (by decide) (by decide) ⟨rfl, by decide +kernel, by decide +kernel, by decide +kernel⟩ tw_3_79 tw_3_81 ts_2_10 tw_1_6 tw_3_82 (by decide +kernel) rfl, ⟨s_iload (by decide +kernel) rfl, ⟨s_bipush (by decide +kernel) rfl ⟨by decide, by decide⟩ (by decide +kernel), ⟨s_div (by decide +kernel) rfl, ⟨s_istore (by decide +kernel) rfl, ⟨s_iinc (by decide +kernel) rfl, ⟨s_goto (off := (-38)) (by decide +kernel) rfl, ⟨s_vret rfl (by decide +kernel), trivial⟩⟩⟩⟩⟩⟩⟩⟩⟩⟩⟩⟩⟩⟩⟩⟩⟩⟩⟩⟩⟩⟩⟩⟩⟩⟩⟩⟩⟩⟩⟩⟩⟩⟩⟩⟩⟩⟩⟩⟩⟩⟩⟩⟩⟩⟩⟩⟩⟩⟩⟩⟩⟩⟩⟩⟩⟩⟩⟩⟩⟩⟩⟩⟩⟩⟩⟩
theorem ct_X4_addLetters : Ctr yX4_addLetters cX4_addLetters 8 none 1 23 sp_X4_addLetters := by
  refine ctr_of (by decide +kernel) ao_X4_addLetters rfl ?_
  rintro av M Ret ⟨c, bs, rfl, hp, hR⟩ hok hM
  exact ⟨Nat.le_of_ble_eq_true rfl, fun Z hZ => b_X4_addLetters  c (hok _ (List.mem_of_getElem? (i := 1) rfl)) bs (hok _ (List.mem_of_getElem? (i := 2) rfl)) M Ret hp hR hM Z hZ⟩
