/-! Reader: one step, all -/
/-- what a reading keeps -/
abbrev Rx (M : Mem) : Prop := vOk (bX M 1) ∧ 0 ≤ M 20 6 ∧ M 20 6 ≤ 240 ∧ 0 ≤ M 20 1
theorem FX_hi (M : Mem) {j : Int} (h : M 20 6 ≤ j) : FX M j = -1 := sgn_hi h
theorem FX_in {M : Mem} {j : Int} (h : ¬ FX M j = -1) : 0 ≤ j ∧ j < M 20 6 := by
  unfold FX sgn at h
  split at h
  · assumption
  · exact absurd rfl h
theorem flA_7 (M : Mem) (p k : Int) : flA M p k 20 7 = M 20 7 := by simp [flA, mup_at]
def sp_X4_isBehindFigures : SP := fun av M Ret => ∃ i : Int, av = [mr 20, mi i] ∧ (0 ≤ M 20 6 ∧ M 20 6 ≤ 240 ∧ -1 ≤ M 20 7 ∧ M 20 7 ≤ 240 ∧ 0 ≤ i ∧ i ≤ 240) ∧ (Ret (some (mi (b2i (bhF (FX M) (M 20 7) i)))) M)
theorem k_X4_isBehindFigures {code : List Sem} {Z : KZ} {Ret : KR} {ls : List (Option MV)} {M : Mem} {r : List MV} (hZ : Sim code Z Ret) (ip np : Nat) {i : Int} (hc : code[ip]? = some (I_callV 4 1 sp_X4_isBehindFigures)) (hn : ip + 1 = np) (h3 : catS r ≤ 8)  (hp : 0 ≤ M 20 6 ∧ M 20 6 ≤ 240 ∧ -1 ≤ M 20 7 ∧ M 20 7 ≤ 240 ∧ 0 ≤ i ∧ i ≤ 240) (kz : Z np ls (mi (b2i (bhF (FX M) (M 20 7) i)) :: r) M) : Z ip ls (mi i :: mr 20 :: r) M := w_callV1 hZ ip np hc hn rfl rfl h3 ⟨_, rfl, hp, kz⟩
def cd_X4_isBehindFigures : List Sem := [I_aload 0, I_get 4 7, I_const (-1), I_cne 6, I_const (0), I_zret, I_iload 1, I_aload 0, I_get 4 7, I_ceq 23, I_iload 1, I_aload 0, I_get 4 7, I_const (1), I_add, I_cne 25, I_aload 0, I_iload 1, I_const (1), I_sub, I_callV 4 1 sp_X4_cellAt, I_callS 1 sp_X6_isPointOrCommaCell, I_ifeq 25, I_const (1), I_goto 26, I_const (0), I_zret]
def pc_X4_isBehindFigures : List Nat := [0, 1, 4, 5, 8, 9, 10, 11, 12, 15, 18, 19, 20, 23, 24, 25, 28, 29, 30, 31, 32, 35, 38, 41, 42, 45, 46]
set_option maxRecDepth 100000 in
set_option maxHeartbeats 4000000 in
theorem b_X4_isBehindFigures (i : Int) (i_i : InR i) (M : Mem) (Ret : KR) (hp : 0 ≤ M 20 6 ∧ M 20 6 ≤ 240 ∧ -1 ≤ M 20 7 ∧ M 20 7 ≤ 240 ∧ 0 ≤ i ∧ i ≤ 240) (hR : Ret (some (mi (b2i (bhF (FX M) (M 20 7) i)))) M) (hM : MOk M) (Z : KZ) (hZ : Sim cd_X4_isBehindFigures Z Ret) : Z 0 [some (mr 20), some (mi i)] [] M := by
  obtain ⟨a1, a2, a3, a4, a5, a6⟩ := hp
  refine w_aload hZ 0 1 rfl rfl rfl ?_
  refine w_geti hZ 1 2 rfl rfl rfl rfl rfl ?_
  refine w_const hZ 2 3 rfl rfl  ?_
  refine w_cne hZ 3 4 rfl rfl (fun c3 => ?_) (fun c3 => ?_)
  · refine w_iload hZ 6 7 rfl rfl rfl ?_
    refine w_aload hZ 7 8 rfl rfl rfl ?_
    refine w_geti hZ 8 9 rfl rfl rfl rfl rfl ?_
    refine w_ceq hZ 9 10 rfl rfl (fun c9 => ?_) (fun c9 => ?_)
    · refine w_const hZ 23 24 rfl rfl  ?_
      refine w_goto hZ 24 26 rfl ?_
      refine w_zret hZ 26 rfl (by omega) ?_
      first
        | exact ret_i hR (b2i_f (fun q => q.1 c3))
        | exact ret_i hR (b2i_t ⟨c3, Or.inl c9⟩)
        | exact ret_i hR (b2i_t ⟨c3, Or.inr ⟨c15, b2i_e.mp c22⟩⟩)
        | exact ret_i hR (b2i_f (fun q => q.2.elim c9 (fun q => (b2i_z.mp c22) q.2)))
        | exact ret_i hR (b2i_f (fun q => q.2.elim c9 (fun q => c15 q.1)))
    · refine w_iload hZ 10 11 rfl rfl rfl ?_
      refine w_aload hZ 11 12 rfl rfl rfl ?_
      refine w_geti hZ 12 13 rfl rfl rfl rfl rfl ?_
      refine w_const hZ 13 14 rfl rfl  ?_
      refine w_add hZ 14 15 rfl rfl (by unfold InR; omega) ?_
      refine w_cne hZ 15 16 rfl rfl (fun c15 => ?_) (fun c15 => ?_)
      · refine w_const hZ 25 26 rfl rfl  ?_
        refine w_zret hZ 26 rfl (by omega) ?_
        first
          | exact ret_i hR (b2i_f (fun q => q.1 c3))
          | exact ret_i hR (b2i_t ⟨c3, Or.inl c9⟩)
          | exact ret_i hR (b2i_t ⟨c3, Or.inr ⟨c15, b2i_e.mp c22⟩⟩)
          | exact ret_i hR (b2i_f (fun q => q.2.elim c9 (fun q => (b2i_z.mp c22) q.2)))
          | exact ret_i hR (b2i_f (fun q => q.2.elim c9 (fun q => c15 q.1)))
      · refine w_aload hZ 16 17 rfl rfl rfl ?_
        refine w_iload hZ 17 18 rfl rfl rfl ?_
        refine w_const hZ 18 19 rfl rfl  ?_
        refine w_sub hZ 19 20 rfl rfl (by unfold InR; omega) ?_
        refine k_X4_cellAt hZ 20 21 rfl rfl (Nat.le_of_ble_eq_true rfl) ⟨a1, a2⟩ ?_
        refine k_X6_isPointOrCommaCell hZ 21 22 rfl rfl (Nat.le_of_ble_eq_true rfl)  ?_
        refine w_ifeq hZ 22 23 rfl rfl (fun c22 => ?_) (fun c22 => ?_)
        · refine w_const hZ 25 26 rfl rfl  ?_
          refine w_zret hZ 26 rfl (by omega) ?_
          first
            | exact ret_i hR (b2i_f (fun q => q.1 c3))
            | exact ret_i hR (b2i_t ⟨c3, Or.inl c9⟩)
            | exact ret_i hR (b2i_t ⟨c3, Or.inr ⟨c15, b2i_e.mp c22⟩⟩)
            | exact ret_i hR (b2i_f (fun q => q.2.elim c9 (fun q => (b2i_z.mp c22) q.2)))
            | exact ret_i hR (b2i_f (fun q => q.2.elim c9 (fun q => c15 q.1)))
        · refine w_const hZ 23 24 rfl rfl  ?_
          refine w_goto hZ 24 26 rfl ?_
          refine w_zret hZ 26 rfl (by omega) ?_
          first
            | exact ret_i hR (b2i_f (fun q => q.1 c3))
            | exact ret_i hR (b2i_t ⟨c3, Or.inl c9⟩)
            | exact ret_i hR (b2i_t ⟨c3, Or.inr ⟨c15, b2i_e.mp c22⟩⟩)
            | exact ret_i hR (b2i_f (fun q => q.2.elim c9 (fun q => (b2i_z.mp c22) q.2)))
            | exact ret_i hR (b2i_f (fun q => q.2.elim c9 (fun q => c15 q.1)))
  · refine w_const hZ 4 5 rfl rfl  ?_
    refine w_zret hZ 5 rfl (by omega) ?_
    first
      | exact ret_i hR (b2i_f (fun q => q.1 c3))
      | exact ret_i hR (b2i_t ⟨c3, Or.inl c9⟩)
      | exact ret_i hR (b2i_t ⟨c3, Or.inr ⟨c15, b2i_e.mp c22⟩⟩)
      | exact ret_i hR (b2i_f (fun q => q.2.elim c9 (fun q => (b2i_z.mp c22) q.2)))
      | exact ret_i hR (b2i_f (fun q => q.2.elim c9 (fun q => c15 q.1)))
set_option maxRecDepth 100000 in
set_option maxHeartbeats 4000000 in
theorem ao_X4_isBehindFigures : AllOk yX4_isBehindFigures.cls cX4_isBehindFigures 2 1 21 (some .boolean) none pc_X4_isBehindFigures 0 cd_X4_isBehindFigures := ⟨s_aload_n (k := 0) (by decide +kernel) rfl rfl, ⟨s_get (C := RX4) (T := TX4) (N := 8) rfl inT4 (by decide) tw_1_169 (by decide +kernel) rfl, ⟨s_iconst (by decide +kernel) rfl ⟨by decide, by decide⟩, ⟨s_cne (off := (5)) (by decide +kernel) rfl rfl, ⟨s_iconst (by decide +kernel) rfl ⟨by decide, by decide⟩, ⟨s_zret rfl (by decide +kernel), ⟨s_iload_n (k := 1) (by decide +kernel) rfl rfl, ⟨s_aload_n (k := 0) (by decide +kernel) rfl rfl, ⟨s_get (C := RX4) (T := TX4) (N := 8) rfl inT4 (by decide) tw_1_169 (by decide +kernel) rfl, ⟨s_ceq (off := (26)) (by decide +kernel) rfl rfl, ⟨s_iload_n (k := 1) (by decide +kernel) rfl rfl, ⟨s_aload_n (k := 0) (by decide +kernel) rfl rfl, ⟨s_get (C := RX4) (T := TX4) (N := 8) rfl inT4 (by decide) tw_1_169 (by decide +kernel) rfl, ⟨s_iconst (by decide +kernel) rfl ⟨by decide, by decide⟩, ⟨s_add (by decide +kernel) rfl, ⟨s_cne (off := (20)) (by decide +kernel) rfl rfl, ⟨s_aload_n (k := 0) (by decide +kernel) rfl rfl, ⟨s_iload_n (k := 1) (by decide +kernel) rfl rfl, ⟨s_iconst (by decide +kernel) rfl ⟨by decide, by decide⟩, ⟨s_sub (by decide +kernel) rfl, ⟨s_callV (C := RX4) (T := TX4) (N := 8) rfl ct_X4_cellAt (by decide) (by decide) ⟨rfl, by decide +kernel, by decide +kernel, by decide +kernel⟩ tw_3_58 tw_3_60 ts_2_6 tw_1_6 tw_3_61 (by decide +kernel) rfl, ⟨s_callN ct_X6_isPointOrCommaCell (by decide) (by decide) ⟨by decide +kernel, by decide +kernel, by decide +kernel⟩ ni_20 tw_3_111 tw_1_1 tw_3_112 (by decide +kernel) rfl, ⟨s_ifeq (off := (7)) (by decide +kernel) rfl rfl, ⟨s_iconst (by decide +kernel) rfl ⟨by decide, by decide⟩, ⟨s_goto (off := (4)) (by decide +kernel) rfl, ⟨s_iconst (by decide +kernel) rfl ⟨by decide, by decide⟩, ⟨s_zret rfl (by decide +kernel), trivial⟩⟩⟩⟩⟩⟩⟩⟩⟩⟩⟩⟩⟩⟩⟩⟩⟩⟩⟩⟩⟩⟩⟩⟩⟩⟩⟩
theorem ct_X4_isBehindFigures : Ctr yX4_isBehindFigures cX4_isBehindFigures 2 (some .boolean) 1 21 sp_X4_isBehindFigures := by
  refine ctr_of (by decide +kernel) ao_X4_isBehindFigures rfl ?_
  rintro av M Ret ⟨i, rfl, hp, hR⟩ hok hM
  exact ⟨Nat.le_of_ble_eq_true rfl, fun Z hZ => b_X4_isBehindFigures  i (hok _ (List.mem_of_getElem? (i := 1) rfl)) M Ret hp hR hM Z hZ⟩
def sp_X4_checkLetters : SP := fun av M Ret => ∃ i : Int, av = [mr 20, mi i] ∧ (Rx M ∧ -1 ≤ M 20 7 ∧ M 20 7 ≤ 240 ∧ 0 ≤ i ∧ i < M 20 6) ∧ (∀ M2 : Mem, (M2 = if bhF (FX M) (M 20 7) i ∧ (isFC (FX M (i + 1)) ∨ isRl (bX M 1) (FX M (i + 1))) then M else flA M i 2) → Ret none M2)
theorem k_X4_checkLetters {code : List Sem} {Z : KZ} {Ret : KR} {ls : List (Option MV)} {M : Mem} {r : List MV} (hZ : Sim code Z Ret) (ip np : Nat) {i : Int} (hc : code[ip]? = some (I_callV 4 1 sp_X4_checkLetters)) (hn : ip + 1 = np) (h3 : catS r ≤ 8)  (hp : Rx M ∧ -1 ≤ M 20 7 ∧ M 20 7 ≤ 240 ∧ 0 ≤ i ∧ i < M 20 6) (kz : ∀ M2 : Mem, (M2 = if bhF (FX M) (M 20 7) i ∧ (isFC (FX M (i + 1)) ∨ isRl (bX M 1) (FX M (i + 1))) then M else flA M i 2) → Z np ls r M2) : Z ip ls (mi i :: mr 20 :: r) M := w_callV1 hZ ip np hc hn rfl rfl h3 ⟨_, rfl, hp, fun M2 h => kz M2 h⟩
def cd_X4_checkLetters : List Sem := [I_aload 0, I_iload 1, I_const (1), I_add, I_callV 4 1 sp_X4_cellAt, I_istore 2, I_aload 0, I_iload 1, I_callV 4 1 sp_X4_isBehindFigures, I_ifeq 17, I_iload 2, I_callS 1 sp_X6_isFigureCell, I_ifne 21, I_aload 0, I_iload 2, I_callV 4 1 sp_X4_isRule, I_ifne 21, I_aload 0, I_iload 1, I_const (2), I_callV 4 2 sp_X4_failAt, I_vret]
def pc_X4_checkLetters : List Nat := [0, 1, 2, 3, 4, 7, 8, 9, 10, 13, 16, 17, 20, 23, 24, 25, 28, 31, 32, 33, 34, 37]
set_option maxRecDepth 100000 in
set_option maxHeartbeats 4000000 in
theorem b_X4_checkLetters (i : Int) (i_i : InR i) (M : Mem) (Ret : KR) (hp : Rx M ∧ -1 ≤ M 20 7 ∧ M 20 7 ≤ 240 ∧ 0 ≤ i ∧ i < M 20 6) (hR : ∀ M2 : Mem, (M2 = if bhF (FX M) (M 20 7) i ∧ (isFC (FX M (i + 1)) ∨ isRl (bX M 1) (FX M (i + 1))) then M else flA M i 2) → Ret none M2) (hM : MOk M) (Z : KZ) (hZ : Sim cd_X4_checkLetters Z Ret) : Z 0 [some (mr 20), some (mi i), none] [] M := by
  obtain ⟨⟨hv, h6, h6b, h1⟩, a3, a4, a5, a6⟩ := hp
  have hb := hv.bx
  have r1 : (bhF (FX M) (M 20 7) i ∧ (isFC (FX M (i + 1)) ∨ isRl (bX M 1) (FX M (i + 1)))) → Ret none M := fun h => hR M (by rw [if_pos h])
  have r2 : ¬ (bhF (FX M) (M 20 7) i ∧ (isFC (FX M (i + 1)) ∨ isRl (bX M 1) (FX M (i + 1)))) → Ret none (flA M i 2) := fun h => hR _ (by rw [if_neg h])
  refine w_aload hZ 0 1 rfl rfl rfl ?_
  refine w_iload hZ 1 2 rfl rfl rfl ?_
  refine w_const hZ 2 3 rfl rfl  ?_
  refine w_add hZ 3 4 rfl rfl (by unfold InR; omega) ?_
  refine k_X4_cellAt hZ 4 5 rfl rfl (Nat.le_of_ble_eq_true rfl) ⟨h6, h6b⟩ ?_
  refine w_st3_2 hZ 5 6 rfl rfl rfl ?_
  refine w_aload hZ 6 7 rfl rfl rfl ?_
  refine w_iload hZ 7 8 rfl rfl rfl ?_
  refine k_X4_isBehindFigures hZ 8 9 rfl rfl (Nat.le_of_ble_eq_true rfl) ⟨h6, h6b, a3, a4, a5, by omega⟩ ?_
  refine w_ifeq hZ 9 10 rfl rfl (fun c9 => ?_) (fun c9 => ?_)
  · refine w_aload hZ 17 18 rfl rfl rfl ?_
    refine w_iload hZ 18 19 rfl rfl rfl ?_
    refine w_const hZ 19 20 rfl rfl  ?_
    refine k_X4_failAt hZ 20 21 rfl rfl (Nat.le_of_ble_eq_true rfl)  (fun M20 p20 => ?_)
    refine w_vret hZ 21 rfl ?_
    first
      | exact r1 ⟨b2i_e.mp c9, Or.inl (b2i_e.mp c12)⟩
      | exact r1 ⟨b2i_e.mp c9, Or.inr (b2i_e.mp c16)⟩
      | (subst p20; exact r2 (fun q => q.2.elim (b2i_z.mp c12) (b2i_z.mp c16)))
      | (subst p20; exact r2 (fun q => (b2i_z.mp c9) q.1))
  · refine w_iload hZ 10 11 rfl rfl rfl ?_
    refine k_X6_isFigureCell hZ 11 12 rfl rfl (Nat.le_of_ble_eq_true rfl)  ?_
    refine w_ifne hZ 12 13 rfl rfl (fun c12 => ?_) (fun c12 => ?_)
    · refine w_vret hZ 21 rfl ?_
      first
        | exact r1 ⟨b2i_e.mp c9, Or.inl (b2i_e.mp c12)⟩
        | exact r1 ⟨b2i_e.mp c9, Or.inr (b2i_e.mp c16)⟩
        | (subst p20; exact r2 (fun q => q.2.elim (b2i_z.mp c12) (b2i_z.mp c16)))
        | (subst p20; exact r2 (fun q => (b2i_z.mp c9) q.1))
    · refine w_aload hZ 13 14 rfl rfl rfl ?_
      refine w_iload hZ 14 15 rfl rfl rfl ?_
      refine k_X4_isRule hZ 15 16 rfl rfl (Nat.le_of_ble_eq_true rfl) hb ?_
      refine w_ifne hZ 16 17 rfl rfl (fun c16 => ?_) (fun c16 => ?_)
      · refine w_vret hZ 21 rfl ?_
        first
          | exact r1 ⟨b2i_e.mp c9, Or.inl (b2i_e.mp c12)⟩
          | exact r1 ⟨b2i_e.mp c9, Or.inr (b2i_e.mp c16)⟩
          | (subst p20; exact r2 (fun q => q.2.elim (b2i_z.mp c12) (b2i_z.mp c16)))
          | (subst p20; exact r2 (fun q => (b2i_z.mp c9) q.1))
      · refine w_aload hZ 17 18 rfl rfl rfl ?_
        refine w_iload hZ 18 19 rfl rfl rfl ?_
        refine w_const hZ 19 20 rfl rfl  ?_
        refine k_X4_failAt hZ 20 21 rfl rfl (Nat.le_of_ble_eq_true rfl)  (fun M20 p20 => ?_)
        refine w_vret hZ 21 rfl ?_
        first
          | exact r1 ⟨b2i_e.mp c9, Or.inl (b2i_e.mp c12)⟩
          | exact r1 ⟨b2i_e.mp c9, Or.inr (b2i_e.mp c16)⟩
          | (subst p20; exact r2 (fun q => q.2.elim (b2i_z.mp c12) (b2i_z.mp c16)))
          | (subst p20; exact r2 (fun q => (b2i_z.mp c9) q.1))
set_option maxRecDepth 100000 in
set_option maxHeartbeats 4000000 in
theorem ao_X4_checkLetters : AllOk yX4_checkLetters.cls cX4_checkLetters 3 2 43 none none pc_X4_checkLetters 0 cd_X4_checkLetters := ⟨s_aload_n (k := 0) (by decide +kernel) rfl rfl, ⟨s_iload_n (k := 1) (by decide +kernel) rfl rfl, ⟨s_iconst (by decide +kernel) rfl ⟨by decide, by decide⟩, ⟨s_add (by decide +kernel) rfl, ⟨s_callV (C := RX4) (T := TX4) (N := 8) rfl ct_X4_cellAt (by decide) (by decide) ⟨rfl, by decide +kernel, by decide +kernel, by decide +kernel⟩ tw_3_58 tw_3_60 ts_2_6 tw_1_6 tw_3_61 (by decide +kernel) rfl, ⟨s_istore_n (k := 2) (by decide +kernel) rfl rfl, ⟨s_aload_n (k := 0) (by decide +kernel) rfl rfl, ⟨s_iload_n (k := 1) (by decide +kernel) rfl rfl, ⟨s_callV (C := RX4) (T := TX4) (N := 8) rfl ct_X4_isBehindFigures (by decide) (by decide) ⟨rfl, by decide +kernel, by decide +kernel, by decide +kernel⟩ tw_3_120 tw_3_122 ts_3_1 tw_1_6 tw_3_123 (by decide +kernel) rfl, ⟨s_ifeq (off := (18)) (by decide +kernel) rfl rfl, ⟨s_iload_n (k := 2) (by decide +kernel) rfl rfl, ⟨s_callN ct_X6_isFigureCell (by decide) (by decide) ⟨by decide +kernel, by decide +kernel, by decide +kernel⟩ ni_18 tw_3_105 tw_1_1 tw_3_106 (by decide +kernel) rfl, ⟨s_ifne (off := (17)) (by decide +kernel) rfl rfl, ⟨s_aload_n (k := 0) (by decide +kernel) rfl rfl, ⟨s_iload_n (k := 2) (by decide +kernel) rfl rfl, ⟨s_callV (C := RX4) (T := TX4) (N := 8) rfl ct_X4_isRule (by decide) (by decide) ⟨rfl, by decide +kernel, by decide +kernel, by decide +kernel⟩ tw_3_69 tw_3_71 ts_2_8 tw_1_6 tw_3_72 (by decide +kernel) rfl, ⟨s_ifne (off := (9)) (by decide +kernel) rfl rfl, ⟨s_aload_n (k := 0) (by decide +kernel) rfl rfl, ⟨s_iload_n (k := 1) (by decide +kernel) rfl rfl, ⟨s_iconst (by decide +kernel) rfl ⟨by decide, by decide⟩, ⟨s_callV (C := RX4) (T := TX4) (N := 8) rfl ct_X4_failAt (by decide) (by decide) ⟨rfl, by decide +kernel, by decide +kernel, by decide +kernel⟩ tw_3_92 tw_3_94 ts_2_13 tw_1_6 tw_3_95 (by decide +kernel) rfl, ⟨s_vret rfl (by decide +kernel), trivial⟩⟩⟩⟩⟩⟩⟩⟩⟩⟩⟩⟩⟩⟩⟩⟩⟩⟩⟩⟩⟩⟩
theorem ct_X4_checkLetters : Ctr yX4_checkLetters cX4_checkLetters 3 none 2 43 sp_X4_checkLetters := by
  refine ctr_of (by decide +kernel) ao_X4_checkLetters rfl ?_
  rintro av M Ret ⟨i, rfl, hp, hR⟩ hok hM
  exact ⟨Nat.le_of_ble_eq_true rfl, fun Z hZ => b_X4_checkLetters  i (hok _ (List.mem_of_getElem? (i := 1) rfl)) M Ret hp hR hM Z hZ⟩
def sp_X4_readPlain : SP := fun av M Ret => ∃ i : Int, ∃ c : Int, av = [mr 20, mi i, mi c] ∧ (Rx M ∧ M 20 1 + 4 ≤ 960) ∧ (∀ M2 : Mem, (if noCl (bX M 1) c then M2 = flA M i 1 else RS (if isLC c ∨ isRC c then ltrs (bX M 1) c 97 else [mkS c]) (M 20 2) (M 20 3) (M 20 7) M M2) → Ret none M2)
theorem k_X4_readPlain {code : List Sem} {Z : KZ} {Ret : KR} {ls : List (Option MV)} {M : Mem} {r : List MV} (hZ : Sim code Z Ret) (ip np : Nat) {i c : Int} (hc : code[ip]? = some (I_callV 4 2 sp_X4_readPlain)) (hn : ip + 1 = np) (h3 : catS r ≤ 8)  (hp : Rx M ∧ M 20 1 + 4 ≤ 960) (kz : ∀ M2 : Mem, (if noCl (bX M 1) c then M2 = flA M i 1 else RS (if isLC c ∨ isRC c then ltrs (bX M 1) c 97 else [mkS c]) (M 20 2) (M 20 3) (M 20 7) M M2) → Z np ls r M2) : Z ip ls (mi c :: mi i :: mr 20 :: r) M := w_callV2 hZ ip np hc hn rfl rfl h3 ⟨_, _, rfl, hp, fun M2 h => kz M2 h⟩
def cd_X4_readPlain : List Sem := [I_aload 0, I_iload 2, I_callV 4 1 sp_X4_isNoSuchCell, I_ifeq 9, I_aload 0, I_iload 1, I_const (1), I_callV 4 2 sp_X4_failAt, I_goto 24, I_iload 2, I_callS 1 sp_X6_isLetterCell, I_ifne 15, I_iload 2, I_callS 1 sp_X6_isRuleCell, I_ifeq 20, I_aload 0, I_iload 2, I_const (97), I_callV 4 2 sp_X4_addLetters, I_goto 24, I_aload 0, I_iload 2, I_callS 1 sp_X6_signOfMarkCell, I_callV 4 1 sp_X4_addSign, I_vret]
def pc_X4_readPlain : List Nat := [0, 1, 2, 5, 8, 9, 10, 11, 14, 17, 18, 21, 24, 25, 28, 31, 32, 33, 35, 38, 41, 42, 43, 46, 49]
set_option maxRecDepth 100000 in
set_option maxHeartbeats 4000000 in
theorem b_X4_readPlain (i : Int) (i_i : InR i) (c : Int) (i_c : InR c) (M : Mem) (Ret : KR) (hp : Rx M ∧ M 20 1 + 4 ≤ 960) (hR : ∀ M2 : Mem, (if noCl (bX M 1) c then M2 = flA M i 1 else RS (if isLC c ∨ isRC c then ltrs (bX M 1) c 97 else [mkS c]) (M 20 2) (M 20 3) (M 20 7) M M2) → Ret none M2) (hM : MOk M) (Z : KZ) (hZ : Sim cd_X4_readPlain Z Ret) : Z 0 [some (mr 20), some (mi i), some (mi c)] [] M := by
  obtain ⟨⟨hv, h6, h6b, h1⟩, h4⟩ := hp
  have hb := hv.bx
  refine w_aload hZ 0 1 rfl rfl rfl ?_
  refine w_iload hZ 1 2 rfl rfl rfl ?_
  refine k_X4_isNoSuchCell hZ 2 3 rfl rfl (Nat.le_of_ble_eq_true rfl) hb ?_
  refine w_ifeq hZ 3 4 rfl rfl (fun c3 => ?_) (fun c3 => ?_)
  · refine w_iload hZ 9 10 rfl rfl rfl ?_
    refine k_X6_isLetterCell hZ 10 11 rfl rfl (Nat.le_of_ble_eq_true rfl)  ?_
    refine w_ifne hZ 11 12 rfl rfl (fun c11 => ?_) (fun c11 => ?_)
    · refine w_aload hZ 15 16 rfl rfl rfl ?_
      refine w_iload hZ 16 17 rfl rfl rfl ?_
      refine w_const hZ 17 18 rfl rfl  ?_
      refine k_X4_addLetters hZ 18 19 rfl rfl (Nat.le_of_ble_eq_true rfl) ⟨hv, h1, h4, by omega, by omega⟩ (fun M18 p18 => ?_)
      refine w_goto hZ 19 24 rfl ?_
      refine w_vret hZ 24 rfl ?_
      first
        | (subst p7; refine hR _ ?_; rw [if_pos (b2i_e.mp c3)])
        | (subst p23; refine hR _ ?_; rw [if_neg (b2i_z.mp c3), if_neg (fun q => q.elim (b2i_z.mp c11) (b2i_z.mp c14))]; exact RS_1 h1 _)
        | (refine hR _ ?_; rw [if_neg (b2i_z.mp c3), if_pos (Or.inl (b2i_e.mp c11))]; exact p18)
        | (refine hR _ ?_; rw [if_neg (b2i_z.mp c3), if_pos (Or.inr (b2i_e.mp c14))]; exact p18)
    · refine w_iload hZ 12 13 rfl rfl rfl ?_
      refine k_X6_isRuleCell hZ 13 14 rfl rfl (Nat.le_of_ble_eq_true rfl)  ?_
      refine w_ifeq hZ 14 15 rfl rfl (fun c14 => ?_) (fun c14 => ?_)
      · refine w_aload hZ 20 21 rfl rfl rfl ?_
        refine w_iload hZ 21 22 rfl rfl rfl ?_
        refine k_X6_signOfMarkCell hZ 22 23 rfl rfl (Nat.le_of_ble_eq_true rfl)  ?_
        refine k_X4_addSign hZ 23 24 rfl rfl (Nat.le_of_ble_eq_true rfl) ⟨by omega, by omega⟩ (fun M23 p23 => ?_)
        refine w_vret hZ 24 rfl ?_
        first
          | (subst p7; refine hR _ ?_; rw [if_pos (b2i_e.mp c3)])
          | (subst p23; refine hR _ ?_; rw [if_neg (b2i_z.mp c3), if_neg (fun q => q.elim (b2i_z.mp c11) (b2i_z.mp c14))]; exact RS_1 h1 _)
          | (refine hR _ ?_; rw [if_neg (b2i_z.mp c3), if_pos (Or.inl (b2i_e.mp c11))]; exact p18)
          | (refine hR _ ?_; rw [if_neg (b2i_z.mp c3), if_pos (Or.inr (b2i_e.mp c14))]; exact p18)
      · refine w_aload hZ 15 16 rfl rfl rfl ?_
        refine w_iload hZ 16 17 rfl rfl rfl ?_
        refine w_const hZ 17 18 rfl rfl  ?_
        refine k_X4_addLetters hZ 18 19 rfl rfl (Nat.le_of_ble_eq_true rfl) ⟨hv, h1, h4, by omega, by omega⟩ (fun M18 p18 => ?_)
        refine w_goto hZ 19 24 rfl ?_
        refine w_vret hZ 24 rfl ?_
        first
          | (subst p7; refine hR _ ?_; rw [if_pos (b2i_e.mp c3)])
          | (subst p23; refine hR _ ?_; rw [if_neg (b2i_z.mp c3), if_neg (fun q => q.elim (b2i_z.mp c11) (b2i_z.mp c14))]; exact RS_1 h1 _)
          | (refine hR _ ?_; rw [if_neg (b2i_z.mp c3), if_pos (Or.inl (b2i_e.mp c11))]; exact p18)
          | (refine hR _ ?_; rw [if_neg (b2i_z.mp c3), if_pos (Or.inr (b2i_e.mp c14))]; exact p18)
  · refine w_aload hZ 4 5 rfl rfl rfl ?_
    refine w_iload hZ 5 6 rfl rfl rfl ?_
    refine w_const hZ 6 7 rfl rfl  ?_
    refine k_X4_failAt hZ 7 8 rfl rfl (Nat.le_of_ble_eq_true rfl)  (fun M7 p7 => ?_)
    refine w_goto hZ 8 24 rfl ?_
    refine w_vret hZ 24 rfl ?_
    first
      | (subst p7; refine hR _ ?_; rw [if_pos (b2i_e.mp c3)])
      | (subst p23; refine hR _ ?_; rw [if_neg (b2i_z.mp c3), if_neg (fun q => q.elim (b2i_z.mp c11) (b2i_z.mp c14))]; exact RS_1 h1 _)
      | (refine hR _ ?_; rw [if_neg (b2i_z.mp c3), if_pos (Or.inl (b2i_e.mp c11))]; exact p18)
      | (refine hR _ ?_; rw [if_neg (b2i_z.mp c3), if_pos (Or.inr (b2i_e.mp c14))]; exact p18)
set_option maxRecDepth 100000 in
set_option maxHeartbeats 4000000 in
theorem ao_X4_readPlain : AllOk yX4_readPlain.cls cX4_readPlain 3 2 50 none none pc_X4_readPlain 0 cd_X4_readPlain := ⟨s_aload_n (k := 0) (by decide +kernel) rfl rfl, ⟨s_iload_n (k := 2) (by decide +kernel) rfl rfl, ⟨s_callV (C := RX4) (T := TX4) (N := 8) rfl ct_X4_isNoSuchCell (by decide) (by decide) ⟨rfl, by decide +kernel, by decide +kernel, by decide +kernel⟩ tw_3_88 tw_3_90 ts_2_12 tw_1_6 tw_3_91 (by decide +kernel) rfl, ⟨s_ifeq (off := (12)) (by decide +kernel) rfl rfl, ⟨s_aload_n (k := 0) (by decide +kernel) rfl rfl, ⟨s_iload_n (k := 1) (by decide +kernel) rfl rfl, ⟨s_iconst (by decide +kernel) rfl ⟨by decide, by decide⟩, ⟨s_callV (C := RX4) (T := TX4) (N := 8) rfl ct_X4_failAt (by decide) (by decide) ⟨rfl, by decide +kernel, by decide +kernel, by decide +kernel⟩ tw_3_92 tw_3_94 ts_2_13 tw_1_6 tw_3_95 (by decide +kernel) rfl, ⟨s_goto (off := (35)) (by decide +kernel) rfl, ⟨s_iload_n (k := 2) (by decide +kernel) rfl rfl, ⟨s_callN ct_X6_isLetterCell (by decide) (by decide) ⟨by decide +kernel, by decide +kernel, by decide +kernel⟩ ni_15 tw_3_67 tw_1_1 tw_3_68 (by decide +kernel) rfl, ⟨s_ifne (off := (10)) (by decide +kernel) rfl rfl, ⟨s_iload_n (k := 2) (by decide +kernel) rfl rfl, ⟨s_callN ct_X6_isRuleCell (by decide) (by decide) ⟨by decide +kernel, by decide +kernel, by decide +kernel⟩ ni_16 tw_2_0 tw_1_1 tw_2_1 (by decide +kernel) rfl, ⟨s_ifeq (off := (13)) (by decide +kernel) rfl rfl, ⟨s_aload_n (k := 0) (by decide +kernel) rfl rfl, ⟨s_iload_n (k := 2) (by decide +kernel) rfl rfl, ⟨s_bipush (by decide +kernel) rfl ⟨by decide, by decide⟩ (by decide +kernel), ⟨s_callV (C := RX4) (T := TX4) (N := 8) rfl ct_X4_addLetters (by decide) (by decide) ⟨rfl, by decide +kernel, by decide +kernel, by decide +kernel⟩ tw_3_75 tw_3_77 ts_2_9 tw_1_6 tw_3_78 (by decide +kernel) rfl, ⟨s_goto (off := (11)) (by decide +kernel) rfl, ⟨s_aload_n (k := 0) (by decide +kernel) rfl rfl, ⟨s_iload_n (k := 2) (by decide +kernel) rfl rfl, ⟨s_callN ct_X6_signOfMarkCell (by decide) (by decide) ⟨by decide +kernel, by decide +kernel, by decide +kernel⟩ ni_21 tw_3_114 tw_1_1 tw_3_115 (by decide +kernel) rfl, ⟨s_callV (C := RX4) (T := TX4) (N := 8) rfl ct_X4_addSign (by decide) (by decide) ⟨rfl, by decide +kernel, by decide +kernel, by decide +kernel⟩ tw_3_79 tw_3_81 ts_2_10 tw_1_6 tw_3_82 (by decide +kernel) rfl, ⟨s_vret rfl (by decide +kernel), trivial⟩⟩⟩⟩⟩⟩⟩⟩⟩⟩⟩⟩⟩⟩⟩⟩⟩⟩⟩⟩⟩⟩⟩⟩⟩
theorem ct_X4_readPlain : Ctr yX4_readPlain cX4_readPlain 3 none 2 50 sp_X4_readPlain := by
  refine ctr_of (by decide +kernel) ao_X4_readPlain rfl ?_
  rintro av M Ret ⟨i, c, rfl, hp, hR⟩ hok hM
  exact ⟨Nat.le_of_ble_eq_true rfl, fun Z hZ => b_X4_readPlain  i (hok _ (List.mem_of_getElem? (i := 1) rfl)) c (hok _ (List.mem_of_getElem? (i := 2) rfl)) M Ret hp hR hM Z hZ⟩
def sp_X4_readCapital : SP := fun av M Ret => ∃ p : Int, av = [mr 20, mi p] ∧ (Rx M ∧ M 20 1 + 4 ≤ 960 ∧ 0 ≤ p ∧ p ≤ 240) ∧ (∀ M2 : Mem, (if isLC (FX M p) then RS [65 + FX M p - 1] (M 20 2) (M 20 3) (M 20 7) M M2 else M2 = flA M p (fk (bX M 1) (FX M p))) → Ret (some (mi (p + 1))) M2)
theorem k_X4_readCapital {code : List Sem} {Z : KZ} {Ret : KR} {ls : List (Option MV)} {M : Mem} {r : List MV} (hZ : Sim code Z Ret) (ip np : Nat) {p : Int} (hc : code[ip]? = some (I_callV 4 1 sp_X4_readCapital)) (hn : ip + 1 = np) (h3 : catS r ≤ 8)  (hp : Rx M ∧ M 20 1 + 4 ≤ 960 ∧ 0 ≤ p ∧ p ≤ 240) (kz : ∀ M2 : Mem, (if isLC (FX M p) then RS [65 + FX M p - 1] (M 20 2) (M 20 3) (M 20 7) M M2 else M2 = flA M p (fk (bX M 1) (FX M p))) → Z np ls (mi (p + 1) :: r) M2) : Z ip ls (mi p :: mr 20 :: r) M := w_callV1 hZ ip np hc hn rfl rfl h3 ⟨_, rfl, hp, fun M2 h => kz M2 h⟩
def cd_X4_readCapital : List Sem := [I_aload 0, I_iload 1, I_callV 4 1 sp_X4_cellAt, I_istore 2, I_iload 2, I_callS 1 sp_X6_isLetterCell, I_ifeq 12, I_aload 0, I_iload 2, I_const (65), I_callV 4 2 sp_X4_addLetters, I_goto 15, I_aload 0, I_iload 1, I_callV 4 1 sp_X4_failWrongAt, I_iload 1, I_const (1), I_add, I_iret]
def pc_X4_readCapital : List Nat := [0, 1, 2, 5, 6, 7, 10, 13, 14, 15, 17, 20, 23, 24, 25, 28, 29, 30, 31]
set_option maxRecDepth 100000 in
set_option maxHeartbeats 4000000 in
theorem b_X4_readCapital (p : Int) (i_p : InR p) (M : Mem) (Ret : KR) (hp : Rx M ∧ M 20 1 + 4 ≤ 960 ∧ 0 ≤ p ∧ p ≤ 240) (hR : ∀ M2 : Mem, (if isLC (FX M p) then RS [65 + FX M p - 1] (M 20 2) (M 20 3) (M 20 7) M M2 else M2 = flA M p (fk (bX M 1) (FX M p))) → Ret (some (mi (p + 1))) M2) (hM : MOk M) (Z : KZ) (hZ : Sim cd_X4_readCapital Z Ret) : Z 0 [some (mr 20), some (mi p), none] [] M := by
  obtain ⟨⟨hv, h6, h6b, h1⟩, h4, p0, p1⟩ := hp
  have hb := hv.bx
  refine w_aload hZ 0 1 rfl rfl rfl ?_
  refine w_iload hZ 1 2 rfl rfl rfl ?_
  refine k_X4_cellAt hZ 2 3 rfl rfl (Nat.le_of_ble_eq_true rfl) ⟨h6, h6b⟩ ?_
  refine w_st3_2 hZ 3 4 rfl rfl rfl ?_
  refine w_iload hZ 4 5 rfl rfl rfl ?_
  refine k_X6_isLetterCell hZ 5 6 rfl rfl (Nat.le_of_ble_eq_true rfl)  ?_
  refine w_ifeq hZ 6 7 rfl rfl (fun c6 => ?_) (fun c6 => ?_)
  · refine w_aload hZ 12 13 rfl rfl rfl ?_
    refine w_iload hZ 13 14 rfl rfl rfl ?_
    refine k_X4_failWrongAt hZ 14 15 rfl rfl (Nat.le_of_ble_eq_true rfl) ⟨hb, h6, h6b⟩ (fun M14 p14 => ?_)
    refine w_iload hZ 15 16 rfl rfl rfl ?_
    refine w_const hZ 16 17 rfl rfl  ?_
    refine w_add hZ 17 18 rfl rfl (by unfold InR; omega) ?_
    refine w_iret hZ 18 rfl ?_
    first
      | (subst p14; refine hR _ ?_; rw [if_neg (b2i_z.mp c6)])
      | (refine hR _ ?_; rw [if_pos (b2i_e.mp c6)]; unfold ltrs at p10; rw [if_pos (b2i_e.mp c6)] at p10; exact p10)
  · refine w_aload hZ 7 8 rfl rfl rfl ?_
    refine w_iload hZ 8 9 rfl rfl rfl ?_
    refine w_const hZ 9 10 rfl rfl  ?_
    refine k_X4_addLetters hZ 10 11 rfl rfl (Nat.le_of_ble_eq_true rfl) ⟨hv, h1, h4, by omega, by omega⟩ (fun M10 p10 => ?_)
    refine w_goto hZ 11 15 rfl ?_
    refine w_iload hZ 15 16 rfl rfl rfl ?_
    refine w_const hZ 16 17 rfl rfl  ?_
    refine w_add hZ 17 18 rfl rfl (by unfold InR; omega) ?_
    refine w_iret hZ 18 rfl ?_
    first
      | (subst p14; refine hR _ ?_; rw [if_neg (b2i_z.mp c6)])
      | (refine hR _ ?_; rw [if_pos (b2i_e.mp c6)]; unfold ltrs at p10; rw [if_pos (b2i_e.mp c6)] at p10; exact p10)
set_option maxRecDepth 100000 in
set_option maxHeartbeats 4000000 in
theorem ao_X4_readCapital : AllOk yX4_readCapital.cls cX4_readCapital 3 3 64 (some .int) none pc_X4_readCapital 0 cd_X4_readCapital := ⟨s_aload_n (k := 0) (by decide +kernel) rfl rfl, ⟨s_iload_n (k := 1) (by decide +kernel) rfl rfl, ⟨s_callV (C := RX4) (T := TX4) (N := 8) rfl ct_X4_cellAt (by decide) (by decide) ⟨rfl, by decide +kernel, by decide +kernel, by decide +kernel⟩ tw_3_58 tw_3_60 ts_2_6 tw_1_6 tw_3_61 (by decide +kernel) rfl, ⟨s_istore_n (k := 2) (by decide +kernel) rfl rfl, ⟨s_iload_n (k := 2) (by decide +kernel) rfl rfl, ⟨s_callN ct_X6_isLetterCell (by decide) (by decide) ⟨by decide +kernel, by decide +kernel, by decide +kernel⟩ ni_15 tw_3_67 tw_1_1 tw_3_68 (by decide +kernel) rfl, ⟨s_ifeq (off := (13)) (by decide +kernel) rfl rfl, ⟨s_aload_n (k := 0) (by decide +kernel) rfl rfl, ⟨s_iload_n (k := 2) (by decide +kernel) rfl rfl, ⟨s_bipush (by decide +kernel) rfl ⟨by decide, by decide⟩ (by decide +kernel), ⟨s_callV (C := RX4) (T := TX4) (N := 8) rfl ct_X4_addLetters (by decide) (by decide) ⟨rfl, by decide +kernel, by decide +kernel, by decide +kernel⟩ tw_3_75 tw_3_77 ts_2_9 tw_1_6 tw_3_78 (by decide +kernel) rfl, ⟨s_goto (off := (8)) (by decide +kernel) rfl, ⟨s_aload_n (k := 0) (by decide +kernel) rfl rfl, ⟨s_iload_n (k := 1) (by decide +kernel) rfl rfl, ⟨s_callV (C := RX4) (T := TX4) (N := 8) rfl ct_X4_failWrongAt (by decide) (by decide) ⟨rfl, by decide +kernel, by decide +kernel, by decide +kernel⟩ tw_3_84 tw_3_86 ts_2_11 tw_1_6 tw_3_87 (by decide +kernel) rfl, ⟨s_iload_n (k := 1) (by decide +kernel) rfl rfl, ⟨s_iconst (by decide +kernel) rfl ⟨by decide, by decide⟩, ⟨s_add (by decide +kernel) rfl, ⟨s_iret rfl (by decide +kernel), trivial⟩⟩⟩⟩⟩⟩⟩⟩⟩⟩⟩⟩⟩⟩⟩⟩⟩⟩⟩
theorem ct_X4_readCapital : Ctr yX4_readCapital cX4_readCapital 3 (some .int) 3 64 sp_X4_readCapital := by
  refine ctr_of (by decide +kernel) ao_X4_readCapital rfl ?_
  rintro av M Ret ⟨p, rfl, hp, hR⟩ hok hM
  exact ⟨Nat.le_of_ble_eq_true rfl, fun Z hZ => b_X4_readCapital  p (hok _ (List.mem_of_getElem? (i := 1) rfl)) M Ret hp hR hM Z hZ⟩
def sp_X4_readCapitals : SP := fun av M Ret => ∃ b : Int, av = [mr 20, mi b] ∧ (Rx M ∧ M 20 1 + 4 * (M 20 6 - b) + 4 ≤ 960 ∧ 0 ≤ b ∧ b ≤ M 20 6) ∧ (∀ M2 : Mem, (if (crF (bX M 1) (FX M) (M 20 6 - b).toNat b).1 = b then M2 = flA M b (fk (bX M 1) (FX M b)) else RS (crF (bX M 1) (FX M) (M 20 6 - b).toNat b).2 (M 20 2) (M 20 3) (M 20 7) M M2) → Ret (some (mi ((crF (bX M 1) (FX M) (M 20 6 - b).toNat b).1))) M2)
theorem k_X4_readCapitals {code : List Sem} {Z : KZ} {Ret : KR} {ls : List (Option MV)} {M : Mem} {r : List MV} (hZ : Sim code Z Ret) (ip np : Nat) {b : Int} (hc : code[ip]? = some (I_callV 4 1 sp_X4_readCapitals)) (hn : ip + 1 = np) (h3 : catS r ≤ 8)  (hp : Rx M ∧ M 20 1 + 4 * (M 20 6 - b) + 4 ≤ 960 ∧ 0 ≤ b ∧ b ≤ M 20 6) (kz : ∀ M2 : Mem, (if (crF (bX M 1) (FX M) (M 20 6 - b).toNat b).1 = b then M2 = flA M b (fk (bX M 1) (FX M b)) else RS (crF (bX M 1) (FX M) (M 20 6 - b).toNat b).2 (M 20 2) (M 20 3) (M 20 7) M M2) → Z np ls (mi ((crF (bX M 1) (FX M) (M 20 6 - b).toNat b).1) :: r) M2) : Z ip ls (mi b :: mr 20 :: r) M := w_callV1 hZ ip np hc hn rfl rfl h3 ⟨_, rfl, hp, fun M2 h => kz M2 h⟩
def cd_X4_readCapitals : List Sem := [I_iload 1, I_istore 2, I_iload 2, I_aload 0, I_get 4 6, I_cgt 32, I_aload 0, I_iload 2, I_callV 4 1 sp_X4_cellAt, I_istore 3, I_iload 3, I_callS 1 sp_X6_isLetterCell, I_ifne 17, I_aload 0, I_iload 3, I_callV 4 1 sp_X4_isRule, I_ifeq 22, I_aload 0, I_iload 3, I_const (65), I_callV 4 2 sp_X4_addLetters, I_goto 30, I_iload 2, I_iload 1, I_cne 28, I_aload 0, I_iload 2, I_callV 4 1 sp_X4_failWrongAt, I_iload 2, I_iret, I_iinc 2 (1), I_goto 2, I_aload 0, I_get 4 6, I_iret]
def pc_X4_readCapitals : List Nat := [0, 1, 2, 3, 4, 7, 10, 11, 12, 15, 16, 17, 20, 23, 24, 25, 28, 31, 32, 33, 35, 38, 41, 42, 43, 46, 47, 48, 51, 52, 53, 56, 59, 60, 63]
set_option maxRecDepth 100000 in
set_option maxHeartbeats 4000000 in
theorem b_X4_readCapitals (b : Int) (i_b : InR b) (M : Mem) (Ret : KR) (hp : Rx M ∧ M 20 1 + 4 * (M 20 6 - b) + 4 ≤ 960 ∧ 0 ≤ b ∧ b ≤ M 20 6) (hR : ∀ M2 : Mem, (if (crF (bX M 1) (FX M) (M 20 6 - b).toNat b).1 = b then M2 = flA M b (fk (bX M 1) (FX M b)) else RS (crF (bX M 1) (FX M) (M 20 6 - b).toNat b).2 (M 20 2) (M 20 3) (M 20 7) M M2) → Ret (some (mi ((crF (bX M 1) (FX M) (M 20 6 - b).toNat b).1))) M2) (hM : MOk M) (Z : KZ) (hZ : Sim cd_X4_readCapitals Z Ret) : Z 0 [some (mr 20), some (mi b), none, none] [] M := by
  obtain ⟨⟨hv, h6, h6b, h1⟩, h4, p0, p1⟩ := hp
  generalize hV : bX M 1 = V at *
  generalize hF : FX M = F at *
  generalize hm : M 20 6 = m at *
  have hFm : F m = -1 := by rw [← hF, ← hm]; exact FX_hi M (Int.le_refl _)
  have loop : ∀ (d : Nat) (j : Int) (D : List Int) (N : Mem), d = (m - j).toNat → b ≤ j → j ≤ m → RS D (M 20 2) (M 20 3) (M 20 7) M N → (D.length : Int) ≤ 4 * (j - b) → crF V F (m - b).toNat b = ((crF V F (m - j).toNat j).1, D ++ (crF V F (m - j).toNat j).2) → (j = b → N = M) → Z 2 [some (mr 20), some (mi b), some (mi j), none] [] N := by
    intro d
    induction d using Nat.strongRecOn with
    | ind d ih =>
      intro j D N hd j0 j1 hN hl hc hjb
      have hbN : bX N 1 = V := hN.bx.trans hV
      have hFN : FX N = F := hN.fx.trans hF
      have hvN : vOk (bX N 1) := by rw [hbN]; exact hv
      have hBN := hvN.bx
      have e6 : N 20 6 = m := hN.2.2.2.2.2.1.trans hm
      have n1 := hN.1
      have hcs := crF_spec V F (m - (j + 1)).toNat (j + 1)
      have hstep : (isLC (F j) ∨ isRl V (F j)) → j < m ∧ crF V F (m - j).toNat j = ((crF V F (m - (j + 1)).toNat (j + 1)).1, ltrs V (F j) 65 ++ (crF V F (m - (j + 1)).toNat (j + 1)).2) := by
        intro h
        have hjm : j < m := by
          rcases Int.lt_or_eq_of_le j1 with q | q
          · exact q
          · rw [q, hFm] at h
            exfalso
            rcases h with h | h
            · simp only [isLC] at h; omega
            · have := h.1; simp only [isRC] at this; omega
        refine ⟨hjm, ?_⟩
        rw [show (m - j).toNat = (m - (j + 1)).toNat + 1 by omega]
        conv => lhs; unfold crF
        rw [if_pos h]
      have hstop : ¬ (isLC (F j) ∨ isRl V (F j)) → crF V F (m - j).toNat j = (j, []) := by
        intro h
        cases hk : (m - j).toNat with
        | zero => rfl
        | succ k => unfold crF; rw [if_neg h]
      have go : (isLC (F j) ∨ isRl V (F j)) → ∀ N2 : Mem, RS (ltrs V (F j) 65) (N 20 2) (N 20 3) (N 20 7) N N2 → Z 30 [some (mr 20), some (mi b), some (mi j), some (mi (F j))] [] N2 := by
        intro h N2 h2
        obtain ⟨hjm, hst⟩ := hstep h
        refine w_in4_2 hZ 30 31 rfl rfl rfl (by unfold InR; omega) ?_
        refine w_goto hZ 31 2 rfl ?_
        refine w_fg4_3 hZ ?_
        rw [hN.2.2.2.1, hN.2.2.2.2.1, hN.2.2.2.2.2.2.1] at h2
        have hll := ltrs_len V (F j) 65
        refine ih ((m - (j + 1)).toNat) (by omega) (j + 1) (D ++ ltrs V (F j) 65) N2 rfl (by omega) (by omega) (hN.trans h2 h1) (by rw [List.length_append]; omega) ?_ (fun q => by omega)
        rw [hc, hst, List.append_assoc]
      refine w_iload hZ 2 3 rfl rfl rfl ?_
      refine w_aload hZ 3 4 rfl rfl rfl ?_
      refine w_getiv hZ 4 5 rfl rfl rfl rfl rfl (v := m) e6 ?_
      refine w_cgt hZ 5 6 rfl rfl (fun c5 => absurd c5 (by omega)) (fun c5 => ?_)
      refine w_aload hZ 6 7 rfl rfl rfl ?_
      refine w_iload hZ 7 8 rfl rfl rfl ?_
      refine k_X4_cellAt hZ 8 9 rfl rfl (Nat.le_of_ble_eq_true rfl) ⟨by omega, by omega⟩ ?_
      rw [hFN]
      refine w_st4_3 hZ 9 10 rfl rfl rfl ?_
      refine w_iload hZ 10 11 rfl rfl rfl ?_
      refine k_X6_isLetterCell hZ 11 12 rfl rfl (Nat.le_of_ble_eq_true rfl)  ?_
      refine w_ifne hZ 12 13 rfl rfl (fun c12 => ?_) (fun c12 => ?_)
      · 
        refine w_aload hZ 17 18 rfl rfl rfl ?_
        refine w_iload hZ 18 19 rfl rfl rfl ?_
        refine w_const hZ 19 20 rfl rfl  ?_
        refine k_X4_addLetters hZ 20 21 rfl rfl (Nat.le_of_ble_eq_true rfl) ⟨hvN, by omega, by omega, by omega, by omega⟩ (fun M20 p20 => ?_)
        refine w_goto hZ 21 30 rfl ?_
        rw [hbN] at p20
        first
          | exact go (Or.inl (b2i_e.mp c12)) _ p20
          | exact go (Or.inr (b2i_e.mp c16)) _ p20
      · refine w_aload hZ 13 14 rfl rfl rfl ?_
        refine w_iload hZ 14 15 rfl rfl rfl ?_
        refine k_X4_isRule hZ 15 16 rfl rfl (Nat.le_of_ble_eq_true rfl) hBN ?_
        rw [hbN]
        refine w_ifeq hZ 16 17 rfl rfl (fun c16 => ?_) (fun c16 => ?_)
        · refine w_iload hZ 22 23 rfl rfl rfl ?_
          refine w_iload hZ 23 24 rfl rfl rfl ?_
          refine w_cne hZ 24 25 rfl rfl (fun c24 => ?_) (fun c24 => ?_)
          · have hst := hstop (fun q => q.elim (b2i_z.mp c12) (b2i_z.mp c16))
            rw [hst] at hc
            simp only [List.append_nil] at hc
            refine w_iload hZ 28 29 rfl rfl rfl ?_
            refine w_iret hZ 29 rfl ?_
            rw [show j = (crF V F (m - b).toNat b).1 by rw [hc]]
            refine hR _ ?_
            first
              | (have hj : j = b := c24
                 rw [hjb hj] at p27
                 rw [if_pos (by rw [hc]; exact hj), p27, hV, hF, hj])
              | (rw [if_neg (by rw [hc]; exact c24), hc]; exact hN)
          · refine w_aload hZ 25 26 rfl rfl rfl ?_
            refine w_iload hZ 26 27 rfl rfl rfl ?_
            refine k_X4_failWrongAt hZ 27 28 rfl rfl (Nat.le_of_ble_eq_true rfl) ⟨hBN, by omega, by omega⟩ (fun M27 p27 => ?_)
            have hst := hstop (fun q => q.elim (b2i_z.mp c12) (b2i_z.mp c16))
            rw [hst] at hc
            simp only [List.append_nil] at hc
            refine w_iload hZ 28 29 rfl rfl rfl ?_
            refine w_iret hZ 29 rfl ?_
            rw [show j = (crF V F (m - b).toNat b).1 by rw [hc]]
            refine hR _ ?_
            first
              | (have hj : j = b := c24
                 rw [hjb hj] at p27
                 rw [if_pos (by rw [hc]; exact hj), p27, hV, hF, hj])
              | (rw [if_neg (by rw [hc]; exact c24), hc]; exact hN)
        · 
          refine w_aload hZ 17 18 rfl rfl rfl ?_
          refine w_iload hZ 18 19 rfl rfl rfl ?_
          refine w_const hZ 19 20 rfl rfl  ?_
          refine k_X4_addLetters hZ 20 21 rfl rfl (Nat.le_of_ble_eq_true rfl) ⟨hvN, by omega, by omega, by omega, by omega⟩ (fun M20 p20 => ?_)
          refine w_goto hZ 21 30 rfl ?_
          rw [hbN] at p20
          first
            | exact go (Or.inl (b2i_e.mp c12)) _ p20
            | exact go (Or.inr (b2i_e.mp c16)) _ p20
  refine w_iload hZ 0 1 rfl rfl rfl ?_
  refine w_st4_2 hZ 1 2 rfl rfl rfl ?_
  exact loop _ b [] M rfl (Int.le_refl _) p1 (RS_nil M) (by simp) (by simp) (fun _ => rfl)
set_option maxRecDepth 100000 in
set_option maxHeartbeats 4000000 in
theorem ao_X4_readCapitals : AllOk yX4_readCapitals.cls cX4_readCapitals 4 3 64 (some .int) none pc_X4_readCapitals 0 cd_X4_readCapitals := ⟨s_iload_n (k := 1) (by decide +kernel) rfl rfl, ⟨s_istore_n (k := 2) (by decide +kernel) rfl rfl, ⟨s_iload_n (k := 2) (by decide +kernel) rfl rfl, ⟨s_aload_n (k := 0) (by decide +kernel) rfl rfl, ⟨s_get (C := RX4) (T := TX4) (N := 8) rfl inT4 (by decide) tw_1_168 (by decide +kernel) rfl, ⟨s_cgt (off := (52)) (by decide +kernel) rfl rfl, ⟨s_aload_n (k := 0) (by decide +kernel) rfl rfl, ⟨s_iload_n (k := 2) (by decide +kernel) rfl rfl, ⟨s_callV (C := RX4) (T := TX4) (N := 8) rfl ct_X4_cellAt (by decide) (by decide) ⟨rfl, by decide +kernel, by decide +kernel, by decide +kernel⟩ tw_3_58 tw_3_60 ts_2_6 tw_1_6 tw_3_61 (by decide +kernel) rfl, ⟨s_istore_n (k := 3) (by decide +kernel) rfl rfl, ⟨s_iload_n (k := 3) (by decide +kernel) rfl rfl, ⟨s_callN ct_X6_isLetterCell (by decide) (by decide) ⟨by decide +kernel, by decide +kernel, by decide +kernel⟩ ni_15 tw_3_67 tw_1_1 tw_3_68 (by decide +kernel) rfl, ⟨s_ifne (off := (11)) (by decide +kernel) rfl rfl, ⟨s_aload_n (k := 0) (by decide +kernel) rfl rfl, ⟨s_iload_n (k := 3) (by decide +kernel) rfl rfl, ⟨s_callV (C := RX4) (T := TX4) (N := 8) rfl ct_X4_isRule (by decide) (by decide) ⟨rfl, by decide +kernel, by decide +kernel, by decide +kernel⟩ tw_3_69 tw_3_71 ts_2_8 tw_1_6 tw_3_72 (by decide +kernel) rfl, ⟨s_ifeq (off := (13)) (by decide +kernel) rfl rfl, ⟨s_aload_n (k := 0) (by decide +kernel) rfl rfl, ⟨s_iload_n (k := 3) (by decide +kernel) rfl rfl, ⟨s_bipush (by decide +kernel) rfl ⟨by decide, by decide⟩ (by decide +kernel), ⟨s_callV (C := RX4) (T := TX4) (N := 8) rfl ct_X4_addLetters (by decide) (by decide) ⟨rfl, by decide +kernel, by decide +kernel, by decide +kernel⟩ tw_3_75 tw_3_77 ts_2_9 tw_1_6 tw_3_78 (by decide +kernel) rfl, ⟨s_goto (off := (15)) (by decide +kernel) rfl, ⟨s_iload_n (k := 2) (by decide +kernel) rfl rfl, ⟨s_iload_n (k := 1) (by decide +kernel) rfl rfl, ⟨s_cne (off := (8)) (by decide +kernel) rfl rfl, ⟨s_aload_n (k := 0) (by decide +kernel) rfl rfl, ⟨s_iload_n (k := 2) (by decide +kernel) rfl rfl, ⟨s_callV (C := RX4) (T := TX4) (N := 8) rfl ct_X4_failWrongAt (by decide) (by decide) ⟨rfl, by decide +kernel, by decide +kernel, by decide +kernel⟩ tw_3_84 tw_3_86 ts_2_11 tw_1_6 tw_3_87 (by decide +kernel) rfl, ⟨s_iload_n (k := 2) (by decide +kernel) rfl rfl, ⟨s_iret rfl (by decide +kernel), ⟨s_iinc (by decide +kernel) rfl, ⟨s_goto (off := (-54)) (by decide +kernel) rfl, ⟨s_aload_n (k := 0) (by decide +kernel) rfl rfl, ⟨s_get (C := RX4) (T := TX4) (N := 8) rfl inT4 (by decide) tw_1_168 (by decide +kernel) rfl, ⟨s_iret rfl (by decide +kernel), trivial⟩⟩⟩⟩⟩⟩⟩⟩⟩⟩⟩⟩⟩⟩⟩⟩⟩⟩⟩⟩⟩⟩⟩⟩⟩⟩⟩⟩⟩⟩⟩⟩⟩⟩⟩
theorem ct_X4_readCapitals : Ctr yX4_readCapitals cX4_readCapitals 4 (some .int) 3 64 sp_X4_readCapitals := by
  refine ctr_of (by decide +kernel) ao_X4_readCapitals rfl ?_
  rintro av M Ret ⟨b, rfl, hp, hR⟩ hok hM
  exact ⟨Nat.le_of_ble_eq_true rfl, fun Z hZ => b_X4_readCapitals  b (hok _ (List.mem_of_getElem? (i := 1) rfl)) M Ret hp hR hM Z hZ⟩
def sp_X4_readFigures : SP := fun av M Ret => ∃ b : Int, av = [mr 20, mi b] ∧ (Rx M ∧ M 20 1 + 4 * (M 20 6 - b) + 4 ≤ 960 ∧ 0 ≤ b ∧ b ≤ M 20 6) ∧ (∀ M2 : Mem, (if isFC (FX M b) then RS (frF (FX M) (M 20 6 - b).toNat b).2 (M 20 2) (M 20 3) (frF (FX M) (M 20 6 - b).toNat b).1 M M2 else M2 = flA M b (fk (bX M 1) (FX M b))) → Ret (some (mi (if isFC (FX M b) then (frF (FX M) (M 20 6 - b).toNat b).1 else b))) M2)
theorem k_X4_readFigures {code : List Sem} {Z : KZ} {Ret : KR} {ls : List (Option MV)} {M : Mem} {r : List MV} (hZ : Sim code Z Ret) (ip np : Nat) {b : Int} (hc : code[ip]? = some (I_callV 4 1 sp_X4_readFigures)) (hn : ip + 1 = np) (h3 : catS r ≤ 8)  (hp : Rx M ∧ M 20 1 + 4 * (M 20 6 - b) + 4 ≤ 960 ∧ 0 ≤ b ∧ b ≤ M 20 6) (kz : ∀ M2 : Mem, (if isFC (FX M b) then RS (frF (FX M) (M 20 6 - b).toNat b).2 (M 20 2) (M 20 3) (frF (FX M) (M 20 6 - b).toNat b).1 M M2 else M2 = flA M b (fk (bX M 1) (FX M b))) → Z np ls (mi (if isFC (FX M b) then (frF (FX M) (M 20 6 - b).toNat b).1 else b) :: r) M2) : Z ip ls (mi b :: mr 20 :: r) M := w_callV1 hZ ip np hc hn rfl rfl h3 ⟨_, rfl, hp, fun M2 h => kz M2 h⟩
def cd_X4_readFigures : List Sem := [I_aload 0, I_iload 1, I_callV 4 1 sp_X4_cellAt, I_callS 1 sp_X6_isFigureCell, I_ifne 10, I_aload 0, I_iload 1, I_callV 4 1 sp_X4_failWrongAt, I_iload 1, I_iret, I_iload 1, I_istore 2, I_iload 2, I_aload 0, I_get 4 6, I_cge 49, I_aload 0, I_iload 2, I_callV 4 1 sp_X4_cellAt, I_istore 3, I_iload 3, I_callS 1 sp_X6_isFigureCell, I_ifeq 33, I_aload 0, I_iload 3, I_callS 1 sp_X6_signOfFigureCell, I_callV 4 1 sp_X4_addSign, I_aload 0, I_iload 2, I_const (1), I_add, I_puti 4 7, I_goto 47, I_iload 3, I_callS 1 sp_X6_isPointOrCommaCell, I_ifeq 49, I_aload 0, I_iload 2, I_const (1), I_add, I_callV 4 1 sp_X4_cellAt, I_callS 1 sp_X6_isFigureCell, I_ifeq 49, I_aload 0, I_iload 3, I_callS 1 sp_X6_signOfMarkCell, I_callV 4 1 sp_X4_addSign, I_iinc 2 (1), I_goto 12, I_aload 0, I_get 4 7, I_iret]
def pc_X4_readFigures : List Nat := [0, 1, 2, 5, 8, 11, 12, 13, 16, 17, 18, 19, 20, 21, 22, 25, 28, 29, 30, 33, 34, 35, 38, 41, 42, 43, 46, 49, 50, 51, 52, 53, 56, 59, 60, 63, 66, 67, 68, 69, 70, 73, 76, 79, 80, 81, 84, 87, 90, 93, 94, 97]
set_option maxRecDepth 100000 in
set_option maxHeartbeats 4000000 in
theorem b_X4_readFigures (b : Int) (i_b : InR b) (M : Mem) (Ret : KR) (hp : Rx M ∧ M 20 1 + 4 * (M 20 6 - b) + 4 ≤ 960 ∧ 0 ≤ b ∧ b ≤ M 20 6) (hR : ∀ M2 : Mem, (if isFC (FX M b) then RS (frF (FX M) (M 20 6 - b).toNat b).2 (M 20 2) (M 20 3) (frF (FX M) (M 20 6 - b).toNat b).1 M M2 else M2 = flA M b (fk (bX M 1) (FX M b))) → Ret (some (mi (if isFC (FX M b) then (frF (FX M) (M 20 6 - b).toNat b).1 else b))) M2) (hM : MOk M) (Z : KZ) (hZ : Sim cd_X4_readFigures Z Ret) : Z 0 [some (mr 20), some (mi b), none, none] [] M := by
  obtain ⟨⟨hv, h6, h6b, h1⟩, h4, p0, p1⟩ := hp
  have hb := hv.bx
  have hFX : ∀ j, M 20 6 ≤ j → FX M j = -1 := fun j h => FX_hi M h
  generalize hV : bX M 1 = V at *
  generalize hF : FX M = F at *
  generalize hm : M 20 6 = m at *
  have hin : ∀ j, ¬ F j = -1 → j < m := fun j h => Decidable.byContradiction fun q => h (hFX j (by omega))
  have loop : isFC (F b) → ∀ (d : Nat) (j : Int) (D : List Int) (N : Mem), d = (m - j).toNat → b ≤ j → j ≤ m → RS D (M 20 2) (M 20 3) (N 20 7) M N → (D.length : Int) = j - b → frF F (m - b).toNat b = ((frF F (m - j).toNat j).1, D ++ (frF F (m - j).toNat j).2) → (isFC (F j) ∨ N 20 7 = j) → Z 12 [some (mr 20), some (mi b), some (mi j), none] [] N := by
    intro hfb d
    induction d using Nat.strongRecOn with
    | ind d ih =>
      intro j D N hd j0 j1 hN hl hc hfe
      have hFN : FX N = F := hN.fx.trans hF
      have e6 : N 20 6 = m := hN.2.2.2.2.2.1.trans hm
      have n1 := hN.1
      have hs1 : j < m → isFC (F j) → frF F (m - j).toNat j = ((frF F (m - (j + 1)).toNat (j + 1)).1, fgS (F j) :: (frF F (m - (j + 1)).toNat (j + 1)).2) := by
        intro hjm h
        rw [show (m - j).toNat = (m - (j + 1)).toNat + 1 by omega]
        conv => lhs; unfold frF
        rw [if_pos h]
      have hs2 : j < m → ¬ isFC (F j) → isPCC (F j) ∧ isFC (F (j + 1)) → frF F (m - j).toNat j = ((frF F (m - (j + 1)).toNat (j + 1)).1, mkS (F j) :: (frF F (m - (j + 1)).toNat (j + 1)).2) := by
        intro hjm h h2
        rw [show (m - j).toNat = (m - (j + 1)).toNat + 1 by omega]
        conv => lhs; unfold frF
        rw [if_neg h, if_pos h2]
      have hs3 : ¬ isFC (F j) → ¬ (isPCC (F j) ∧ isFC (F (j + 1))) → frF F (m - j).toNat j = (j, []) := by
        intro h h2
        cases hk : (m - j).toNat with
        | zero => rfl
        | succ k => unfold frF; rw [if_neg h, if_neg h2]
      have fin : frF F (m - j).toNat j = (j, []) → ¬ isFC (F j) → ∀ x : Option MV, Z 49 [some (mr 20), some (mi b), some (mi j), x] [] N := by
        intro hst hnf x
        have h7 : N 20 7 = j := hfe.elim (fun q => absurd q hnf) id
        rw [hst] at hc
        simp only [List.append_nil] at hc
        refine w_aload hZ 49 50 rfl rfl rfl ?_
        refine w_getiv hZ 50 51 rfl rfl rfl rfl rfl (v := j) h7 ?_
        refine w_iret hZ 51 rfl ?_
        rw [if_pos hfb, hc] at hR
        refine hR _ ?_
        rw [if_pos hfb, ← h7]
        exact hN
      refine w_iload hZ 12 13 rfl rfl rfl ?_
      refine w_aload hZ 13 14 rfl rfl rfl ?_
      refine w_getiv hZ 14 15 rfl rfl rfl rfl rfl (v := m) e6 ?_
      refine w_cge hZ 15 16 rfl rfl (fun c15 => ?_) (fun c15 => ?_)
      · first
          | (refine fin ?_ ?_ _
             · rw [show (m - j).toNat = 0 by omega]; rfl
             · intro q; have := hin j (by simp only [isFC] at q; omega); omega)
          | exact fin (hs3 (b2i_z.mp c22) (fun q => (b2i_z.mp c35) q.1)) (b2i_z.mp c22) _
          | exact fin (hs3 (b2i_z.mp c22) (fun q => (b2i_z.mp c42) q.2)) (b2i_z.mp c22) _
      · refine w_aload hZ 16 17 rfl rfl rfl ?_
        refine w_iload hZ 17 18 rfl rfl rfl ?_
        refine k_X4_cellAt hZ 18 19 rfl rfl (Nat.le_of_ble_eq_true rfl) ⟨by omega, by omega⟩ ?_
        rw [hFN]
        refine w_st4_3 hZ 19 20 rfl rfl rfl ?_
        refine w_iload hZ 20 21 rfl rfl rfl ?_
        refine k_X6_isFigureCell hZ 21 22 rfl rfl (Nat.le_of_ble_eq_true rfl)  ?_
        refine w_ifeq hZ 22 23 rfl rfl (fun c22 => ?_) (fun c22 => ?_)
        · refine w_iload hZ 33 34 rfl rfl rfl ?_
          refine k_X6_isPointOrCommaCell hZ 34 35 rfl rfl (Nat.le_of_ble_eq_true rfl)  ?_
          refine w_ifeq hZ 35 36 rfl rfl (fun c35 => ?_) (fun c35 => ?_)
          · first
              | (refine fin ?_ ?_ _
                 · rw [show (m - j).toNat = 0 by omega]; rfl
                 · intro q; have := hin j (by simp only [isFC] at q; omega); omega)
              | exact fin (hs3 (b2i_z.mp c22) (fun q => (b2i_z.mp c35) q.1)) (b2i_z.mp c22) _
              | exact fin (hs3 (b2i_z.mp c22) (fun q => (b2i_z.mp c42) q.2)) (b2i_z.mp c22) _
          · refine w_aload hZ 36 37 rfl rfl rfl ?_
            refine w_iload hZ 37 38 rfl rfl rfl ?_
            refine w_const hZ 38 39 rfl rfl  ?_
            refine w_add hZ 39 40 rfl rfl (by unfold InR; omega) ?_
            refine k_X4_cellAt hZ 40 41 rfl rfl (Nat.le_of_ble_eq_true rfl) ⟨by omega, by omega⟩ ?_
            rw [hFN]
            refine k_X6_isFigureCell hZ 41 42 rfl rfl (Nat.le_of_ble_eq_true rfl)  ?_
            refine w_ifeq hZ 42 43 rfl rfl (fun c42 => ?_) (fun c42 => ?_)
            · first
                | (refine fin ?_ ?_ _
                   · rw [show (m - j).toNat = 0 by omega]; rfl
                   · intro q; have := hin j (by simp only [isFC] at q; omega); omega)
                | exact fin (hs3 (b2i_z.mp c22) (fun q => (b2i_z.mp c35) q.1)) (b2i_z.mp c22) _
                | exact fin (hs3 (b2i_z.mp c22) (fun q => (b2i_z.mp c42) q.2)) (b2i_z.mp c22) _
            · refine w_aload hZ 43 44 rfl rfl rfl ?_
              refine w_iload hZ 44 45 rfl rfl rfl ?_
              refine k_X6_signOfMarkCell hZ 45 46 rfl rfl (Nat.le_of_ble_eq_true rfl)  ?_
              refine k_X4_addSign hZ 46 47 rfl rfl (Nat.le_of_ble_eq_true rfl) ⟨by omega, by omega⟩ (fun M46 p46 => ?_)
              subst p46
              refine w_in4_2 hZ 47 48 rfl rfl rfl (by unfold InR; omega) ?_
              refine w_goto hZ 48 12 rfl ?_
              refine w_fg4_3 hZ ?_
              have hz := hN.trans (RS_1 (by omega) (mkS (F j))) h1
              rw [hN.2.2.2.1, hN.2.2.2.2.1] at hz
              have e7 : adS N (mkS (F j)) 20 7 = N 20 7 := by simp [adS, mup_at]
              refine ih ((m - (j + 1)).toNat) (by omega) (j + 1) (D ++ [mkS (F j)]) _ rfl (by omega) (by omega) (by rw [e7]; exact hz) (by rw [List.length_append]; simp; omega) ?_ (Or.inl (b2i_e.mp c42))
              rw [hc, hs2 (by omega) (b2i_z.mp c22) ⟨b2i_e.mp c35, b2i_e.mp c42⟩]
              simp
        · refine w_aload hZ 23 24 rfl rfl rfl ?_
          refine w_iload hZ 24 25 rfl rfl rfl ?_
          refine k_X6_signOfFigureCell hZ 25 26 rfl rfl (Nat.le_of_ble_eq_true rfl) (by have := b2i_e.mp c22; simp only [isFC] at this; omega) ?_
          refine k_X4_addSign hZ 26 27 rfl rfl (Nat.le_of_ble_eq_true rfl) ⟨by omega, by omega⟩ (fun M26 p26 => ?_)
          subst p26
          refine w_aload hZ 27 28 rfl rfl rfl ?_
          refine w_iload hZ 28 29 rfl rfl rfl ?_
          refine w_const hZ 29 30 rfl rfl  ?_
          refine w_add hZ 30 31 rfl rfl (by unfold InR; omega) ?_
          refine w_puti hZ 31 32 rfl rfl rfl rfl rfl ?_
          refine w_goto hZ 32 47 rfl ?_
          refine w_in4_2 hZ 47 48 rfl rfl rfl (by unfold InR; omega) ?_
          refine w_goto hZ 48 12 rfl ?_
          refine w_fg4_3 hZ ?_
          have hz := hN.trans (RS_1 (by omega) (fgS (F j))) h1
          rw [hN.2.2.2.1, hN.2.2.2.2.1] at hz
          have hz2 : RS (D ++ [fgS (F j)]) (M 20 2) (M 20 3) (j + 1) M (mup (adS N (fgS (F j))) 20 7 (j + 1)) := by
            obtain ⟨z1, z2, z3, z4, z5, z6, z7, z8⟩ := hz
            refine ⟨by simp [mup_at]; simpa using z1, fun x hx => by simp [mup_at]; exact z2 x hx, fun x hx => by simp [mup_at]; simpa using z3 x hx, by simp [mup_at]; exact z4, by simp [mup_at]; exact z5, by simp [mup_at]; exact z6, by simp [mup_at], fun o o1 o2 => ?_⟩
            rw [← z8 o o1 o2]; funext x; simp [mup_at, o1]
          have e7 : mup (adS N (fgS (F j))) 20 7 (j + 1) 20 7 = j + 1 := by simp [mup_at]
          refine ih ((m - (j + 1)).toNat) (by omega) (j + 1) (D ++ [fgS (F j)]) _ rfl (by omega) (by omega) (by rw [e7]; exact hz2) (by rw [List.length_append]; simp; omega) ?_ (Or.inr e7)
          rw [hc, hs1 (by omega) (b2i_e.mp c22)]
          simp
  refine w_aload hZ 0 1 rfl rfl rfl ?_
  refine w_iload hZ 1 2 rfl rfl rfl ?_
  refine k_X4_cellAt hZ 2 3 rfl rfl (Nat.le_of_ble_eq_true rfl) ⟨by omega, by omega⟩ ?_
  rw [hF]
  refine k_X6_isFigureCell hZ 3 4 rfl rfl (Nat.le_of_ble_eq_true rfl)  ?_
  refine w_ifne hZ 4 5 rfl rfl (fun c4 => ?_) (fun c4 => ?_)
  · refine w_iload hZ 10 11 rfl rfl rfl ?_
    refine w_st4_2 hZ 11 12 rfl rfl rfl ?_
    exact loop (b2i_e.mp c4) _ b [] M rfl (Int.le_refl _) p1 (RS_nil M) (by simp) (by simp) (Or.inl (b2i_e.mp c4))
  · refine w_aload hZ 5 6 rfl rfl rfl ?_
    refine w_iload hZ 6 7 rfl rfl rfl ?_
    refine k_X4_failWrongAt hZ 7 8 rfl rfl (Nat.le_of_ble_eq_true rfl) ⟨hb, by omega, by omega⟩ (fun M7 p7 => ?_)
    refine w_iload hZ 8 9 rfl rfl rfl ?_
    refine w_iret hZ 9 rfl ?_
    rw [hV, hF] at p7
    rw [if_neg (b2i_z.mp c4)] at hR
    exact hR _ (by rw [if_neg (b2i_z.mp c4)]; exact p7)
set_option maxRecDepth 100000 in
set_option maxHeartbeats 4000000 in
theorem ao_X4_readFigures : AllOk yX4_readFigures.cls cX4_readFigures 4 3 64 (some .int) none pc_X4_readFigures 0 cd_X4_readFigures := ⟨s_aload_n (k := 0) (by decide +kernel) rfl rfl, ⟨s_iload_n (k := 1) (by decide +kernel) rfl rfl, ⟨s_callV (C := RX4) (T := TX4) (N := 8) rfl ct_X4_cellAt (by decide) (by decide) ⟨rfl, by decide +kernel, by decide +kernel, by decide +kernel⟩ tw_3_58 tw_3_60 ts_2_6 tw_1_6 tw_3_61 (by decide +kernel) rfl, ⟨s_callN ct_X6_isFigureCell (by decide) (by decide) ⟨by decide +kernel, by decide +kernel, by decide +kernel⟩ ni_18 tw_3_105 tw_1_1 tw_3_106 (by decide +kernel) rfl, ⟨s_ifne (off := (10)) (by decide +kernel) rfl rfl, ⟨s_aload_n (k := 0) (by decide +kernel) rfl rfl, ⟨s_iload_n (k := 1) (by decide +kernel) rfl rfl, ⟨s_callV (C := RX4) (T := TX4) (N := 8) rfl ct_X4_failWrongAt (by decide) (by decide) ⟨rfl, by decide +kernel, by decide +kernel, by decide +kernel⟩ tw_3_84 tw_3_86 ts_2_11 tw_1_6 tw_3_87 (by decide +kernel) rfl, ⟨s_iload_n (k := 1) (by decide +kernel) rfl rfl, ⟨s_iret rfl (by decide +kernel), ⟨s_iload_n (k := 1) (by decide +kernel) rfl rfl, ⟨s_istore_n (k := 2) (by decide +kernel) rfl rfl, ⟨s_iload_n (k := 2) (by decide +kernel) rfl rfl, ⟨s_aload_n (k := 0) (by decide +kernel) rfl rfl, ⟨s_get (C := RX4) (T := TX4) (N := 8) rfl inT4 (by decide) tw_1_168 (by decide +kernel) rfl, ⟨s_cge (off := (68)) (by decide +kernel) rfl rfl, ⟨s_aload_n (k := 0) (by decide +kernel) rfl rfl, ⟨s_iload_n (k := 2) (by decide +kernel) rfl rfl, ⟨s_callV (C := RX4) (T := TX4) (N := 8) rfl ct_X4_cellAt (by decide) (by decide) ⟨rfl, by decide +kernel, by decide +kernel, by decide +kernel⟩ tw_3_58 tw_3_60 ts_2_6 tw_1_6 tw_3_61 (by decide +kernel) rfl, ⟨s_istore_n (k := 3) (by decide +kernel) rfl rfl, ⟨s_iload_n (k := 3) (by decide +kernel) rfl rfl, ⟨s_callN ct_X6_isFigureCell (by decide) (by decide) ⟨by decide +kernel, by decide +kernel, by decide +kernel⟩ ni_18 tw_3_105 tw_1_1 tw_3_106 (by decide +kernel) rfl, ⟨s_ifeq (off := (21)) (by decide +kernel) rfl rfl, ⟨s_aload_n (k := 0) (by decide +kernel) rfl rfl, ⟨s_iload_n (k := 3) (by decide +kernel) rfl rfl, ⟨s_callN ct_X6_signOfFigureCell (by decide) (by decide) ⟨by decide +kernel, by decide +kernel, by decide +kernel⟩ ni_19 tw_3_108 tw_1_1 tw_3_109 (by decide +kernel) rfl, ⟨s_callV (C := RX4) (T := TX4) (N := 8) rfl ct_X4_addSign (by decide) (by decide) ⟨rfl, by decide +kernel, by decide +kernel, by decide +kernel⟩ tw_3_79 tw_3_81 ts_2_10 tw_1_6 tw_3_82 (by decide +kernel) rfl, ⟨s_aload_n (k := 0) (by decide +kernel) rfl rfl, ⟨s_iload_n (k := 2) (by decide +kernel) rfl rfl, ⟨s_iconst (by decide +kernel) rfl ⟨by decide, by decide⟩, ⟨s_add (by decide +kernel) rfl, ⟨s_puti (C := RX4) (T := TX4) (N := 8) (tyf := tyX4) rfl inT4 tyX4_ok nmX4 (by decide) rfl rfl tw_1_169 (by decide +kernel) rfl, ⟨s_goto (off := (31)) (by decide +kernel) rfl, ⟨s_iload_n (k := 3) (by decide +kernel) rfl rfl, ⟨s_callN ct_X6_isPointOrCommaCell (by decide) (by decide) ⟨by decide +kernel, by decide +kernel, by decide +kernel⟩ ni_20 tw_3_111 tw_1_1 tw_3_112 (by decide +kernel) rfl, ⟨s_ifeq (off := (30)) (by decide +kernel) rfl rfl, ⟨s_aload_n (k := 0) (by decide +kernel) rfl rfl, ⟨s_iload_n (k := 2) (by decide +kernel) rfl rfl, ⟨s_iconst (by decide +kernel) rfl ⟨by decide, by decide⟩, ⟨s_add (by decide +kernel) rfl, ⟨s_callV (C := RX4) (T := TX4) (N := 8) rfl ct_X4_cellAt (by decide) (by decide) ⟨rfl, by decide +kernel, by decide +kernel, by decide +kernel⟩ tw_3_58 tw_3_60 ts_2_6 tw_1_6 tw_3_61 (by decide +kernel) rfl, ⟨s_callN ct_X6_isFigureCell (by decide) (by decide) ⟨by decide +kernel, by decide +kernel, by decide +kernel⟩ ni_18 tw_3_105 tw_1_1 tw_3_106 (by decide +kernel) rfl, ⟨s_ifeq (off := (17)) (by decide +kernel) rfl rfl, ⟨s_aload_n (k := 0) (by decide +kernel) rfl rfl, ⟨s_iload_n (k := 3) (by decide +kernel) rfl rfl, ⟨s_callN ct_X6_signOfMarkCell (by decide) (by decide) ⟨by decide +kernel, by decide +kernel, by decide +kernel⟩ ni_21 tw_3_114 tw_1_1 tw_3_115 (by decide +kernel) rfl, ⟨s_callV (C := RX4) (T := TX4) (N := 8) rfl ct_X4_addSign (by decide) (by decide) ⟨rfl, by decide +kernel, by decide +kernel, by decide +kernel⟩ tw_3_79 tw_3_81 ts_2_10 tw_1_6 tw_3_82 (by decide +kernel) rfl, ⟨s_iinc (by decide +kernel) rfl, ⟨s_goto (off := (-70)) (by decide +kernel) rfl, ⟨s_aload_n (k := 0) (by decide +kernel) rfl rfl, ⟨s_get (C := RX4) (T := TX4) (N := 8) rfl inT4 (by decide) tw_1_169 (by decide +kernel) rfl, ⟨s_iret rfl (by decide +kernel), trivial⟩⟩⟩⟩⟩⟩⟩⟩⟩⟩⟩⟩⟩⟩⟩⟩⟩⟩⟩⟩⟩⟩⟩⟩⟩⟩⟩⟩⟩⟩⟩⟩⟩⟩⟩⟩⟩⟩⟩⟩⟩⟩⟩⟩⟩⟩⟩⟩⟩⟩⟩⟩
theorem ct_X4_readFigures : Ctr yX4_readFigures cX4_readFigures 4 (some .int) 3 64 sp_X4_readFigures := by
  refine ctr_of (by decide +kernel) ao_X4_readFigures rfl ?_
  rintro av M Ret ⟨b, rfl, hp, hR⟩ hok hM
  exact ⟨Nat.le_of_ble_eq_true rfl, fun Z hZ => b_X4_readFigures  b (hok _ (List.mem_of_getElem? (i := 1) rfl)) M Ret hp hR hM Z hZ⟩
