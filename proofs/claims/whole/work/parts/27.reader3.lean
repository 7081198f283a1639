/-! Reader: all -/
theorem stp_fe {V : BV} {F : Int → Int} {m i fe : Int} (hi : i < m) (h1 : -1 ≤ fe) (h2 : fe ≤ m) (h0 : 0 ≤ i) : -1 ≤ (stp V F m i fe).2.2.2.1 ∧ (stp V F m i fe).2.2.2.1 ≤ m := by
  have hc := frF_spec F (m - (i + 1)).toNat (i + 1)
  unfold stp
  repeat' split
  all_goals (simp only; omega)
def sp_X4_readAt : SP := fun av M Ret => ∃ i : Int, av = [mr 20, mi i] ∧ (Rx M ∧ M 20 2 = 0 ∧ M 20 3 = -1 ∧ -1 ≤ M 20 7 ∧ M 20 7 ≤ 240 ∧ 0 ≤ i ∧ i < M 20 6 ∧ M 20 1 ≤ 4 * i) ∧ (∀ M2 : Mem, (RS (stp (bX M 1) (FX M) (M 20 6) i (M 20 7)).2.2.2.2 (stp (bX M 1) (FX M) (M 20 6) i (M 20 7)).1 (stp (bX M 1) (FX M) (M 20 6) i (M 20 7)).2.1 (stp (bX M 1) (FX M) (M 20 6) i (M 20 7)).2.2.2.1 M M2) → Ret (some (mi ((stp (bX M 1) (FX M) (M 20 6) i (M 20 7)).2.2.1))) M2)
theorem k_X4_readAt {code : List Sem} {Z : KZ} {Ret : KR} {ls : List (Option MV)} {M : Mem} {r : List MV} (hZ : Sim code Z Ret) (ip np : Nat) {i : Int} (hc : code[ip]? = some (I_callV 4 1 sp_X4_readAt)) (hn : ip + 1 = np) (h3 : catS r ≤ 8)  (hp : Rx M ∧ M 20 2 = 0 ∧ M 20 3 = -1 ∧ -1 ≤ M 20 7 ∧ M 20 7 ≤ 240 ∧ 0 ≤ i ∧ i < M 20 6 ∧ M 20 1 ≤ 4 * i) (kz : ∀ M2 : Mem, (RS (stp (bX M 1) (FX M) (M 20 6) i (M 20 7)).2.2.2.2 (stp (bX M 1) (FX M) (M 20 6) i (M 20 7)).1 (stp (bX M 1) (FX M) (M 20 6) i (M 20 7)).2.1 (stp (bX M 1) (FX M) (M 20 6) i (M 20 7)).2.2.2.1 M M2) → Z np ls (mi ((stp (bX M 1) (FX M) (M 20 6) i (M 20 7)).2.2.1) :: r) M2) : Z ip ls (mi i :: mr 20 :: r) M := w_callV1 hZ ip np hc hn rfl rfl h3 ⟨_, rfl, hp, fun M2 h => kz M2 h⟩
def cd_X4_readAt : List Sem := [I_aload 0, I_iload 1, I_callV 4 1 sp_X4_cellAt, I_istore 2, I_iload 2, I_tsw (60) [6, 25, 31] 38, I_aload 0, I_iload 1, I_const (1), I_add, I_callV 4 1 sp_X4_cellAt, I_const (60), I_cne 19, I_aload 0, I_iload 1, I_const (2), I_add, I_callV 4 1 sp_X4_readCapitals, I_goto 24, I_aload 0, I_iload 1, I_const (1), I_add, I_callV 4 1 sp_X4_readCapital, I_iret, I_aload 0, I_iload 1, I_const (1), I_add, I_callV 4 1 sp_X4_readFigures, I_iret, I_aload 0, I_iload 1, I_callV 4 1 sp_X4_checkLetters, I_iload 1, I_const (1), I_add, I_iret, I_aload 0, I_iload 1, I_iload 2, I_callV 4 2 sp_X4_readPlain, I_iload 1, I_const (1), I_add, I_iret]
def pc_X4_readAt : List Nat := [0, 1, 2, 5, 6, 7, 32, 33, 34, 35, 36, 39, 41, 44, 45, 46, 47, 48, 51, 54, 55, 56, 57, 58, 61, 62, 63, 64, 65, 66, 69, 70, 71, 72, 75, 76, 77, 78, 79, 80, 81, 82, 85, 86, 87, 88]
set_option maxRecDepth 100000 in
set_option maxHeartbeats 4000000 in
theorem b_X4_readAt (i : Int) (i_i : InR i) (M : Mem) (Ret : KR) (hp : Rx M ∧ M 20 2 = 0 ∧ M 20 3 = -1 ∧ -1 ≤ M 20 7 ∧ M 20 7 ≤ 240 ∧ 0 ≤ i ∧ i < M 20 6 ∧ M 20 1 ≤ 4 * i) (hR : ∀ M2 : Mem, (RS (stp (bX M 1) (FX M) (M 20 6) i (M 20 7)).2.2.2.2 (stp (bX M 1) (FX M) (M 20 6) i (M 20 7)).1 (stp (bX M 1) (FX M) (M 20 6) i (M 20 7)).2.1 (stp (bX M 1) (FX M) (M 20 6) i (M 20 7)).2.2.2.1 M M2) → Ret (some (mi ((stp (bX M 1) (FX M) (M 20 6) i (M 20 7)).2.2.1))) M2) (hM : MOk M) (Z : KZ) (hZ : Sim cd_X4_readAt Z Ret) : Z 0 [some (mr 20), some (mi i), none] [] M := by
  obtain ⟨hr, h2, h3, a3, a4, a5, a6, a7⟩ := hp
  have hx := hr.2.2.1
  have hx0 := hr.2.2.2
  have fin : ∀ r : RST, stp (bX M 1) (FX M) (M 20 6) i (M 20 7) = r → ∀ (x : Int) (M2 : Mem), x = r.2.2.1 → RS r.2.2.2.2 r.1 r.2.1 r.2.2.2.1 M M2 → Ret (some (mi x)) M2 := by
    intro r q x M2 e h; subst e; subst q; exact hR M2 h
  have hin : ∀ j, ¬ FX M j = -1 → j < M 20 6 := fun j h => (FX_in h).2
  refine w_aload hZ 0 1 rfl rfl rfl ?_
  refine w_iload hZ 1 2 rfl rfl rfl ?_
  refine k_X4_cellAt hZ 2 3 rfl rfl (Nat.le_of_ble_eq_true rfl) ⟨by omega, by omega⟩ ?_
  refine w_st3_2 hZ 3 4 rfl rfl rfl ?_
  refine w_iload hZ 4 5 rfl rfl rfl ?_
  refine w_tsw3 hZ 5 rfl (fun c5 => ?_) (fun c5 => ?_) (fun c5 => ?_) (fun c5 => ?_)
  · refine w_aload hZ 6 7 rfl rfl rfl ?_
    refine w_iload hZ 7 8 rfl rfl rfl ?_
    refine w_const hZ 8 9 rfl rfl  ?_
    refine w_add hZ 9 10 rfl rfl (by unfold InR; omega) ?_
    refine k_X4_cellAt hZ 10 11 rfl rfl (Nat.le_of_ble_eq_true rfl) ⟨by omega, by omega⟩ ?_
    refine w_const hZ 11 12 rfl rfl  ?_
    refine w_cne hZ 12 13 rfl rfl (fun c12 => ?_) (fun c12 => ?_)
    · refine w_aload hZ 19 20 rfl rfl rfl ?_
      refine w_iload hZ 20 21 rfl rfl rfl ?_
      refine w_const hZ 21 22 rfl rfl  ?_
      refine w_add hZ 22 23 rfl rfl (by unfold InR; omega) ?_
      refine k_X4_readCapital hZ 23 24 rfl rfl (Nat.le_of_ble_eq_true rfl) ⟨hr, by omega, by omega, by omega⟩ (fun M23 p23 => ?_)
      refine w_iret hZ 24 rfl ?_
      rw [h2, h3] at p23
      by_cases q : isLC (FX M (i + 1))
      · rw [if_pos q] at p23
        exact fin (0, -1, i + 2, M 20 7, [65 + FX M (i + 1) - 1]) (by unfold stp; rw [if_pos (by omega), if_neg (by omega), if_pos q]) _ _ (by show i + 1 + 1 = i + 2; omega) p23
      · rw [if_neg q] at p23
        subst p23
        exact fin (fk (bX M 1) (FX M (i + 1)), i + 1, i + 2, M 20 7, []) (by unfold stp; rw [if_pos (by omega), if_neg (by omega), if_neg q]) _ _ (by show i + 1 + 1 = i + 2; omega) (RS_fl M _ _)
    · refine w_aload hZ 13 14 rfl rfl rfl ?_
      refine w_iload hZ 14 15 rfl rfl rfl ?_
      refine w_const hZ 15 16 rfl rfl  ?_
      refine w_add hZ 16 17 rfl rfl (by unfold InR; omega) ?_
      refine k_X4_readCapitals hZ 17 18 rfl rfl (Nat.le_of_ble_eq_true rfl) ⟨hr, by omega, by omega, by have := hin (i + 1) (by omega); omega⟩ (fun M17 p17 => ?_)
      refine w_goto hZ 18 24 rfl ?_
      refine w_iret hZ 24 rfl ?_
      rw [h2, h3] at p17
      by_cases q : (crF (bX M 1) (FX M) (M 20 6 - (i + 2)).toNat (i + 2)).1 = i + 2
      · rw [if_pos q] at p17
        subst p17
        exact fin (fk (bX M 1) (FX M (i + 2)), i + 2, i + 2, M 20 7, []) (by unfold stp; rw [if_pos (by omega), if_pos (by omega), if_pos q]) _ _ q (RS_fl M _ _)
      · rw [if_neg q] at p17
        exact fin (0, -1, (crF (bX M 1) (FX M) (M 20 6 - (i + 2)).toNat (i + 2)).1, M 20 7, (crF (bX M 1) (FX M) (M 20 6 - (i + 2)).toNat (i + 2)).2) (by unfold stp; rw [if_pos (by omega), if_pos (by omega), if_neg q]) _ _ rfl p17
  · refine w_aload hZ 25 26 rfl rfl rfl ?_
    refine w_iload hZ 26 27 rfl rfl rfl ?_
    refine w_const hZ 27 28 rfl rfl  ?_
    refine w_add hZ 28 29 rfl rfl (by unfold InR; omega) ?_
    refine k_X4_readFigures hZ 29 30 rfl rfl (Nat.le_of_ble_eq_true rfl) ⟨hr, by omega, by omega, by omega⟩ (fun M29 p29 => ?_)
    refine w_iret hZ 30 rfl ?_
    rw [h2, h3] at p29
    by_cases q : isFC (FX M (i + 1))
    · rw [if_pos q] at p29
      exact fin (0, -1, (frF (FX M) (M 20 6 - (i + 1)).toNat (i + 1)).1, (frF (FX M) (M 20 6 - (i + 1)).toNat (i + 1)).1, (frF (FX M) (M 20 6 - (i + 1)).toNat (i + 1)).2) (by unfold stp; rw [if_neg (by omega), if_pos (by omega), if_pos q]) _ _ (by rw [if_pos q]) p29
    · rw [if_neg q] at p29
      subst p29
      exact fin (fk (bX M 1) (FX M (i + 1)), i + 1, i + 1, M 20 7, []) (by unfold stp; rw [if_neg (by omega), if_pos (by omega), if_neg q]) _ _ (by rw [if_neg q]) (RS_fl M _ _)
  · refine w_aload hZ 31 32 rfl rfl rfl ?_
    refine w_iload hZ 32 33 rfl rfl rfl ?_
    refine k_X4_checkLetters hZ 33 34 rfl rfl (Nat.le_of_ble_eq_true rfl) ⟨hr, a3, a4, a5, a6⟩ (fun M33 p33 => ?_)
    refine w_iload hZ 34 35 rfl rfl rfl ?_
    refine w_const hZ 35 36 rfl rfl  ?_
    refine w_add hZ 36 37 rfl rfl (by unfold InR; omega) ?_
    refine w_iret hZ 37 rfl ?_
    by_cases q : bhF (FX M) (M 20 7) i ∧ (isFC (FX M (i + 1)) ∨ isRl (bX M 1) (FX M (i + 1)))
    · rw [if_pos q] at p33
      rw [p33]
      refine fin (0, -1, i + 1, M 20 7, []) (by unfold stp; rw [if_neg (by omega), if_neg (by omega), if_pos (by omega), if_pos q]) _ _ rfl ?_
      have hz := RS_nil M
      rw [h2, h3] at hz
      exact hz
    · rw [if_neg q] at p33
      subst p33
      exact fin (2, i, i + 1, M 20 7, []) (by unfold stp; rw [if_neg (by omega), if_neg (by omega), if_pos (by omega), if_neg q]) _ _ rfl (RS_fl M _ _)
  · refine w_aload hZ 38 39 rfl rfl rfl ?_
    refine w_iload hZ 39 40 rfl rfl rfl ?_
    refine w_iload hZ 40 41 rfl rfl rfl ?_
    refine k_X4_readPlain hZ 41 42 rfl rfl (Nat.le_of_ble_eq_true rfl) ⟨hr, by omega⟩ (fun M41 p41 => ?_)
    refine w_iload hZ 42 43 rfl rfl rfl ?_
    refine w_const hZ 43 44 rfl rfl  ?_
    refine w_add hZ 44 45 rfl rfl (by unfold InR; omega) ?_
    refine w_iret hZ 45 rfl ?_
    rw [h2, h3] at p41
    by_cases q : noCl (bX M 1) (FX M i)
    · rw [if_pos q] at p41
      subst p41
      exact fin (1, i, i + 1, M 20 7, []) (by unfold stp; rw [if_neg (by omega), if_neg (by omega), if_neg (by omega), if_pos q]) _ _ rfl (RS_fl M _ _)
    · rw [if_neg q] at p41
      exact fin (0, -1, i + 1, M 20 7, if isLC (FX M i) ∨ isRC (FX M i) then ltrs (bX M 1) (FX M i) 97 else [mkS (FX M i)]) (by unfold stp; rw [if_neg (by omega), if_neg (by omega), if_neg (by omega), if_neg q]) _ _ rfl p41
set_option maxRecDepth 100000 in
set_option maxHeartbeats 4000000 in
theorem ao_X4_readAt : AllOk yX4_readAt.cls cX4_readAt 3 4 87 (some .int) none pc_X4_readAt 0 cd_X4_readAt := ⟨s_aload_n (k := 0) (by decide +kernel) rfl rfl, ⟨s_iload_n (k := 1) (by decide +kernel) rfl rfl, ⟨s_callV (C := RX4) (T := TX4) (N := 8) rfl ct_X4_cellAt (by decide) (by decide) ⟨rfl, by decide +kernel, by decide +kernel, by decide +kernel⟩ tw_3_58 tw_3_60 ts_2_6 tw_1_6 tw_3_61 (by decide +kernel) rfl, ⟨s_istore_n (k := 2) (by decide +kernel) rfl rfl, ⟨s_iload_n (k := 2) (by decide +kernel) rfl rfl, ⟨s_tsw (dfl := 72) (hi0 := 62) (offs := #[25, 55, 63]) (len := 25) (by decide +kernel) rfl rfl rfl, ⟨s_aload_n (k := 0) (by decide +kernel) rfl rfl, ⟨s_iload_n (k := 1) (by decide +kernel) rfl rfl, ⟨s_iconst (by decide +kernel) rfl ⟨by decide, by decide⟩, ⟨s_add (by decide +kernel) rfl, ⟨s_callV (C := RX4) (T := TX4) (N := 8) rfl ct_X4_cellAt (by decide) (by decide) ⟨rfl, by decide +kernel, by decide +kernel, by decide +kernel⟩ tw_3_58 tw_3_60 ts_2_6 tw_1_6 tw_3_61 (by decide +kernel) rfl, ⟨s_bipush (by decide +kernel) rfl ⟨by decide, by decide⟩ (by decide +kernel), ⟨s_cne (off := (13)) (by decide +kernel) rfl rfl, ⟨s_aload_n (k := 0) (by decide +kernel) rfl rfl, ⟨s_iload_n (k := 1) (by decide +kernel) rfl rfl, ⟨s_iconst (by decide +kernel) rfl ⟨by decide, by decide⟩, ⟨s_add (by decide +kernel) rfl, ⟨s_callV (C := RX4) (T := TX4) (N := 8) rfl ct_X4_readCapitals (by decide) (by decide) ⟨rfl, by decide +kernel, by decide +kernel, by decide +kernel⟩ tw_3_62 tw_3_64 ts_2_7 tw_1_6 tw_3_65 (by decide +kernel) rfl, ⟨s_goto (off := (10)) (by decide +kernel) rfl, ⟨s_aload_n (k := 0) (by decide +kernel) rfl rfl, ⟨s_iload_n (k := 1) (by decide +kernel) rfl rfl, ⟨s_iconst (by decide +kernel) rfl ⟨by decide, by decide⟩, ⟨s_add (by decide +kernel) rfl, ⟨s_callV (C := RX4) (T := TX4) (N := 8) rfl ct_X4_readCapital (by decide) (by decide) ⟨rfl, by decide +kernel, by decide +kernel, by decide +kernel⟩ tw_3_96 tw_3_98 ts_2_14 tw_1_6 tw_3_99 (by decide +kernel) rfl, ⟨s_iret rfl (by decide +kernel), ⟨s_aload_n (k := 0) (by decide +kernel) rfl rfl, ⟨s_iload_n (k := 1) (by decide +kernel) rfl rfl, ⟨s_iconst (by decide +kernel) rfl ⟨by decide, by decide⟩, ⟨s_add (by decide +kernel) rfl, ⟨s_callV (C := RX4) (T := TX4) (N := 8) rfl ct_X4_readFigures (by decide) (by decide) ⟨rfl, by decide +kernel, by decide +kernel, by decide +kernel⟩ tw_3_100 tw_3_102 ts_2_15 tw_1_6 tw_3_103 (by decide +kernel) rfl, ⟨s_iret rfl (by decide +kernel), ⟨s_aload_n (k := 0) (by decide +kernel) rfl rfl, ⟨s_iload_n (k := 1) (by decide +kernel) rfl rfl, ⟨s_callV (C := RX4) (T := TX4) (N := 8) rfl ct_X4_checkLetters (by decide) (by decide) ⟨rfl, by decide +kernel, by decide +kernel, by decide +kernel⟩ tw_3_116 tw_3_118 ts_3_0 tw_1_6 tw_3_119 (by decide +kernel) rfl, ⟨s_iload_n (k := 1) (by decide +kernel) rfl rfl, ⟨s_iconst (by decide +kernel) rfl ⟨by decide, by decide⟩, ⟨s_add (by decide +kernel) rfl, ⟨s_iret rfl (by decide +kernel), ⟨s_aload_n (k := 0) (by decide +kernel) rfl rfl, ⟨s_iload_n (k := 1) (by decide +kernel) rfl rfl, ⟨s_iload_n (k := 2) (by decide +kernel) rfl rfl, ⟨s_callV (C := RX4) (T := TX4) (N := 8) rfl ct_X4_readPlain (by decide) (by decide) ⟨rfl, by decide +kernel, by decide +kernel, by decide +kernel⟩ tw_3_124 tw_3_126 ts_3_2 tw_1_6 tw_3_127 (by decide +kernel) rfl, ⟨s_iload_n (k := 1) (by decide +kernel) rfl rfl, ⟨s_iconst (by decide +kernel) rfl ⟨by decide, by decide⟩, ⟨s_add (by decide +kernel) rfl, ⟨s_iret rfl (by decide +kernel), trivial⟩⟩⟩⟩⟩⟩⟩⟩⟩⟩⟩⟩⟩⟩⟩⟩⟩⟩⟩⟩⟩⟩⟩⟩⟩⟩⟩⟩⟩⟩⟩⟩⟩⟩⟩⟩⟩⟩⟩⟩⟩⟩⟩⟩⟩⟩
theorem ct_X4_readAt : Ctr yX4_readAt cX4_readAt 3 (some .int) 4 87 sp_X4_readAt := by
  refine ctr_of (by decide +kernel) ao_X4_readAt rfl ?_
  rintro av M Ret ⟨i, rfl, hp, hR⟩ hok hM
  exact ⟨Nat.le_of_ble_eq_true rfl, fun Z hZ => b_X4_readAt  i (hok _ (List.mem_of_getElem? (i := 1) rfl)) M Ret hp hR hM Z hZ⟩
/-- what a reading leaves -/
def RdP (r : Int × Int × List Int) (M M2 : Mem) : Prop := M2 20 2 = r.1 ∧ M2 20 3 = r.2.1 ∧ M2 20 1 = r.2.2.length ∧ (r.2.2.length : Int) ≤ 960 ∧ (∀ j : Nat, j < r.2.2.length → M2 21 j = r.2.2.getD j 0) ∧ ∀ o, ¬ o = 20 → ¬ o = 21 → M2 o = M o
theorem stp_nil {V : BV} {F : Int → Int} {m i fe : Int} (hk : ¬ (stp V F m i fe).1 = 0) : (stp V F m i fe).2.2.2.2 = [] := by
  revert hk
  unfold stp
  repeat' split
  all_goals (intro h; first | rfl | exact absurd rfl h)
def sp_X4_readBack : SP := fun av M Ret => ∃ n : Int, av = [mr 20, mi n] ∧ (vOk (bX M 1) ∧ 0 ≤ n ∧ n ≤ 240) ∧ (∀ M2 : Mem, (RdP (rd (bX M 1) (sgn n (M 19)) n 0 (-1)) M M2) → Ret none M2)
theorem k_X4_readBack {code : List Sem} {Z : KZ} {Ret : KR} {ls : List (Option MV)} {M : Mem} {r : List MV} (hZ : Sim code Z Ret) (ip np : Nat) {n : Int} (hc : code[ip]? = some (I_callV 4 1 sp_X4_readBack)) (hn : ip + 1 = np) (h3 : catS r ≤ 8)  (hp : vOk (bX M 1) ∧ 0 ≤ n ∧ n ≤ 240) (kz : ∀ M2 : Mem, (RdP (rd (bX M 1) (sgn n (M 19)) n 0 (-1)) M M2) → Z np ls r M2) : Z ip ls (mi n :: mr 20 :: r) M := w_callV1 hZ ip np hc hn rfl rfl h3 ⟨_, rfl, hp, fun M2 h => kz M2 h⟩
def cd_X4_readBack : List Sem := [I_aload 0, I_iload 1, I_aload 0, I_get 4 5, I_alen, I_min, I_puti 4 6, I_aload 0, I_const (0), I_puti 4 1, I_aload 0, I_const (0), I_puti 4 2, I_aload 0, I_const (-1), I_puti 4 3, I_aload 0, I_const (-1), I_puti 4 7, I_const (0), I_istore 2, I_const (0), I_istore 3, I_iload 3, I_aload 0, I_get 4 6, I_cge 39, I_aload 0, I_get 4 2, I_ifne 39, I_iload 3, I_iload 2, I_cne 37, I_aload 0, I_iload 3, I_callV 4 1 sp_X4_readAt, I_istore 2, I_iinc 3 (1), I_goto 23, I_vret]
def pc_X4_readBack : List Nat := [0, 1, 2, 3, 6, 7, 10, 13, 14, 15, 18, 19, 20, 23, 24, 25, 28, 29, 30, 33, 34, 35, 36, 37, 38, 39, 42, 45, 46, 49, 52, 53, 54, 57, 58, 59, 62, 63, 66, 69]
set_option maxRecDepth 100000 in
set_option maxHeartbeats 4000000 in
theorem b_X4_readBack (n : Int) (i_n : InR n) (M : Mem) (Ret : KR) (hp : vOk (bX M 1) ∧ 0 ≤ n ∧ n ≤ 240) (hR : ∀ M2 : Mem, (RdP (rd (bX M 1) (sgn n (M 19)) n 0 (-1)) M M2) → Ret none M2) (hM : MOk M) (Z : KZ) (hZ : Sim cd_X4_readBack Z Ret) : Z 0 [some (mr 20), some (mi n), none, none] [] M := by
  obtain ⟨hv, n0, n1⟩ := hp
  generalize hV : bX M 1 = V at *
  generalize hF : sgn n (M 19) = F at *
  have hFm : ∀ j, n ≤ j → F j = -1 := fun j h => by rw [← hF]; exact sgn_hi h
  have done : ∀ (x j : Int) (N : Mem), InR j → N 20 6 = n → ¬ N 20 2 = 0 → RdP (rd V F n 0 (-1)) M N → Z 23 [some (mr 20), some (mi n), some (mi x), some (mi j)] [] N := by
    intro x j N ij e6 hk h
    refine w_iload hZ 23 24 rfl rfl rfl ?_
    refine w_aload hZ 24 25 rfl rfl rfl ?_
    refine w_getiv hZ 25 26 rfl rfl rfl rfl rfl (v := n) e6 ?_
    refine w_cge hZ 26 27 rfl rfl (fun c26 => ?_) (fun c26 => ?_)
    · refine w_vret hZ 39 rfl ?_
      exact hR _ h
    · refine w_aload hZ 27 28 rfl rfl rfl ?_
      refine w_geti hZ 28 29 rfl rfl rfl rfl rfl ?_
      refine w_ifne hZ 29 30 rfl rfl (fun c29 => ?_) (fun c29 => absurd c29 (fun q => hk q))
      refine w_vret hZ 39 rfl ?_
      exact hR _ h
  have loop : ∀ (d : Nat) (i j fe : Int) (D : List Int) (N M0 : Mem), M0 20 1 = 0 → M0 20 6 = n → M0 19 = M 19 → (∀ o, ¬ o = 20 → ¬ o = 21 → M0 o = M o) → d = (n - j).toNat → 0 ≤ j → j ≤ i → i ≤ n → -1 ≤ fe → fe ≤ n → RS D 0 (-1) fe M0 N → (D.length : Int) ≤ 4 * i → rd V F n 0 (-1) = ((rd V F n i fe).1, (rd V F n i fe).2.1, D ++ (rd V F n i fe).2.2) → Z 23 [some (mr 20), some (mi n), some (mi i), some (mi j)] [] N := by
    intro d
    induction d using Nat.strongRecOn with
    | ind d ih =>
      intro i j fe D N M0 m1 m6 m19 mo hd j0 ji i1 fe0 fe1 hN hl hc
      have ho : ∀ o, ¬ o = 20 → ¬ o = 21 → N o = M o := fun o a b => (hN.2.2.2.2.2.2.2 o a b).trans (mo o a b)
      have hbN : bX N 1 = V := by rw [← hV]; exact bX_same 1 (fun q a b => ho q (by omega) (by omega))
      have e6 : N 20 6 = n := hN.2.2.2.2.2.1.trans m6
      have hFN : FX N = F := by rw [← hF]; show sgn (N 20 6) (N 19) = _; rw [e6, ho 19 (by omega) (by omega)]
      have hvN : vOk (bX N 1) := by rw [hbN]; exact hv
      have e2 : N 20 2 = 0 := hN.2.2.2.1
      have e3 : N 20 3 = -1 := hN.2.2.2.2.1
      have e7 : N 20 7 = fe := hN.2.2.2.2.2.2.1
      have e1 : N 20 1 = D.length := by rw [hN.1, m1]; omega
      refine w_iload hZ 23 24 rfl rfl rfl ?_
      refine w_aload hZ 24 25 rfl rfl rfl ?_
      refine w_getiv hZ 25 26 rfl rfl rfl rfl rfl (v := n) e6 ?_
      refine w_cge hZ 26 27 rfl rfl (fun c26 => ?_) (fun c26 => ?_)
      · refine w_vret hZ 39 rfl ?_
        have hi : i = n := by omega
        rw [rd_end (i := i) (by omega), List.append_nil] at hc
        refine hR _ ⟨?_, ?_, ?_, ?_, ?_, ho⟩
        · rw [hc, e2]
        · rw [hc, e3]
        · rw [hc, e1]
        · rw [hc]; show (D.length : Int) ≤ 960; omega
        · rw [hc]; intro q hq
          have := hN.2.2.1 q hq
          rw [m1] at this
          simpa using this
      · refine w_aload hZ 27 28 rfl rfl rfl ?_
        refine w_getiv hZ 28 29 rfl rfl rfl rfl rfl (v := 0) e2 ?_
        refine w_ifne hZ 29 30 rfl rfl (fun c29 => absurd c29 (by omega)) (fun c29 => ?_)
        refine w_iload hZ 30 31 rfl rfl rfl ?_
        refine w_iload hZ 31 32 rfl rfl rfl ?_
        refine w_cne hZ 32 33 rfl rfl (fun c32 => ?_) (fun c32 => ?_)
        · refine w_in4_3 hZ 37 38 rfl rfl rfl (by unfold InR; omega) ?_
          refine w_goto hZ 38 23 rfl ?_
          exact ih (n - (j + 1)).toNat (by omega) i (j + 1) fe D N M0 m1 m6 m19 mo rfl (by omega) (by omega) i1 fe0 fe1 hN hl hc
        · refine w_aload hZ 33 34 rfl rfl rfl ?_
          refine w_iload hZ 34 35 rfl rfl rfl ?_
          refine k_X4_readAt hZ 35 36 rfl rfl (Nat.le_of_ble_eq_true rfl) ⟨⟨hvN, by omega, by omega, by omega⟩, e2, e3, by omega, by omega, by omega, by omega, by omega⟩ (fun M35 p35 => ?_)
          rw [hbN, hFN, e6, e7] at p35 ⊢
          have hji : j = i := by omega
          subst hji
          refine w_st4_2 hZ 36 37 rfl rfl rfl ?_
          refine w_in4_3 hZ 37 38 rfl rfl rfl (by unfold InR; omega) ?_
          refine w_goto hZ 38 23 rfl ?_
          have hz := hN.trans p35 (by omega)
          by_cases hk : (stp V F n j fe).1 = 0
          · have hs := stp_next hFm (by omega : j < n) hk
            have hf := stp_fe (V := V) (F := F) (m := n) (i := j) (fe := fe) (by omega) fe0 fe1 j0
            rw [hk, hs.2.2.2] at hz
            refine ih (n - (j + 1)).toNat (by omega) _ (j + 1) (stp V F n j fe).2.2.2.1 (D ++ (stp V F n j fe).2.2.2.2) M35 M0 m1 m6 m19 mo rfl (by omega) (by omega) (by omega) (by omega) (by omega) hz (by rw [List.length_append]; omega) ?_
            rw [hc, rd_step hFm (by omega) hk, List.append_assoc]
          · rw [rd_fault (by omega) hk, List.append_nil] at hc
            have hnil : (stp V F n j fe).2.2.2.2 = [] := stp_nil hk
            rw [hnil, List.append_nil] at hz
            refine done _ _ M35 (by unfold InR; omega) (hz.2.2.2.2.2.1.trans m6) (by rw [hz.2.2.2.1]; exact hk) ?_
            rw [hc]
            refine ⟨hz.2.2.2.1, hz.2.2.2.2.1, ?_, ?_, ?_, fun o a b => (hz.2.2.2.2.2.2.2 o a b).trans (mo o a b)⟩
            · rw [hz.1, m1]; show (0 : Int) + D.length = D.length; omega
            · show (D.length : Int) ≤ 960; omega
            · intro q hq
              have := hz.2.2.1 q hq
              rw [m1] at this
              simpa using this
  refine w_aload hZ 0 1 rfl rfl rfl ?_
  refine w_iload hZ 1 2 rfl rfl rfl ?_
  refine w_aload hZ 2 3 rfl rfl rfl ?_
  refine w_getr hZ 3 4 rfl rfl rfl rfl rfl ?_
  refine w_alen hZ 4 5 rfl rfl rfl (by decide) ?_
  refine w_min hZ 5 6 rfl rfl (Nat.le_of_ble_eq_true rfl) ?_
  refine w_puti hZ 6 7 rfl rfl rfl rfl rfl ?_
  refine w_aload hZ 7 8 rfl rfl rfl ?_
  refine w_const hZ 8 9 rfl rfl  ?_
  refine w_puti hZ 9 10 rfl rfl rfl rfl rfl ?_
  refine w_aload hZ 10 11 rfl rfl rfl ?_
  refine w_const hZ 11 12 rfl rfl  ?_
  refine w_puti hZ 12 13 rfl rfl rfl rfl rfl ?_
  refine w_aload hZ 13 14 rfl rfl rfl ?_
  refine w_const hZ 14 15 rfl rfl  ?_
  refine w_puti hZ 15 16 rfl rfl rfl rfl rfl ?_
  refine w_aload hZ 16 17 rfl rfl rfl ?_
  refine w_const hZ 17 18 rfl rfl  ?_
  refine w_puti hZ 18 19 rfl rfl rfl rfl rfl ?_
  refine w_const hZ 19 20 rfl rfl  ?_
  refine w_st4_2 hZ 20 21 rfl rfl rfl ?_
  refine w_const hZ 21 22 rfl rfl  ?_
  refine w_st4_3 hZ 22 23 rfl rfl rfl ?_
  refine loop _ 0 0 (-1) [] _ _ ?_ ?_ ?_ ?_ rfl (Int.le_refl _) (Int.le_refl _) n0 (Int.le_refl _) (by omega) ⟨?_, fun _ _ => rfl, fun j h => by simp at h, ?_, ?_, rfl, ?_, fun _ _ _ => rfl⟩ (by simp) (by simp)
  all_goals first
    | (simp [mup_at]; done)
    | (simp [mup_at]; omega)
    | (funext j; simp [mup_at]; done)
    | (intro o a b; funext j; simp [mup_at, a])
set_option maxRecDepth 100000 in
set_option maxHeartbeats 4000000 in
theorem ao_X4_readBack : AllOk yX4_readBack.cls cX4_readBack 4 5 109 none none pc_X4_readBack 0 cd_X4_readBack := ⟨s_aload_n (k := 0) (by decide +kernel) rfl rfl, ⟨s_iload_n (k := 1) (by decide +kernel) rfl rfl, ⟨s_aload_n (k := 0) (by decide +kernel) rfl rfl, ⟨s_get (C := RX4) (T := TX4) (N := 8) rfl inT4 (by decide) tw_1_167 (by decide +kernel) rfl, ⟨s_alen (by decide +kernel) rfl, ⟨s_min tw_3_53 tw_2_29 tw_1_10 tw_2_30 (by decide) (by decide) (by decide +kernel) rfl, ⟨s_puti (C := RX4) (T := TX4) (N := 8) (tyf := tyX4) rfl inT4 tyX4_ok nmX4 (by decide) rfl rfl tw_1_168 (by decide +kernel) rfl, ⟨s_aload_n (k := 0) (by decide +kernel) rfl rfl, ⟨s_iconst (by decide +kernel) rfl ⟨by decide, by decide⟩, ⟨s_puti (C := RX4) (T := TX4) (N := 8) (tyf := tyX4) rfl inT4 tyX4_ok nmX4 (by decide) rfl rfl tw_1_160 (by decide +kernel) rfl, ⟨s_aload_n (k := 0) (by decide +kernel) rfl rfl, ⟨s_iconst (by decide +kernel) rfl ⟨by decide, by decide⟩, ⟨s_puti (C := RX4) (T := TX4) (N := 8) (tyf := tyX4) rfl inT4 tyX4_ok nmX4 (by decide) rfl rfl tw_1_162 (by decide +kernel) rfl, ⟨s_aload_n (k := 0) (by decide +kernel) rfl rfl, ⟨s_iconst (by decide +kernel) rfl ⟨by decide, by decide⟩, ⟨s_puti (C := RX4) (T := TX4) (N := 8) (tyf := tyX4) rfl inT4 tyX4_ok nmX4 (by decide) rfl rfl tw_1_164 (by decide +kernel) rfl, ⟨s_aload_n (k := 0) (by decide +kernel) rfl rfl, ⟨s_iconst (by decide +kernel) rfl ⟨by decide, by decide⟩, ⟨s_puti (C := RX4) (T := TX4) (N := 8) (tyf := tyX4) rfl inT4 tyX4_ok nmX4 (by decide) rfl rfl tw_1_169 (by decide +kernel) rfl, ⟨s_iconst (by decide +kernel) rfl ⟨by decide, by decide⟩, ⟨s_istore_n (k := 2) (by decide +kernel) rfl rfl, ⟨s_iconst (by decide +kernel) rfl ⟨by decide, by decide⟩, ⟨s_istore_n (k := 3) (by decide +kernel) rfl rfl, ⟨s_iload_n (k := 3) (by decide +kernel) rfl rfl, ⟨s_aload_n (k := 0) (by decide +kernel) rfl rfl, ⟨s_get (C := RX4) (T := TX4) (N := 8) rfl inT4 (by decide) tw_1_168 (by decide +kernel) rfl, ⟨s_cge (off := (27)) (by decide +kernel) rfl rfl, ⟨s_aload_n (k := 0) (by decide +kernel) rfl rfl, ⟨s_get (C := RX4) (T := TX4) (N := 8) rfl inT4 (by decide) tw_1_162 (by decide +kernel) rfl, ⟨s_ifne (off := (20)) (by decide +kernel) rfl rfl, ⟨s_iload_n (k := 3) (by decide +kernel) rfl rfl, ⟨s_iload_n (k := 2) (by decide +kernel) rfl rfl, ⟨s_cne (off := (9)) (by decide +kernel) rfl rfl, ⟨s_aload_n (k := 0) (by decide +kernel) rfl rfl, ⟨s_iload_n (k := 3) (by decide +kernel) rfl rfl, ⟨s_callV (C := RX4) (T := TX4) (N := 8) rfl ct_X4_readAt (by decide) (by decide) ⟨rfl, by decide +kernel, by decide +kernel, by decide +kernel⟩ tw_3_54 tw_3_56 ts_2_5 tw_1_6 tw_3_57 (by decide +kernel) rfl, ⟨s_istore_n (k := 2) (by decide +kernel) rfl rfl, ⟨s_iinc (by decide +kernel) rfl, ⟨s_goto (off := (-29)) (by decide +kernel) rfl, ⟨s_vret rfl (by decide +kernel), trivial⟩⟩⟩⟩⟩⟩⟩⟩⟩⟩⟩⟩⟩⟩⟩⟩⟩⟩⟩⟩⟩⟩⟩⟩⟩⟩⟩⟩⟩⟩⟩⟩⟩⟩⟩⟩⟩⟩⟩⟩
theorem ct_X4_readBack : Ctr yX4_readBack cX4_readBack 4 none 5 109 sp_X4_readBack := by
  refine ctr_of (by decide +kernel) ao_X4_readBack rfl ?_
  rintro av M Ret ⟨n, rfl, hp, hR⟩ hok hM
  exact ⟨Nat.le_of_ble_eq_true rfl, fun Z hZ => b_X4_readBack  n (hok _ (List.mem_of_getElem? (i := 1) rfl)) M Ret hp hR hM Z hZ⟩
