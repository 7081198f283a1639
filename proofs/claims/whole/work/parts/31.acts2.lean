/-! THE CLASS: drift, felt CELLS, images -/
theorem addR_o {M : Mem} {c e k : Int} {o : Nat} (h : o = 0 ∨ 5 ≤ o) : addR M c e k o = M o := by
  funext j; simp [addR, mup_at, show ¬ o = 1 by omega, show ¬ o = 2 by omega, show ¬ o = 3 by omega, show ¬ o = 4 by omega]
def sp_X6_addRuleByLots : SP := fun av M Ret => ∃ s : St, av = [mr 0] ∧ (XR s M ∧ stOk s ∧ 0 < M 22 0 ∧ M 22 0 < 2147483647) ∧ (∀ M2 : Mem, (XR ((lotR (sB s) (M 22 0)).1, sH s, sI s, sC s, sL s) M2 ∧ M2 22 0 = (lotR (sB s) (M 22 0)).2 ∧ ∀ k, 73 ≤ k → M2 k = M k) → Ret none M2)
theorem k_X6_addRuleByLots {code : List Sem} {Z : KZ} {Ret : KR} {ls : List (Option MV)} {M : Mem} {r : List MV} (hZ : Sim code Z Ret) (ip np : Nat) {s : St}  (hc : code[ip]? = some (I_callV 6 0 sp_X6_addRuleByLots)) (hn : ip + 1 = np) (h3 : catS r ≤ 8)  (hp : XR s M ∧ stOk s ∧ 0 < M 22 0 ∧ M 22 0 < 2147483647) (kz : ∀ M2 : Mem, (XR ((lotR (sB s) (M 22 0)).1, sH s, sI s, sC s, sL s) M2 ∧ M2 22 0 = (lotR (sB s) (M 22 0)).2 ∧ ∀ k, 73 ≤ k → M2 k = M k) → Z np ls r M2) : Z ip ls (mr 0 :: r) M := w_callV0 hZ ip np hc hn rfl rfl h3 ⟨_, rfl, hp, fun M2 h => kz M2 h⟩
def cd_X6_addRuleByLots : List Sem := [I_const (2), I_aload 0, I_get 6 9, I_callV 3 0 sp_X3_next, I_const (3), I_rem, I_add, I_istore 1, I_const (0), I_istore 2, I_const (0), I_istore 3, I_iload 3, I_iload 1, I_cge 29, I_iload 2, I_const (27), I_mul, I_const (1), I_add, I_aload 0, I_get 6 9, I_callV 3 0 sp_X3_next, I_const (5), I_rem, I_add, I_istore 2, I_iinc 3 (1), I_goto 12, I_const (30), I_aload 0, I_get 6 9, I_callV 3 0 sp_X3_next, I_const (30), I_rem, I_add, I_istore 3, I_aload 0, I_get 6 9, I_callV 3 0 sp_X3_next, I_const (5), I_rem, I_istore 4, I_aload 0, I_get 6 0, I_iload 2, I_iload 3, I_callV 0 2 sp_X0_isTaken, I_ifne 55, I_aload 0, I_get 6 0, I_iload 2, I_iload 3, I_iload 4, I_callV 0 3 sp_X0_addRule, I_vret]
def pc_X6_addRuleByLots : List Nat := [0, 1, 2, 5, 8, 9, 10, 11, 12, 13, 14, 15, 16, 17, 18, 21, 22, 24, 25, 26, 27, 28, 31, 34, 35, 36, 37, 38, 41, 44, 46, 47, 50, 53, 55, 56, 57, 58, 59, 62, 65, 66, 67, 69, 70, 73, 74, 75, 78, 81, 82, 85, 86, 87, 89, 92]
set_option maxRecDepth 100000 in
set_option maxHeartbeats 4000000 in
theorem b_X6_addRuleByLots (s : St)  (M : Mem) (Ret : KR) (hp : XR s M ∧ stOk s ∧ 0 < M 22 0 ∧ M 22 0 < 2147483647) (hR : ∀ M2 : Mem, (XR ((lotR (sB s) (M 22 0)).1, sH s, sI s, sC s, sL s) M2 ∧ M2 22 0 = (lotR (sB s) (M 22 0)).2 ∧ ∀ k, 73 ≤ k → M2 k = M k) → Ret none M2) (hM : MOk M) (Z : KZ) (hZ : Sim cd_X6_addRuleByLots Z Ret) : Z 0 [some (mr 0), none, none, none, none] [] M := by
  obtain ⟨hx, hv, x0, x1⟩ := hp
  generalize hX : M 22 0 = X at *
  have y := lt1_ok x0 x1
  have loop : ∀ (d : Nat) (j code y : Int) (N : Mem), d = (2 + lt1 X % 3 - j).toNat → 0 ≤ j → j ≤ 2 + lt1 X % 3 → N 22 0 = y → (∀ k, ¬ k = 22 → N k = M k) → 0 < y → y < 2147483647 → 0 ≤ code → (j ≤ 0 → code ≤ 0) → (j ≤ 1 → code ≤ 5) → (j ≤ 2 → code ≤ 140) → (j ≤ 3 → code ≤ 3785) → code ≤ 102200 → lotC (2 + lt1 X % 3 - j).toNat code y = lotC (2 + lt1 X % 3).toNat 0 (lt1 X) → Z 12 [some (mr 0), some (mi (2 + lt1 X % 3)), some (mi code), some (mi j), none] [] N := by
    intro d
    induction d using Nat.strongRecOn with
    | ind d ih =>
      intro j code y N hd j0 j1 hy hN y0 y1 c0 b0 b1 b2 b3 b4 hc
      have hxN : XR s N := hx.same (fun k hk => hN k (by omega))
      have hB := hxN.bx hv
      have yy := lt1_ok y0 y1
      refine w_iload hZ 12 13 rfl rfl rfl ?_
      refine w_iload hZ 13 14 rfl rfl rfl ?_
      refine w_cge hZ 14 15 rfl rfl (fun c14 => ?_) (fun c14 => ?_)
      · refine w_const hZ 29 30 rfl rfl  ?_
        refine w_aload hZ 30 31 rfl rfl rfl ?_
        refine w_getr hZ 31 32 rfl rfl rfl rfl rfl ?_
        refine k_X3_next hZ 32 33 rfl rfl (Nat.le_of_ble_eq_true rfl) ⟨by rw [hy]; exact y0, by rw [hy]; exact y1⟩ (fun M32 p32 => ?_)
        rw [hy] at p32 ⊢
        change Z 33 _ [mi (lt1 y), _] _
        have m32 : M32 22 0 = lt1 y := by rw [p32]; simp [mup_at]; rfl
        refine w_const hZ 33 34 rfl rfl  ?_
        refine w_rem hZ 34 35 rfl rfl (by omega) (by omega) ?_
        refine w_add hZ 35 36 rfl rfl (by unfold InR; omega) ?_
        refine w_st5_3 hZ 36 37 rfl rfl rfl ?_
        refine w_aload hZ 37 38 rfl rfl rfl ?_
        refine w_getr hZ 38 39 rfl rfl rfl rfl rfl ?_
        refine k_X3_next hZ 39 40 rfl rfl (Nat.le_of_ble_eq_true rfl) ⟨by rw [m32]; exact yy.1, by rw [m32]; exact yy.2⟩ (fun M39 p39 => ?_)
        rw [m32] at p39 ⊢
        change Z 40 _ [mi (lt1 (lt1 y))] _
        have y3 := lt1_ok yy.1 yy.2
        have m39 : M39 22 0 = lt1 (lt1 y) := by rw [p39]; simp [mup_at]; rfl
        have e39 : ∀ k, ¬ k = 22 → M39 k = M k := fun k hk => by rw [← hN k hk, p39, p32]; funext q; simp [mup_at, hk]
        have hx4 : XR s M39 := hx.same (fun k hk => e39 k (by omega))
        have hB4 := hx4.bx hv
        have hj : 2 + lt1 X % 3 - j = 0 := by omega
        rw [show (2 + lt1 X % 3 - j).toNat = 0 by omega] at hc
        have hc' : (code, y) = lotC (2 + lt1 X % 3).toNat 0 (lt1 X) := hc
        have hl : lotR (sB s) X = (if tkn (sB s) code (30 + lt1 y % 30) ∨ 12 ≤ vR (sB s) then sB s else aR (sB s) code (30 + lt1 y % 30) (lt1 (lt1 y) % 5), lt1 (lt1 y)) := by unfold lotR; rw [← hc']
        have ht := tkn_X hx4 hv code (30 + lt1 y % 30)
        have h4 := hx4.r4
        refine w_const hZ 40 41 rfl rfl  ?_
        refine w_rem hZ 41 42 rfl rfl (by omega) (by omega) ?_
        refine w_st5_4 hZ 42 43 rfl rfl rfl ?_
        refine w_aload hZ 43 44 rfl rfl rfl ?_
        refine w_getr hZ 44 45 rfl rfl rfl rfl rfl ?_
        refine w_iload hZ 45 46 rfl rfl rfl ?_
        refine w_iload hZ 46 47 rfl rfl rfl ?_
        refine k_X0_isTaken hZ 47 48 rfl rfl (Nat.le_of_ble_eq_true rfl) hB4 ?_
        refine w_ifne hZ 48 49 rfl rfl (fun c48 => ?_) (fun c48 => ?_)
        · refine w_vret hZ 55 rfl ?_
          refine hR _ ?_
          rw [hl]
          first
            | (rw [if_pos (Or.inl (ht.mp (b2i_e.mp c48)))]; exact ⟨hx4, m39, fun k hk => e39 k (by omega)⟩)
            | (by_cases q : M39 1 4 < 12
               · rw [if_pos q] at p54
                 rw [if_neg (fun z => z.elim (fun z => (b2i_z.mp c48) (ht.mpr z)) (fun z => by omega))]
                 refine ⟨hx4.book (fun k hk => by rw [p54]; exact addR_o (by omega)) (by rw [p54, bX_addR hB4, hx4.1]), by rw [p54, addR_o (by omega)]; exact m39, fun k hk => by rw [p54, addR_o (by omega)]; exact e39 k (by omega)⟩
               · rw [if_neg q] at p54
                 rw [if_pos (Or.inr (by omega)), p54]
                 exact ⟨hx4, m39, fun k hk => e39 k (by omega)⟩)
        · refine w_aload hZ 49 50 rfl rfl rfl ?_
          refine w_getr hZ 50 51 rfl rfl rfl rfl rfl ?_
          refine w_iload hZ 51 52 rfl rfl rfl ?_
          refine w_iload hZ 52 53 rfl rfl rfl ?_
          refine w_iload hZ 53 54 rfl rfl rfl ?_
          refine k_X0_addRule hZ 54 55 rfl rfl (Nat.le_of_ble_eq_true rfl) hB4 (fun M54 p54 => ?_)
          refine w_vret hZ 55 rfl ?_
          refine hR _ ?_
          rw [hl]
          first
            | (rw [if_pos (Or.inl (ht.mp (b2i_e.mp c48)))]; exact ⟨hx4, m39, fun k hk => e39 k (by omega)⟩)
            | (by_cases q : M39 1 4 < 12
               · rw [if_pos q] at p54
                 rw [if_neg (fun z => z.elim (fun z => (b2i_z.mp c48) (ht.mpr z)) (fun z => by omega))]
                 refine ⟨hx4.book (fun k hk => by rw [p54]; exact addR_o (by omega)) (by rw [p54, bX_addR hB4, hx4.1]), by rw [p54, addR_o (by omega)]; exact m39, fun k hk => by rw [p54, addR_o (by omega)]; exact e39 k (by omega)⟩
               · rw [if_neg q] at p54
                 rw [if_pos (Or.inr (by omega)), p54]
                 exact ⟨hx4, m39, fun k hk => e39 k (by omega)⟩)
      · refine w_iload hZ 15 16 rfl rfl rfl ?_
        refine w_const hZ 16 17 rfl rfl  ?_
        refine w_mul hZ 17 18 rfl rfl (by unfold InR; omega) ?_
        refine w_const hZ 18 19 rfl rfl  ?_
        refine w_add hZ 19 20 rfl rfl (by unfold InR; omega) ?_
        refine w_aload hZ 20 21 rfl rfl rfl ?_
        refine w_getr hZ 21 22 rfl rfl rfl rfl rfl ?_
        refine k_X3_next hZ 22 23 rfl rfl (Nat.le_of_ble_eq_true rfl) ⟨by rw [hy]; exact y0, by rw [hy]; exact y1⟩ (fun M22 p22 => ?_)
        rw [hy] at p22 ⊢
        change Z 23 _ [mi (lt1 y), _] _
        refine w_const hZ 23 24 rfl rfl  ?_
        refine w_rem hZ 24 25 rfl rfl (by omega) (by omega) ?_
        refine w_add hZ 25 26 rfl rfl (by unfold InR; omega) ?_
        refine w_st5_2 hZ 26 27 rfl rfl rfl ?_
        refine w_in5_3 hZ 27 28 rfl rfl rfl (by unfold InR; omega) ?_
        refine w_goto hZ 28 12 rfl ?_
        have d5 : 0 ≤ lt1 y % 5 ∧ lt1 y % 5 ≤ 4 := by omega
        refine ih (2 + lt1 X % 3 - (j + 1)).toNat (by omega) (j + 1) (code * 27 + 1 + lt1 y % 5) (lt1 y) M22 rfl (by omega) (by omega) (by rw [p22]; simp [mup_at]; rfl) (fun k hk => by rw [← hN k hk, p22]; funext q; simp [mup_at, hk]) yy.1 yy.2 (by omega) (by omega) (by omega) (by omega) (by omega) (by omega) ?_
        rw [← hc, show (2 + lt1 X % 3 - j).toNat = (2 + lt1 X % 3 - (j + 1)).toNat + 1 by omega]
        rfl
  refine w_const hZ 0 1 rfl rfl  ?_
  refine w_aload hZ 1 2 rfl rfl rfl ?_
  refine w_getr hZ 2 3 rfl rfl rfl rfl rfl ?_
  refine k_X3_next hZ 3 4 rfl rfl (Nat.le_of_ble_eq_true rfl) ⟨by rw [hX]; exact x0, by rw [hX]; exact x1⟩ (fun M3 p3 => ?_)
  rw [hX] at p3 ⊢
  change Z 4 _ [mi (lt1 X), _] _
  refine w_const hZ 4 5 rfl rfl  ?_
  refine w_rem hZ 5 6 rfl rfl (by omega) (by omega) ?_
  refine w_add hZ 6 7 rfl rfl (by unfold InR; omega) ?_
  refine w_st5_1 hZ 7 8 rfl rfl rfl ?_
  refine w_const hZ 8 9 rfl rfl  ?_
  refine w_st5_2 hZ 9 10 rfl rfl rfl ?_
  refine w_const hZ 10 11 rfl rfl  ?_
  refine w_st5_3 hZ 11 12 rfl rfl rfl ?_
  exact loop _ 0 0 (lt1 X) M3 rfl (Int.le_refl _) (by omega) (by rw [p3]; simp [mup_at]; rfl) (fun k hk => by rw [p3]; funext q; simp [mup_at, hk]) y.1 y.2 (by omega) (by omega) (by omega) (by omega) (by omega) (by omega) (by rw [Int.sub_zero])
set_option maxRecDepth 100000 in
set_option maxHeartbeats 4000000 in
theorem ao_X6_addRuleByLots : AllOk yX6_addRuleByLots.cls cX6_addRuleByLots 5 2 44 none none pc_X6_addRuleByLots 0 cd_X6_addRuleByLots := ⟨s_iconst (by decide +kernel) rfl ⟨by decide, by decide⟩, ⟨s_aload_n (k := 0) (by decide +kernel) rfl rfl, ⟨s_get (C := RX6) (T := TX6) (N := 10) rfl inT6 (by decide) tw_1_206 (by decide +kernel) rfl, ⟨s_callV (C := RX3) (T := TX3) (N := 1) rfl ct_X3_next (by decide) (by decide) ⟨rfl, by decide +kernel, by decide +kernel, by decide +kernel⟩ tw_2_73 tw_2_74 tw_2_75 tw_1_7 tw_2_76 (by decide +kernel) rfl, ⟨s_iconst (by decide +kernel) rfl ⟨by decide, by decide⟩, ⟨s_rem (by decide +kernel) rfl, ⟨s_add (by decide +kernel) rfl, ⟨s_istore_n (k := 1) (by decide +kernel) rfl rfl, ⟨s_iconst (by decide +kernel) rfl ⟨by decide, by decide⟩, ⟨s_istore_n (k := 2) (by decide +kernel) rfl rfl, ⟨s_iconst (by decide +kernel) rfl ⟨by decide, by decide⟩, ⟨s_istore_n (k := 3) (by decide +kernel) rfl rfl, ⟨s_iload_n (k := 3) (by decide +kernel) rfl rfl, ⟨s_iload_n (k := 1) (by decide +kernel) rfl rfl, ⟨s_cge (off := (26)) (by decide +kernel) rfl rfl, ⟨s_iload_n (k := 2) (by decide +kernel) rfl rfl, ⟨s_bipush (by decide +kernel) rfl ⟨by decide, by decide⟩ (by decide +kernel), ⟨s_mul (by decide +kernel) rfl, ⟨s_iconst (by decide +kernel) rfl ⟨by decide, by decide⟩, ⟨s_add (by decide +kernel) rfl, ⟨s_aload_n (k := 0) (by decide +kernel) rfl rfl, ⟨s_get (C := RX6) (T := TX6) (N := 10) rfl inT6 (by decide) tw_1_206 (by decide +kernel) rfl, ⟨s_callV (C := RX3) (T := TX3) (N := 1) rfl ct_X3_next (by decide) (by decide) ⟨rfl, by decide +kernel, by decide +kernel, by decide +kernel⟩ tw_2_73 tw_2_74 tw_2_75 tw_1_7 tw_2_76 (by decide +kernel) rfl, ⟨s_iconst (by decide +kernel) rfl ⟨by decide, by decide⟩, ⟨s_rem (by decide +kernel) rfl, ⟨s_add (by decide +kernel) rfl, ⟨s_istore_n (k := 2) (by decide +kernel) rfl rfl, ⟨s_iinc (by decide +kernel) rfl, ⟨s_goto (off := (-25)) (by decide +kernel) rfl, ⟨s_bipush (by decide +kernel) rfl ⟨by decide, by decide⟩ (by decide +kernel), ⟨s_aload_n (k := 0) (by decide +kernel) rfl rfl, ⟨s_get (C := RX6) (T := TX6) (N := 10) rfl inT6 (by decide) tw_1_206 (by decide +kernel) rfl, ⟨s_callV (C := RX3) (T := TX3) (N := 1) rfl ct_X3_next (by decide) (by decide) ⟨rfl, by decide +kernel, by decide +kernel, by decide +kernel⟩ tw_2_73 tw_2_74 tw_2_75 tw_1_7 tw_2_76 (by decide +kernel) rfl, ⟨s_bipush (by decide +kernel) rfl ⟨by decide, by decide⟩ (by decide +kernel), ⟨s_rem (by decide +kernel) rfl, ⟨s_add (by decide +kernel) rfl, ⟨s_istore_n (k := 3) (by decide +kernel) rfl rfl, ⟨s_aload_n (k := 0) (by decide +kernel) rfl rfl, ⟨s_get (C := RX6) (T := TX6) (N := 10) rfl inT6 (by decide) tw_1_206 (by decide +kernel) rfl, ⟨s_callV (C := RX3) (T := TX3) (N := 1) rfl ct_X3_next (by decide) (by decide) ⟨rfl, by decide +kernel, by decide +kernel, by decide +kernel⟩ tw_2_73 tw_2_74 tw_2_75 tw_1_7 tw_2_76 (by decide +kernel) rfl, ⟨s_iconst (by decide +kernel) rfl ⟨by decide, by decide⟩, ⟨s_rem (by decide +kernel) rfl, ⟨s_istore (by decide +kernel) rfl, ⟨s_aload_n (k := 0) (by decide +kernel) rfl rfl, ⟨s_get (C := RX6) (T := TX6) (N := 10) rfl inT6 (by decide) tw_1_197 (by decide +kernel) rfl, ⟨s_iload_n (k := 2) (by decide +kernel) rfl rfl, ⟨s_iload_n (k := 3) (by decide +kernel) rfl rfl, ⟨s_callV (C := RX0) (T := TX0) (N := 8) rfl ct_X0_isTaken (by decide) (by decide) ⟨rfl, by decide +kernel, by decide +kernel, by decide +kernel⟩ tw_2_3 tw_2_4 tw_2_5 tw_1_2 tw_2_6 (by decide +kernel) rfl, ⟨s_ifne (off := (14)) (by decide +kernel) rfl rfl, ⟨s_aload_n (k := 0) (by decide +kernel) rfl rfl, ⟨s_get (C := RX6) (T := TX6) (N := 10) rfl inT6 (by decide) tw_1_197 (by decide +kernel) rfl, ⟨s_iload_n (k := 2) (by decide +kernel) rfl rfl, ⟨s_iload_n (k := 3) (by decide +kernel) rfl rfl, ⟨s_iload (by decide +kernel) rfl, ⟨s_callV (C := RX0) (T := TX0) (N := 8) rfl ct_X0_addRule (by decide) (by decide) ⟨rfl, by decide +kernel, by decide +kernel, by decide +kernel⟩ tw_2_31 tw_2_32 tw_2_33 tw_1_2 tw_2_34 (by decide +kernel) rfl, ⟨s_vret rfl (by decide +kernel), trivial⟩⟩⟩⟩⟩⟩⟩⟩⟩⟩⟩⟩⟩⟩⟩⟩⟩⟩⟩⟩⟩⟩⟩⟩⟩⟩⟩⟩⟩⟩⟩⟩⟩⟩⟩⟩⟩⟩⟩⟩⟩⟩⟩⟩⟩⟩⟩⟩⟩⟩⟩⟩⟩⟩⟩⟩
theorem ct_X6_addRuleByLots : Ctr yX6_addRuleByLots cX6_addRuleByLots 5 none 2 44 sp_X6_addRuleByLots := by
  refine ctr_of (by decide +kernel) ao_X6_addRuleByLots rfl ?_
  rintro av M Ret ⟨s, rfl, hp, hR⟩ hok hM
  exact ⟨Nat.le_of_ble_eq_true rfl, fun Z hZ => b_X6_addRuleByLots s  M Ret hp hR hM Z hZ⟩
def sp_X6_drift : SP := fun av M Ret => ∃ s : St, ∃ n : Int, ∃ sd : Int, av = [mr 0, mi n, mi sd] ∧ (XR s M ∧ stOk s) ∧ (∀ M2 : Mem, (XR (oDrift s n sd).2 M2 ∧ ∀ k, 73 ≤ k → M2 k = M k) → Ret (some (mi ((oDrift s n sd).1))) M2)
theorem k_X6_drift {code : List Sem} {Z : KZ} {Ret : KR} {ls : List (Option MV)} {M : Mem} {r : List MV} (hZ : Sim code Z Ret) (ip np : Nat) {s : St} {n sd : Int} (hc : code[ip]? = some (I_callV 6 2 sp_X6_drift)) (hn : ip + 1 = np) (h3 : catS r ≤ 8)  (hp : XR s M ∧ stOk s) (kz : ∀ M2 : Mem, (XR (oDrift s n sd).2 M2 ∧ ∀ k, 73 ≤ k → M2 k = M k) → Z np ls (mi ((oDrift s n sd).1) :: r) M2) : Z ip ls (mi sd :: mi n :: mr 0 :: r) M := w_callV2 hZ ip np hc hn rfl rfl h3 ⟨_, _, _, rfl, hp, fun M2 h => kz M2 h⟩
def cd_X6_drift : List Sem := [I_iload 1, I_const (1), I_clt 12, I_iload 1, I_const (12), I_cgt 12, I_iload 2, I_const (1), I_clt 12, I_iload 2, I_const (999999), I_cle 14, I_const (-1000000002), I_iret, I_aload 0, I_get 6 1, I_aload 0, I_get 6 0, I_callV 1 1 sp_X1_remember, I_aload 0, I_get 6 0, I_get 0 4, I_istore 3, I_aload 0, I_get 6 9, I_iload 2, I_callV 3 1 sp_X3_begin, I_const (0), I_istore 4, I_iload 4, I_iload 1, I_cge 36, I_aload 0, I_callV 6 0 sp_X6_addRuleByLots, I_iinc 4 (1), I_goto 29, I_aload 0, I_get 6 0, I_get 0 4, I_iload 3, I_sub, I_iret]
def pc_X6_drift : List Nat := [0, 1, 2, 5, 6, 8, 11, 12, 13, 16, 17, 19, 22, 24, 25, 26, 29, 30, 33, 36, 37, 40, 43, 44, 45, 48, 49, 52, 53, 55, 57, 58, 61, 62, 65, 68, 71, 72, 75, 78, 79, 80]
set_option maxRecDepth 100000 in
set_option maxHeartbeats 4000000 in
theorem b_X6_drift (s : St) (n : Int) (i_n : InR n) (sd : Int) (i_sd : InR sd) (M : Mem) (Ret : KR) (hp : XR s M ∧ stOk s) (hR : ∀ M2 : Mem, (XR (oDrift s n sd).2 M2 ∧ ∀ k, 73 ≤ k → M2 k = M k) → Ret (some (mi ((oDrift s n sd).1))) M2) (hM : MOk M) (Z : KZ) (hZ : Sim cd_X6_drift Z Ret) : Z 0 [some (mr 0), some (mi n), some (mi sd), none, none] [] M := by
  obtain ⟨hx, hv⟩ := hp
  have hB := hx.bx hv
  have hH := hx.2.1
  have fin : ∀ r : Int × St, (oDrift s n sd) = r → ∀ (x : Int) (M2 : Mem), x = r.1 → (XR r.2 M2 ∧ ∀ k, 73 ≤ k → M2 k = M k) → Ret (some (mi x)) M2 := by
    intro r q x M2 e h; subst e; subst q; exact hR M2 h
  have non : ∀ x : Int, (oDrift s n sd) = (x, s) → Ret (some (mi x)) M := fun x q => fin _ q x M rfl ⟨hx, fun _ _ => rfl⟩
  have loop : ¬ (n < 1 ∨ 12 < n ∨ sd < 1 ∨ 999999 < sd) → ∀ (d : Nat) (i y : Int) (V : BV) (N : Mem), d = (n - i).toNat → 0 ≤ i → i ≤ n → vOk V → 0 < y → y < 2147483647 → N 22 0 = y → XR (nx s V) N → (∀ k, 73 ≤ k → N k = M k) → dft (n - i).toNat V y = dft n.toNat (sB s) sd → Z 29 [some (mr 0), some (mi n), some (mi sd), some (mi (vR (sB s))), some (mi i)] [] N := by
    intro hn d
    induction d using Nat.strongRecOn with
    | ind d ih =>
      intro i y V N hd i0 i1 hV y0 y1 hy hxN hf hc
      have hvN := nx_ok hv hV
      have h4 : N 1 4 = vR V := hxN.r4
      have b1 := hV.2.2.1
      have b2 := hV.2.2.2.1
      have b3 := hv.1.2.2.1
      have b4 := hv.1.2.2.2.1
      refine w_iload hZ 29 30 rfl rfl rfl ?_
      refine w_iload hZ 30 31 rfl rfl rfl ?_
      refine w_cge hZ 31 32 rfl rfl (fun c31 => ?_) (fun c31 => ?_)
      · refine w_aload hZ 36 37 rfl rfl rfl ?_
        refine w_getr hZ 37 38 rfl rfl rfl rfl rfl ?_
        refine w_getiv hZ 38 39 rfl rfl rfl rfl rfl (v := vR V) h4 ?_
        refine w_iload hZ 39 40 rfl rfl rfl ?_
        refine w_sub hZ 40 41 rfl rfl (by unfold InR; omega) ?_
        refine w_iret hZ 41 rfl ?_
        have he : (n - i).toNat = 0 := by omega
        rw [he] at hc
        have hc' : V = dft n.toNat (sB s) sd := hc
        refine fin (vR V - vR (sB s), nx s V) (by unfold oDrift; rw [if_neg hn, ← hc']) _ _ rfl ⟨hxN, hf⟩
      · refine w_aload hZ 32 33 rfl rfl rfl ?_
        refine k_X6_addRuleByLots hZ 33 34 rfl rfl (Nat.le_of_ble_eq_true rfl) ⟨hxN, hvN, by rw [hy]; exact y0, by rw [hy]; exact y1⟩ (fun M33 p33 => ?_)
        have hl := lotR_ok hV y0 y1
        rw [hy] at p33
        obtain ⟨q1, q2, q3⟩ := p33
        refine w_in5_4 hZ 34 35 rfl rfl rfl (by unfold InR; omega) ?_
        refine w_goto hZ 35 29 rfl ?_
        refine ih (n - (i + 1)).toNat (by omega) (i + 1) (lotR V y).2 (lotR V y).1 M33 rfl (by omega) (by omega) hl.1 hl.2.1 hl.2.2 q2 q1 (fun k hk => (q3 k hk).trans (hf k hk)) ?_
        rw [← hc, show (n - i).toNat = (n - (i + 1)).toNat + 1 by omega]
        rfl
  refine w_iload hZ 0 1 rfl rfl rfl ?_
  refine w_const hZ 1 2 rfl rfl  ?_
  refine w_clt hZ 2 3 rfl rfl (fun c2 => ?_) (fun c2 => ?_)
  · refine w_const hZ 12 13 rfl rfl  ?_
    refine w_iret hZ 13 rfl ?_
    exact non _ (by unfold oDrift; rw [if_pos (by omega)])
  · refine w_iload hZ 3 4 rfl rfl rfl ?_
    refine w_const hZ 4 5 rfl rfl  ?_
    refine w_cgt hZ 5 6 rfl rfl (fun c5 => ?_) (fun c5 => ?_)
    · refine w_const hZ 12 13 rfl rfl  ?_
      refine w_iret hZ 13 rfl ?_
      exact non _ (by unfold oDrift; rw [if_pos (by omega)])
    · refine w_iload hZ 6 7 rfl rfl rfl ?_
      refine w_const hZ 7 8 rfl rfl  ?_
      refine w_clt hZ 8 9 rfl rfl (fun c8 => ?_) (fun c8 => ?_)
      · refine w_const hZ 12 13 rfl rfl  ?_
        refine w_iret hZ 13 rfl ?_
        exact non _ (by unfold oDrift; rw [if_pos (by omega)])
      · refine w_iload hZ 9 10 rfl rfl rfl ?_
        refine w_const hZ 10 11 rfl rfl  ?_
        refine w_cle hZ 11 12 rfl rfl (fun c11 => ?_) (fun c11 => ?_)
        · refine w_aload hZ 14 15 rfl rfl rfl ?_
          refine w_getr hZ 15 16 rfl rfl rfl rfl rfl ?_
          refine w_aload hZ 16 17 rfl rfl rfl ?_
          refine w_getr hZ 17 18 rfl rfl rfl rfl rfl ?_
          refine k_X1_remember hZ 18 19 rfl rfl (Nat.le_of_ble_eq_true rfl) hH (fun M18 p18 => ?_)
          have hx2 := hx.rem hv p18
          have h4 : M18 1 4 = vR (sB s) := hx2.r4
          refine w_aload hZ 19 20 rfl rfl rfl ?_
          refine w_getr hZ 20 21 rfl rfl rfl rfl rfl ?_
          refine w_getiv hZ 21 22 rfl rfl rfl rfl rfl (v := vR (sB s)) h4 ?_
          refine w_st5_3 hZ 22 23 rfl rfl rfl ?_
          refine w_aload hZ 23 24 rfl rfl rfl ?_
          refine w_getr hZ 24 25 rfl rfl rfl rfl rfl ?_
          refine w_iload hZ 25 26 rfl rfl rfl ?_
          refine k_X3_begin hZ 26 27 rfl rfl (Nat.le_of_ble_eq_true rfl)  (fun M26 p26 => ?_)
          refine w_const hZ 27 28 rfl rfl  ?_
          refine w_st5_4 hZ 28 29 rfl rfl rfl ?_
          subst p26
          have e22 : ∀ k, ¬ k = 22 → mup M18 22 0 sd k = M18 k := fun k hk => by funext j; simp [mup_at, hk]
          refine loop (by omega) _ 0 sd (sB s) (mup M18 22 0 sd) rfl (Int.le_refl _) (by omega) hv.1 (by omega) (by omega) (by simp [mup_at]) (hx2.same (fun k hk => e22 k (by omega))) (fun k hk => by rw [e22 k (by omega)]; exact remB_hi p18 hH k (by omega)) (by rw [Int.sub_zero])
        · refine w_const hZ 12 13 rfl rfl  ?_
          refine w_iret hZ 13 rfl ?_
          exact non _ (by unfold oDrift; rw [if_pos (by omega)])
set_option maxRecDepth 100000 in
set_option maxHeartbeats 4000000 in
theorem ao_X6_drift : AllOk yX6_drift.cls cX6_drift 5 3 68 (some .int) none pc_X6_drift 0 cd_X6_drift := ⟨s_iload_n (k := 1) (by decide +kernel) rfl rfl, ⟨s_iconst (by decide +kernel) rfl ⟨by decide, by decide⟩, ⟨s_clt (off := (20)) (by decide +kernel) rfl rfl, ⟨s_iload_n (k := 1) (by decide +kernel) rfl rfl, ⟨s_bipush (by decide +kernel) rfl ⟨by decide, by decide⟩ (by decide +kernel), ⟨s_cgt (off := (14)) (by decide +kernel) rfl rfl, ⟨s_iload_n (k := 2) (by decide +kernel) rfl rfl, ⟨s_iconst (by decide +kernel) rfl ⟨by decide, by decide⟩, ⟨s_clt (off := (9)) (by decide +kernel) rfl rfl, ⟨s_iload_n (k := 2) (by decide +kernel) rfl rfl, ⟨s_ldc (v := (999999)) tw_2_64 (by decide +kernel) rfl ⟨by decide, by decide⟩ (by decide +kernel), ⟨s_cle (off := (6)) (by decide +kernel) rfl rfl, ⟨s_ldc (v := (-1000000002)) tw_2_2 (by decide +kernel) rfl ⟨by decide, by decide⟩ (by decide +kernel), ⟨s_iret rfl (by decide +kernel), ⟨s_aload_n (k := 0) (by decide +kernel) rfl rfl, ⟨s_get (C := RX6) (T := TX6) (N := 10) rfl inT6 (by decide) tw_1_198 (by decide +kernel) rfl, ⟨s_aload_n (k := 0) (by decide +kernel) rfl rfl, ⟨s_get (C := RX6) (T := TX6) (N := 10) rfl inT6 (by decide) tw_1_197 (by decide +kernel) rfl, ⟨s_callV (C := RX1) (T := TX1) (N := 3) rfl ct_X1_remember (by decide) (by decide) ⟨rfl, by decide +kernel, by decide +kernel, by decide +kernel⟩ tw_2_17 tw_2_18 tw_2_19 tw_1_3 tw_2_20 (by decide +kernel) rfl, ⟨s_aload_n (k := 0) (by decide +kernel) rfl rfl, ⟨s_get (C := RX6) (T := TX6) (N := 10) rfl inT6 (by decide) tw_1_197 (by decide +kernel) rfl, ⟨s_get (C := RX0) (T := TX0) (N := 8) rfl inT0 (by decide) tw_1_37 (by decide +kernel) rfl, ⟨s_istore_n (k := 3) (by decide +kernel) rfl rfl, ⟨s_aload_n (k := 0) (by decide +kernel) rfl rfl, ⟨s_get (C := RX6) (T := TX6) (N := 10) rfl inT6 (by decide) tw_1_206 (by decide +kernel) rfl, ⟨s_iload_n (k := 2) (by decide +kernel) rfl rfl, ⟨s_callV (C := RX3) (T := TX3) (N := 1) rfl ct_X3_begin (by decide) (by decide) ⟨rfl, by decide +kernel, by decide +kernel, by decide +kernel⟩ tw_2_65 tw_2_66 tw_2_67 tw_1_7 tw_2_68 (by decide +kernel) rfl, ⟨s_iconst (by decide +kernel) rfl ⟨by decide, by decide⟩, ⟨s_istore (by decide +kernel) rfl, ⟨s_iload (by decide +kernel) rfl, ⟨s_iload_n (k := 1) (by decide +kernel) rfl rfl, ⟨s_cge (off := (13)) (by decide +kernel) rfl rfl, ⟨s_aload_n (k := 0) (by decide +kernel) rfl rfl, ⟨s_callV (C := RX6) (T := TX6) (N := 10) rfl ct_X6_addRuleByLots (by decide) (by decide) ⟨rfl, by decide +kernel, by decide +kernel, by decide +kernel⟩ tw_2_69 tw_2_71 ts_1_2 tw_1_1 tw_2_72 (by decide +kernel) rfl, ⟨s_iinc (by decide +kernel) rfl, ⟨s_goto (off := (-13)) (by decide +kernel) rfl, ⟨s_aload_n (k := 0) (by decide +kernel) rfl rfl, ⟨s_get (C := RX6) (T := TX6) (N := 10) rfl inT6 (by decide) tw_1_197 (by decide +kernel) rfl, ⟨s_get (C := RX0) (T := TX0) (N := 8) rfl inT0 (by decide) tw_1_37 (by decide +kernel) rfl, ⟨s_iload_n (k := 3) (by decide +kernel) rfl rfl, ⟨s_sub (by decide +kernel) rfl, ⟨s_iret rfl (by decide +kernel), trivial⟩⟩⟩⟩⟩⟩⟩⟩⟩⟩⟩⟩⟩⟩⟩⟩⟩⟩⟩⟩⟩⟩⟩⟩⟩⟩⟩⟩⟩⟩⟩⟩⟩⟩⟩⟩⟩⟩⟩⟩⟩⟩
theorem ct_X6_drift : Ctr yX6_drift cX6_drift 5 (some .int) 3 68 sp_X6_drift := by
  refine ctr_of (by decide +kernel) ao_X6_drift rfl ?_
  rintro av M Ret ⟨s, n, sd, rfl, hp, hR⟩ hok hM
  exact ⟨Nat.le_of_ble_eq_true rfl, fun Z hZ => b_X6_drift s n (hok _ (List.mem_of_getElem? (i := 1) rfl)) sd (hok _ (List.mem_of_getElem? (i := 2) rfl)) M Ret hp hR hM Z hZ⟩
