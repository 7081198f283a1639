/-! History, Lots -/
abbrev Hx (M : Mem) : Prop := 0 ≤ M 6 1 ∧ M 6 1 < 8 ∧ 0 ≤ M 6 2 ∧ M 6 2 ≤ 8
theorem isBk_1 : isBk 1 := ⟨rfl, rfl, rfl, rfl, rfl⟩
theorem isBk_23 : isBk 23 := ⟨rfl, rfl, rfl, rfl, rfl⟩
theorem isBk_28 : isBk 28 := ⟨rfl, rfl, rfl, rfl, rfl⟩
theorem isBk_33 : isBk 33 := ⟨rfl, rfl, rfl, rfl, rfl⟩
theorem isBk_38 : isBk 38 := ⟨rfl, rfl, rfl, rfl, rfl⟩
theorem isBk_43 : isBk 43 := ⟨rfl, rfl, rfl, rfl, rfl⟩
theorem isBk_48 : isBk 48 := ⟨rfl, rfl, rfl, rfl, rfl⟩
theorem isBk_53 : isBk 53 := ⟨rfl, rfl, rfl, rfl, rfl⟩
theorem isBk_58 : isBk 58 := ⟨rfl, rfl, rfl, rfl, rfl⟩
theorem isBk_63 : isBk 63 := ⟨rfl, rfl, rfl, rfl, rfl⟩
theorem isBk_68 : isBk 68 := ⟨rfl, rfl, rfl, rfl, rfl⟩
/-- the past's book number i (0 .. 7) stands from this cell on -/
def pb (i : Int) : Nat := 23 + 5 * i.toNat
/-- remember(now): the book at 'next' becomes now's, next and count go on -/
def remB (M M2 : Mem) : Prop := (∃ N, cpB (pb (M 6 1)) 1 M N ∧ M2 = mup (mup N 6 1 ((M 6 1 + 1) % 8)) 6 2 (if 8 < M 6 2 + 1 then 8 else M 6 2 + 1))
/-- takeBack(now) -/
def tkB (M M2 : Mem) : Prop := if M 6 2 ≤ 0 then M2 = M else cpB 1 (pb ((M 6 1 + 8 - 1) % 8)) (mup (mup M 6 1 ((M 6 1 + 8 - 1) % 8)) 6 2 (M 6 2 - 1)) M2
def sp_X1_remember : SP := fun av M Ret => av = [mr 6, mr 1] ∧ (Hx M) ∧ (∀ M2 : Mem, (remB M M2) → Ret none M2)
theorem k_X1_remember {code : List Sem} {Z : KZ} {Ret : KR} {ls : List (Option MV)} {M : Mem} {r : List MV} (hZ : Sim code Z Ret) (ip np : Nat)  (hc : code[ip]? = some (I_callV 1 1 sp_X1_remember)) (hn : ip + 1 = np) (h3 : catS r ≤ 8)  (hp : Hx M) (kz : ∀ M2 : Mem, (remB M M2) → Z np ls r M2) : Z ip ls (mr 1 :: mr 6 :: r) M := w_callV1 hZ ip np hc hn rfl rfl h3 ⟨rfl, hp, fun M2 h => kz M2 h⟩
def cd_X1_remember : List Sem := [I_aload 0, I_get 1 0, I_aload 0, I_get 1 1, I_aald, I_aload 1, I_callV 0 1 sp_X0_copyFrom, I_aload 0, I_aload 0, I_get 1 1, I_const (1), I_add, I_const (8), I_rem, I_puti 1 1, I_aload 0, I_aload 0, I_get 1 2, I_const (1), I_add, I_const (8), I_min, I_puti 1 2, I_vret]
def pc_X1_remember : List Nat := [0, 1, 4, 5, 8, 9, 10, 13, 14, 15, 18, 19, 20, 22, 23, 26, 27, 28, 31, 32, 33, 35, 38, 41]
set_option maxRecDepth 100000 in
set_option maxHeartbeats 4000000 in
theorem b_X1_remember  (M : Mem) (Ret : KR) (hp : Hx M) (hR : ∀ M2 : Mem, (remB M M2) → Ret none M2) (hM : MOk M) (Z : KZ) (hZ : Sim cd_X1_remember Z Ret) : Z 0 [some (mr 6), some (mr 1)] [] M := by
  obtain ⟨h1, h2, h3, h4⟩ := hp
  have fin : ∀ N : Mem, cpB (pb (M 6 1)) 1 M N → Z 7 [some (mr 6), some (mr 1)] [] N := by
    intro N hN
    have e6 : N 6 = M 6 := hN.2.2.2.2.2.2.2.2 6 (Or.inl (by unfold pb; omega))
    have e61 : N 6 1 = M 6 1 := by rw [e6]
    have e62 : N 6 2 = M 6 2 := by rw [e6]
    refine w_aload hZ 7 8 rfl rfl rfl ?_
    refine w_aload hZ 8 9 rfl rfl rfl ?_
    refine w_getiv hZ 9 10 rfl rfl rfl rfl rfl (v := M 6 1) e61 ?_
    refine w_const hZ 10 11 rfl rfl  ?_
    refine w_add hZ 11 12 rfl rfl (by unfold InR; omega) ?_
    refine w_const hZ 12 13 rfl rfl  ?_
    refine w_rem hZ 13 14 rfl rfl (by omega) (by omega) ?_
    refine w_puti hZ 14 15 rfl rfl rfl rfl rfl ?_
    refine w_aload hZ 15 16 rfl rfl rfl ?_
    refine w_aload hZ 16 17 rfl rfl rfl ?_
    refine w_getiv hZ 17 18 rfl rfl rfl rfl rfl (v := M 6 2) e62 ?_
    refine w_const hZ 18 19 rfl rfl  ?_
    refine w_add hZ 19 20 rfl rfl (by unfold InR; omega) ?_
    refine w_const hZ 20 21 rfl rfl  ?_
    refine w_min hZ 21 22 rfl rfl (Nat.le_of_ble_eq_true rfl) ?_
    refine w_puti hZ 22 23 rfl rfl rfl rfl rfl ?_
    refine w_vret hZ 23 rfl ?_
    exact hR _ ⟨N, hN, rfl⟩
  refine w_aload hZ 0 1 rfl rfl rfl ?_
  refine w_getr hZ 1 2 rfl rfl rfl rfl rfl ?_
  refine w_aload hZ 2 3 rfl rfl rfl ?_
  refine w_geti hZ 3 4 rfl rfl rfl rfl rfl ?_
  refine w_aald8 hZ 4 5 rfl rfl rfl h1 h2 (fun c => ?_) (fun c => ?_) (fun c => ?_) (fun c => ?_) (fun c => ?_) (fun c => ?_) (fun c => ?_) (fun c => ?_)
  · refine w_aload hZ 5 6 rfl rfl rfl ?_
    refine k_X0_copyFrom hZ 6 7 rfl rfl (Nat.le_of_ble_eq_true rfl) rfl rfl ⟨isBk_23, isBk_1, by omega⟩ (fun N p => fin N ?_)
    rw [c]; exact p
  · refine w_aload hZ 5 6 rfl rfl rfl ?_
    refine k_X0_copyFrom hZ 6 7 rfl rfl (Nat.le_of_ble_eq_true rfl) rfl rfl ⟨isBk_28, isBk_1, by omega⟩ (fun N p => fin N ?_)
    rw [c]; exact p
  · refine w_aload hZ 5 6 rfl rfl rfl ?_
    refine k_X0_copyFrom hZ 6 7 rfl rfl (Nat.le_of_ble_eq_true rfl) rfl rfl ⟨isBk_33, isBk_1, by omega⟩ (fun N p => fin N ?_)
    rw [c]; exact p
  · refine w_aload hZ 5 6 rfl rfl rfl ?_
    refine k_X0_copyFrom hZ 6 7 rfl rfl (Nat.le_of_ble_eq_true rfl) rfl rfl ⟨isBk_38, isBk_1, by omega⟩ (fun N p => fin N ?_)
    rw [c]; exact p
  · refine w_aload hZ 5 6 rfl rfl rfl ?_
    refine k_X0_copyFrom hZ 6 7 rfl rfl (Nat.le_of_ble_eq_true rfl) rfl rfl ⟨isBk_43, isBk_1, by omega⟩ (fun N p => fin N ?_)
    rw [c]; exact p
  · refine w_aload hZ 5 6 rfl rfl rfl ?_
    refine k_X0_copyFrom hZ 6 7 rfl rfl (Nat.le_of_ble_eq_true rfl) rfl rfl ⟨isBk_48, isBk_1, by omega⟩ (fun N p => fin N ?_)
    rw [c]; exact p
  · refine w_aload hZ 5 6 rfl rfl rfl ?_
    refine k_X0_copyFrom hZ 6 7 rfl rfl (Nat.le_of_ble_eq_true rfl) rfl rfl ⟨isBk_53, isBk_1, by omega⟩ (fun N p => fin N ?_)
    rw [c]; exact p
  · refine w_aload hZ 5 6 rfl rfl rfl ?_
    refine k_X0_copyFrom hZ 6 7 rfl rfl (Nat.le_of_ble_eq_true rfl) rfl rfl ⟨isBk_58, isBk_1, by omega⟩ (fun N p => fin N ?_)
    rw [c]; exact p
set_option maxRecDepth 100000 in
set_option maxHeartbeats 4000000 in
theorem ao_X1_remember : AllOk yX1_remember.cls cX1_remember 2 2 47 none none pc_X1_remember 0 cd_X1_remember := ⟨s_aload_n (k := 0) (by decide +kernel) rfl rfl, ⟨s_get (C := RX1) (T := TX1) (N := 3) rfl inT1 (by decide) tw_1_72 (by decide +kernel) rfl, ⟨s_aload_n (k := 0) (by decide +kernel) rfl rfl, ⟨s_get (C := RX1) (T := TX1) (N := 3) rfl inT1 (by decide) tw_1_73 (by decide +kernel) rfl, ⟨s_aald (by decide +kernel) rfl, ⟨s_aload_n (k := 1) (by decide +kernel) rfl rfl, ⟨s_callV (C := RX0) (T := TX0) (N := 8) rfl ct_X0_copyFrom (by decide) (by decide) ⟨rfl, by decide +kernel, by decide +kernel, by decide +kernel⟩ tw_2_21 tw_2_22 tw_2_23 tw_1_2 tw_2_24 (by decide +kernel) rfl, ⟨s_aload_n (k := 0) (by decide +kernel) rfl rfl, ⟨s_aload_n (k := 0) (by decide +kernel) rfl rfl, ⟨s_get (C := RX1) (T := TX1) (N := 3) rfl inT1 (by decide) tw_1_73 (by decide +kernel) rfl, ⟨s_iconst (by decide +kernel) rfl ⟨by decide, by decide⟩, ⟨s_add (by decide +kernel) rfl, ⟨s_bipush (by decide +kernel) rfl ⟨by decide, by decide⟩ (by decide +kernel), ⟨s_rem (by decide +kernel) rfl, ⟨s_puti (C := RX1) (T := TX1) (N := 3) (tyf := tyX1) rfl inT1 tyX1_ok nmX1 (by decide) rfl rfl tw_1_73 (by decide +kernel) rfl, ⟨s_aload_n (k := 0) (by decide +kernel) rfl rfl, ⟨s_aload_n (k := 0) (by decide +kernel) rfl rfl, ⟨s_get (C := RX1) (T := TX1) (N := 3) rfl inT1 (by decide) tw_1_74 (by decide +kernel) rfl, ⟨s_iconst (by decide +kernel) rfl ⟨by decide, by decide⟩, ⟨s_add (by decide +kernel) rfl, ⟨s_bipush (by decide +kernel) rfl ⟨by decide, by decide⟩ (by decide +kernel), ⟨s_min tw_2_28 tw_2_29 tw_1_10 tw_2_30 (by decide) (by decide) (by decide +kernel) rfl, ⟨s_puti (C := RX1) (T := TX1) (N := 3) (tyf := tyX1) rfl inT1 tyX1_ok nmX1 (by decide) rfl rfl tw_1_74 (by decide +kernel) rfl, ⟨s_vret rfl (by decide +kernel), trivial⟩⟩⟩⟩⟩⟩⟩⟩⟩⟩⟩⟩⟩⟩⟩⟩⟩⟩⟩⟩⟩⟩⟩⟩
theorem ct_X1_remember : Ctr yX1_remember cX1_remember 2 none 2 47 sp_X1_remember := by
  refine ctr_of (by decide +kernel) ao_X1_remember rfl ?_
  rintro av M Ret ⟨rfl, hp, hR⟩ hok hM
  exact ⟨Nat.le_of_ble_eq_true rfl, fun Z hZ => b_X1_remember   M Ret hp hR hM Z hZ⟩
def sp_X1_takeBack : SP := fun av M Ret => av = [mr 6, mr 1] ∧ (Hx M) ∧ (∀ M2 : Mem, (tkB M M2) → Ret none M2)
theorem k_X1_takeBack {code : List Sem} {Z : KZ} {Ret : KR} {ls : List (Option MV)} {M : Mem} {r : List MV} (hZ : Sim code Z Ret) (ip np : Nat)  (hc : code[ip]? = some (I_callV 1 1 sp_X1_takeBack)) (hn : ip + 1 = np) (h3 : catS r ≤ 8)  (hp : Hx M) (kz : ∀ M2 : Mem, (tkB M M2) → Z np ls r M2) : Z ip ls (mr 1 :: mr 6 :: r) M := w_callV1 hZ ip np hc hn rfl rfl h3 ⟨rfl, hp, fun M2 h => kz M2 h⟩
def cd_X1_takeBack : List Sem := [I_aload 0, I_get 1 2, I_ifle 26, I_aload 0, I_aload 0, I_get 1 1, I_const (8), I_add, I_const (1), I_sub, I_const (8), I_rem, I_puti 1 1, I_aload 0, I_dup, I_get 1 2, I_const (1), I_sub, I_puti 1 2, I_aload 1, I_aload 0, I_get 1 0, I_aload 0, I_get 1 1, I_aald, I_callV 0 1 sp_X0_copyFrom, I_vret]
def pc_X1_takeBack : List Nat := [0, 1, 4, 7, 8, 9, 12, 14, 15, 16, 17, 19, 20, 23, 24, 25, 28, 29, 30, 33, 34, 35, 38, 39, 42, 43, 46]
set_option maxRecDepth 100000 in
set_option maxHeartbeats 4000000 in
theorem b_X1_takeBack  (M : Mem) (Ret : KR) (hp : Hx M) (hR : ∀ M2 : Mem, (tkB M M2) → Ret none M2) (hM : MOk M) (Z : KZ) (hZ : Sim cd_X1_takeBack Z Ret) : Z 0 [some (mr 6), some (mr 1)] [] M := by
  obtain ⟨h1, h2, h3, h4⟩ := hp
  refine w_aload hZ 0 1 rfl rfl rfl ?_
  refine w_geti hZ 1 2 rfl rfl rfl rfl rfl ?_
  refine w_ifle hZ 2 3 rfl rfl (fun c2 => ?_) (fun c2 => ?_)
  · refine w_vret hZ 26 rfl ?_
    exact hR _ (by unfold tkB; rw [if_pos c2])
  · refine w_aload hZ 3 4 rfl rfl rfl ?_
    refine w_aload hZ 4 5 rfl rfl rfl ?_
    refine w_geti hZ 5 6 rfl rfl rfl rfl rfl ?_
    refine w_const hZ 6 7 rfl rfl  ?_
    refine w_add hZ 7 8 rfl rfl (by unfold InR; omega) ?_
    refine w_const hZ 8 9 rfl rfl  ?_
    refine w_sub hZ 9 10 rfl rfl (by unfold InR; omega) ?_
    refine w_const hZ 10 11 rfl rfl  ?_
    refine w_rem hZ 11 12 rfl rfl (by omega) (by omega) ?_
    refine w_puti hZ 12 13 rfl rfl rfl rfl rfl ?_
    refine w_aload hZ 13 14 rfl rfl rfl ?_
    refine w_dup hZ 14 15 rfl rfl rfl ?_
    refine w_getiv hZ 15 16 rfl rfl rfl rfl rfl (v := M 6 2) rfl ?_
    refine w_const hZ 16 17 rfl rfl  ?_
    refine w_sub hZ 17 18 rfl rfl (by unfold InR; omega) ?_
    refine w_puti hZ 18 19 rfl rfl rfl rfl rfl ?_
    refine w_aload hZ 19 20 rfl rfl rfl ?_
    refine w_aload hZ 20 21 rfl rfl rfl ?_
    refine w_getr hZ 21 22 rfl rfl rfl rfl rfl ?_
    refine w_aload hZ 22 23 rfl rfl rfl ?_
    refine w_getiv hZ 23 24 rfl rfl rfl rfl rfl (v := (M 6 1 + 8 - 1) % 8) rfl ?_
    refine w_aald8 hZ 24 25 rfl rfl rfl (by omega) (by omega) (fun c => ?_) (fun c => ?_) (fun c => ?_) (fun c => ?_) (fun c => ?_) (fun c => ?_) (fun c => ?_) (fun c => ?_)
    · refine k_X0_copyFrom hZ 25 26 rfl rfl (Nat.le_of_ble_eq_true rfl) rfl rfl ⟨isBk_1, isBk_23, by omega⟩ (fun N p => ?_)
      refine w_vret hZ 26 rfl ?_
      refine hR _ ?_
      unfold tkB
      rw [c] at p
      rw [if_neg (by omega), c]
      exact p
    · refine k_X0_copyFrom hZ 25 26 rfl rfl (Nat.le_of_ble_eq_true rfl) rfl rfl ⟨isBk_1, isBk_28, by omega⟩ (fun N p => ?_)
      refine w_vret hZ 26 rfl ?_
      refine hR _ ?_
      unfold tkB
      rw [c] at p
      rw [if_neg (by omega), c]
      exact p
    · refine k_X0_copyFrom hZ 25 26 rfl rfl (Nat.le_of_ble_eq_true rfl) rfl rfl ⟨isBk_1, isBk_33, by omega⟩ (fun N p => ?_)
      refine w_vret hZ 26 rfl ?_
      refine hR _ ?_
      unfold tkB
      rw [c] at p
      rw [if_neg (by omega), c]
      exact p
    · refine k_X0_copyFrom hZ 25 26 rfl rfl (Nat.le_of_ble_eq_true rfl) rfl rfl ⟨isBk_1, isBk_38, by omega⟩ (fun N p => ?_)
      refine w_vret hZ 26 rfl ?_
      refine hR _ ?_
      unfold tkB
      rw [c] at p
      rw [if_neg (by omega), c]
      exact p
    · refine k_X0_copyFrom hZ 25 26 rfl rfl (Nat.le_of_ble_eq_true rfl) rfl rfl ⟨isBk_1, isBk_43, by omega⟩ (fun N p => ?_)
      refine w_vret hZ 26 rfl ?_
      refine hR _ ?_
      unfold tkB
      rw [c] at p
      rw [if_neg (by omega), c]
      exact p
    · refine k_X0_copyFrom hZ 25 26 rfl rfl (Nat.le_of_ble_eq_true rfl) rfl rfl ⟨isBk_1, isBk_48, by omega⟩ (fun N p => ?_)
      refine w_vret hZ 26 rfl ?_
      refine hR _ ?_
      unfold tkB
      rw [c] at p
      rw [if_neg (by omega), c]
      exact p
    · refine k_X0_copyFrom hZ 25 26 rfl rfl (Nat.le_of_ble_eq_true rfl) rfl rfl ⟨isBk_1, isBk_53, by omega⟩ (fun N p => ?_)
      refine w_vret hZ 26 rfl ?_
      refine hR _ ?_
      unfold tkB
      rw [c] at p
      rw [if_neg (by omega), c]
      exact p
    · refine k_X0_copyFrom hZ 25 26 rfl rfl (Nat.le_of_ble_eq_true rfl) rfl rfl ⟨isBk_1, isBk_58, by omega⟩ (fun N p => ?_)
      refine w_vret hZ 26 rfl ?_
      refine hR _ ?_
      unfold tkB
      rw [c] at p
      rw [if_neg (by omega), c]
      exact p
set_option maxRecDepth 100000 in
set_option maxHeartbeats 4000000 in
theorem ao_X1_takeBack : AllOk yX1_takeBack.cls cX1_takeBack 2 2 47 none none pc_X1_takeBack 0 cd_X1_takeBack := ⟨s_aload_n (k := 0) (by decide +kernel) rfl rfl, ⟨s_get (C := RX1) (T := TX1) (N := 3) rfl inT1 (by decide) tw_1_74 (by decide +kernel) rfl, ⟨s_ifle (off := (42)) (by decide +kernel) rfl rfl, ⟨s_aload_n (k := 0) (by decide +kernel) rfl rfl, ⟨s_aload_n (k := 0) (by decide +kernel) rfl rfl, ⟨s_get (C := RX1) (T := TX1) (N := 3) rfl inT1 (by decide) tw_1_73 (by decide +kernel) rfl, ⟨s_bipush (by decide +kernel) rfl ⟨by decide, by decide⟩ (by decide +kernel), ⟨s_add (by decide +kernel) rfl, ⟨s_iconst (by decide +kernel) rfl ⟨by decide, by decide⟩, ⟨s_sub (by decide +kernel) rfl, ⟨s_bipush (by decide +kernel) rfl ⟨by decide, by decide⟩ (by decide +kernel), ⟨s_rem (by decide +kernel) rfl, ⟨s_puti (C := RX1) (T := TX1) (N := 3) (tyf := tyX1) rfl inT1 tyX1_ok nmX1 (by decide) rfl rfl tw_1_73 (by decide +kernel) rfl, ⟨s_aload_n (k := 0) (by decide +kernel) rfl rfl, ⟨s_dup (by decide +kernel) rfl, ⟨s_get (C := RX1) (T := TX1) (N := 3) rfl inT1 (by decide) tw_1_74 (by decide +kernel) rfl, ⟨s_iconst (by decide +kernel) rfl ⟨by decide, by decide⟩, ⟨s_sub (by decide +kernel) rfl, ⟨s_puti (C := RX1) (T := TX1) (N := 3) (tyf := tyX1) rfl inT1 tyX1_ok nmX1 (by decide) rfl rfl tw_1_74 (by decide +kernel) rfl, ⟨s_aload_n (k := 1) (by decide +kernel) rfl rfl, ⟨s_aload_n (k := 0) (by decide +kernel) rfl rfl, ⟨s_get (C := RX1) (T := TX1) (N := 3) rfl inT1 (by decide) tw_1_72 (by decide +kernel) rfl, ⟨s_aload_n (k := 0) (by decide +kernel) rfl rfl, ⟨s_get (C := RX1) (T := TX1) (N := 3) rfl inT1 (by decide) tw_1_73 (by decide +kernel) rfl, ⟨s_aald (by decide +kernel) rfl, ⟨s_callV (C := RX0) (T := TX0) (N := 8) rfl ct_X0_copyFrom (by decide) (by decide) ⟨rfl, by decide +kernel, by decide +kernel, by decide +kernel⟩ tw_2_21 tw_2_22 tw_2_23 tw_1_2 tw_2_24 (by decide +kernel) rfl, ⟨s_vret rfl (by decide +kernel), trivial⟩⟩⟩⟩⟩⟩⟩⟩⟩⟩⟩⟩⟩⟩⟩⟩⟩⟩⟩⟩⟩⟩⟩⟩⟩⟩⟩
theorem ct_X1_takeBack : Ctr yX1_takeBack cX1_takeBack 2 none 2 47 sp_X1_takeBack := by
  refine ctr_of (by decide +kernel) ao_X1_takeBack rfl ?_
  rintro av M Ret ⟨rfl, hp, hR⟩ hok hM
  exact ⟨Nat.le_of_ble_eq_true rfl, fun Z hZ => b_X1_takeBack   M Ret hp hR hM Z hZ⟩
def sp_X1_forget : SP := fun av M Ret => av = [mr 6] ∧ (∀ M2 : Mem, (M2 = mup M 6 2 0) → Ret none M2)
theorem k_X1_forget {code : List Sem} {Z : KZ} {Ret : KR} {ls : List (Option MV)} {M : Mem} {r : List MV} (hZ : Sim code Z Ret) (ip np : Nat)  (hc : code[ip]? = some (I_callV 1 0 sp_X1_forget)) (hn : ip + 1 = np) (h3 : catS r ≤ 8)   (kz : ∀ M2 : Mem, (M2 = mup M 6 2 0) → Z np ls r M2) : Z ip ls (mr 6 :: r) M := w_callV0 hZ ip np hc hn rfl rfl h3 ⟨rfl, fun M2 h => kz M2 h⟩
def cd_X1_forget : List Sem := [I_aload 0, I_const (0), I_puti 1 2, I_vret]
def pc_X1_forget : List Nat := [0, 1, 2, 5]
set_option maxRecDepth 100000 in
set_option maxHeartbeats 4000000 in
theorem b_X1_forget  (M : Mem) (Ret : KR)  (hR : ∀ M2 : Mem, (M2 = mup M 6 2 0) → Ret none M2) (hM : MOk M) (Z : KZ) (hZ : Sim cd_X1_forget Z Ret) : Z 0 [some (mr 6)] [] M := by
  refine w_aload hZ 0 1 rfl rfl rfl ?_
  refine w_const hZ 1 2 rfl rfl  ?_
  refine w_puti hZ 2 3 rfl rfl rfl rfl rfl ?_
  refine w_vret hZ 3 rfl ?_
  exact hR _ rfl
set_option maxRecDepth 100000 in
set_option maxHeartbeats 4000000 in
theorem ao_X1_forget : AllOk yX1_forget.cls cX1_forget 1 0 0 none none pc_X1_forget 0 cd_X1_forget := ⟨s_aload_n (k := 0) (by decide +kernel) rfl rfl, ⟨s_iconst (by decide +kernel) rfl ⟨by decide, by decide⟩, ⟨s_puti (C := RX1) (T := TX1) (N := 3) (tyf := tyX1) rfl inT1 tyX1_ok nmX1 (by decide) rfl rfl tw_1_74 (by decide +kernel) rfl, ⟨s_vret rfl (by decide +kernel), trivial⟩⟩⟩⟩
theorem ct_X1_forget : Ctr yX1_forget cX1_forget 1 none 0 0 sp_X1_forget := by
  refine ctr_of (by decide +kernel) ao_X1_forget rfl ?_
  rintro av M Ret ⟨rfl, hR⟩ hok hM
  exact ⟨Nat.le_of_ble_eq_true rfl, fun Z hZ => b_X1_forget   M Ret  hR hM Z hZ⟩
def sp_X3_begin : SP := fun av M Ret => ∃ s : Int, av = [mr 22, mi s] ∧ (∀ M2 : Mem, (M2 = mup M 22 0 s) → Ret none M2)
theorem k_X3_begin {code : List Sem} {Z : KZ} {Ret : KR} {ls : List (Option MV)} {M : Mem} {r : List MV} (hZ : Sim code Z Ret) (ip np : Nat) {s : Int} (hc : code[ip]? = some (I_callV 3 1 sp_X3_begin)) (hn : ip + 1 = np) (h3 : catS r ≤ 8)   (kz : ∀ M2 : Mem, (M2 = mup M 22 0 s) → Z np ls r M2) : Z ip ls (mi s :: mr 22 :: r) M := w_callV1 hZ ip np hc hn rfl rfl h3 ⟨_, rfl, fun M2 h => kz M2 h⟩
def cd_X3_begin : List Sem := [I_aload 0, I_iload 1, I_i2l, I_putl 3 0, I_vret]
def pc_X3_begin : List Nat := [0, 1, 2, 3, 6]
set_option maxRecDepth 100000 in
set_option maxHeartbeats 4000000 in
theorem b_X3_begin (s : Int) (i_s : InR s) (M : Mem) (Ret : KR)  (hR : ∀ M2 : Mem, (M2 = mup M 22 0 s) → Ret none M2) (hM : MOk M) (Z : KZ) (hZ : Sim cd_X3_begin Z Ret) : Z 0 [some (mr 22), some (mi s)] [] M := by
  refine w_aload hZ 0 1 rfl rfl rfl ?_
  refine w_iload hZ 1 2 rfl rfl rfl ?_
  refine w_i2l hZ 2 3 rfl rfl  ?_
  refine w_putl hZ 3 4 rfl rfl rfl rfl rfl ?_
  refine w_vret hZ 4 rfl ?_
  exact hR _ rfl
set_option maxRecDepth 100000 in
set_option maxHeartbeats 4000000 in
theorem ao_X3_begin : AllOk yX3_begin.cls cX3_begin 2 0 0 none none pc_X3_begin 0 cd_X3_begin := ⟨s_aload_n (k := 0) (by decide +kernel) rfl rfl, ⟨s_iload_n (k := 1) (by decide +kernel) rfl rfl, ⟨s_i2l (by decide +kernel) rfl, ⟨s_putl (C := RX3) (T := TX3) (N := 1) (tyf := tyX3) rfl inT3 tyX3_ok nmX3 (by decide) rfl rfl tw_1_193 (by decide +kernel) rfl, ⟨s_vret rfl (by decide +kernel), trivial⟩⟩⟩⟩⟩
theorem ct_X3_begin : Ctr yX3_begin cX3_begin 2 none 0 0 sp_X3_begin := by
  refine ctr_of (by decide +kernel) ao_X3_begin rfl ?_
  rintro av M Ret ⟨s, rfl, hR⟩ hok hM
  exact ⟨Nat.le_of_ble_eq_true rfl, fun Z hZ => b_X3_begin  s (hok _ (List.mem_of_getElem? (i := 1) rfl)) M Ret  hR hM Z hZ⟩
def sp_X3_next : SP := fun av M Ret => av = [mr 22] ∧ (0 < M 22 0 ∧ M 22 0 < 2147483647) ∧ (∀ M2 : Mem, (M2 = mup M 22 0 (M 22 0 * 16807 % 2147483647)) → Ret (some (mi (M 22 0 * 16807 % 2147483647))) M2)
theorem k_X3_next {code : List Sem} {Z : KZ} {Ret : KR} {ls : List (Option MV)} {M : Mem} {r : List MV} (hZ : Sim code Z Ret) (ip np : Nat)  (hc : code[ip]? = some (I_callV 3 0 sp_X3_next)) (hn : ip + 1 = np) (h3 : catS r ≤ 8)  (hp : 0 < M 22 0 ∧ M 22 0 < 2147483647) (kz : ∀ M2 : Mem, (M2 = mup M 22 0 (M 22 0 * 16807 % 2147483647)) → Z np ls (mi (M 22 0 * 16807 % 2147483647) :: r) M2) : Z ip ls (mr 22 :: r) M := w_callV0 hZ ip np hc hn rfl rfl h3 ⟨rfl, hp, fun M2 h => kz M2 h⟩
def cd_X3_next : List Sem := [I_aload 0, I_aload 0, I_get 3 0, I_lconst (16807), I_lmul, I_lconst (2147483647), I_lrem, I_putl 3 0, I_aload 0, I_get 3 0, I_l2i, I_iret]
def pc_X3_next : List Nat := [0, 1, 2, 5, 8, 9, 12, 13, 16, 17, 20, 21]
set_option maxRecDepth 100000 in
set_option maxHeartbeats 4000000 in
theorem b_X3_next  (M : Mem) (Ret : KR) (hp : 0 < M 22 0 ∧ M 22 0 < 2147483647) (hR : ∀ M2 : Mem, (M2 = mup M 22 0 (M 22 0 * 16807 % 2147483647)) → Ret (some (mi (M 22 0 * 16807 % 2147483647))) M2) (hM : MOk M) (Z : KZ) (hZ : Sim cd_X3_next Z Ret) : Z 0 [some (mr 22)] [] M := by
  obtain ⟨h0, h1⟩ := hp
  refine w_aload hZ 0 1 rfl rfl rfl ?_
  refine w_aload hZ 1 2 rfl rfl rfl ?_
  refine w_getl hZ 2 3 rfl rfl rfl rfl rfl ?_
  refine w_lconst hZ 3 4 rfl rfl  ?_
  refine w_lmul hZ 4 5 rfl rfl (by unfold InL; omega) ?_
  refine w_lconst hZ 5 6 rfl rfl  ?_
  refine w_lrem hZ 6 7 rfl rfl (by omega) (by omega) ?_
  refine w_putl hZ 7 8 rfl rfl rfl rfl rfl ?_
  refine w_aload hZ 8 9 rfl rfl rfl ?_
  refine w_getl hZ 9 10 rfl rfl rfl rfl rfl ?_
  show Z 10 _ [ml (M 22 0 * 16807 % 2147483647)] _
  refine w_l2i hZ 10 11 rfl rfl (by unfold InR; omega) ?_
  refine w_iret hZ 11 rfl ?_
  exact hR _ rfl
set_option maxRecDepth 100000 in
set_option maxHeartbeats 4000000 in
theorem ao_X3_next : AllOk yX3_next.cls cX3_next 1 0 0 (some .int) none pc_X3_next 0 cd_X3_next := ⟨s_aload_n (k := 0) (by decide +kernel) rfl rfl, ⟨s_aload_n (k := 0) (by decide +kernel) rfl rfl, ⟨s_get (C := RX3) (T := TX3) (N := 1) rfl inT3 (by decide) tw_1_193 (by decide +kernel) rfl, ⟨s_ldc2 (v := (16807)) tw_2_77 (by decide +kernel) rfl ⟨by decide, by decide⟩ (by decide +kernel), ⟨s_lmul (by decide +kernel) rfl, ⟨s_ldc2 (v := (2147483647)) tw_2_78 (by decide +kernel) rfl ⟨by decide, by decide⟩ (by decide +kernel), ⟨s_lrem (by decide +kernel) rfl, ⟨s_putl (C := RX3) (T := TX3) (N := 1) (tyf := tyX3) rfl inT3 tyX3_ok nmX3 (by decide) rfl rfl tw_1_193 (by decide +kernel) rfl, ⟨s_aload_n (k := 0) (by decide +kernel) rfl rfl, ⟨s_get (C := RX3) (T := TX3) (N := 1) rfl inT3 (by decide) tw_1_193 (by decide +kernel) rfl, ⟨s_l2i (by decide +kernel) rfl, ⟨s_iret rfl (by decide +kernel), trivial⟩⟩⟩⟩⟩⟩⟩⟩⟩⟩⟩⟩
theorem ct_X3_next : Ctr yX3_next cX3_next 1 (some .int) 0 0 sp_X3_next := by
  refine ctr_of (by decide +kernel) ao_X3_next rfl ?_
  rintro av M Ret ⟨rfl, hp, hR⟩ hok hM
  exact ⟨Nat.le_of_ble_eq_true rfl, fun Z hZ => b_X3_next   M Ret hp hR hM Z hZ⟩
