/-! THE REFERENCE: all of THE TEXT in CELLS -/
theorem sgE_m (V : BV) {i : Int} (i0 : 0 ≤ i) : ∀ e ∈ sgE V i, e.2.1 = -1 ∧ 0 ≤ e.2.2.1 := by
  unfold sgE
  split
  · split <;> simp <;> omega
  · simp; omega
theorem WY.sg {D : List Ev} {N : Mem} (h : WY D N) : sgn D.length (N 78) = evF D := sgn_congr (fun i hi => h.2.1 i (by omega))
def sp_X7_putAll : SP := fun av M Ret => ∃ w : Int, av = [mr 73, mi w] ∧ (vOk (YV M)) ∧ (∀ M2 : Mem, (WY (aEv (YV M) w 0) M2 ∧ FW M M2) → Ret none M2)
theorem k_X7_putAll {code : List Sem} {Z : KZ} {Ret : KR} {ls : List (Option MV)} {M : Mem} {r : List MV} (hZ : Sim code Z Ret) (ip np : Nat) {w : Int} (hc : code[ip]? = some (I_callV 7 1 sp_X7_putAll)) (hn : ip + 1 = np) (h3 : catS r ≤ 8)  (hp : vOk (YV M)) (kz : ∀ M2 : Mem, (WY (aEv (YV M) w 0) M2 ∧ FW M M2) → Z np ls r M2) : Z ip ls (mi w :: mr 73 :: r) M := w_callV1 hZ ip np hc hn rfl rfl h3 ⟨_, rfl, hp, fun M2 h => kz M2 h⟩
def cd_X7_putAll : List Sem := [I_aload 0, I_const (0), I_puti 7 7, I_const (0), I_istore 2, I_iload 2, I_const (12), I_cge 20, I_aload 0, I_get 7 8, I_iload 2, I_const (0), I_iast, I_aload 0, I_get 7 9, I_iload 2, I_const (-1), I_iast, I_iinc 2 (1), I_goto 5, I_const (0), I_istore 2, I_iload 2, I_aload 0, I_get 7 0, I_const (39), I_iald, I_cge 50, I_aload 0, I_iload 2, I_callV 7 1 sp_X7_sign0, I_callS 1 sp_X7_isLetter, I_ifeq 45, I_aload 0, I_iload 2, I_callV 7 1 sp_X7_wordTo, I_istore 3, I_aload 0, I_iload 2, I_iload 3, I_iload 1, I_callV 7 3 sp_X7_putWord, I_iload 3, I_istore 2, I_goto 22, I_aload 0, I_iload 2, I_callV 7 1 sp_X7_putSign, I_iinc 2 (1), I_goto 22, I_vret]
def pc_X7_putAll : List Nat := [0, 1, 2, 5, 6, 7, 8, 10, 13, 14, 17, 18, 19, 20, 21, 24, 25, 26, 27, 30, 33, 34, 35, 36, 37, 40, 42, 43, 46, 47, 48, 51, 54, 57, 58, 59, 62, 63, 64, 65, 66, 67, 70, 71, 72, 75, 76, 77, 80, 83, 86]
set_option maxRecDepth 100000 in
set_option maxHeartbeats 4000000 in
theorem b_X7_putAll (w : Int) (i_w : InR w) (M : Mem) (Ret : KR) (hp : vOk (YV M)) (hR : ∀ M2 : Mem, (WY (aEv (YV M) w 0) M2 ∧ FW M M2) → Ret none M2) (hM : MOk M) (Z : KZ) (hZ : Sim cd_X7_putAll Z Ret) : Z 0 [some (mr 73), some (mi w), none, none] [] M := by
  have hvo := hp
  have h240 := aEv_240 hvo w (Int.le_refl 0)
  obtain ⟨V, hV⟩ : ∃ V, YV M = V := ⟨_, rfl⟩
  rw [hV] at hvo h240
  have hR' : ∀ N : Mem, WY (aEv V w 0) N → FW M N → Ret none N := fun N h1 h2 => hR N (by rw [hV]; exact ⟨h1, h2⟩)
  clear hR
  have n0 := hvo.1
  have n120 := hvo.2.1
  have loop2 : ∀ (d : Nat) (i : Int) (D : List Ev) (N : Mem), d = (vN V - i).toNat → 0 ≤ i → i ≤ vN V → WY D N → FW M N → Hid (aEv V w 0 = D ++ aEv V w i) → Z 22 [some (mr 73), some (mi w), some (mi i), none] [] N := by
    intro d
    induction d using Nat.strongRecOn with
    | ind d ih =>
      intro i D N hd i0 i1 hW hF hE
      have eN : YV N = V := by rw [hF.yv]; exact hV
      have hvN : vOk (YV N) := by rw [eN]; exact hvo
      have hbN := hvN.yb
      have hq := congrArg List.length hE.u
      rw [List.length_append] at hq
      have h17 := hW.1
      refine w_iload hZ 22 23 rfl rfl rfl ?_
      refine w_aload hZ 23 24 rfl rfl rfl ?_
      refine w_getr hZ 24 25 rfl rfl rfl rfl rfl ?_
      refine w_const hZ 25 26 rfl rfl  ?_
      refine w_ialdv hZ 26 27 rfl rfl rfl (by omega) (by omega) (v := vN V) ((Y_r eN).2.2.2) ?_
      refine w_cge hZ 27 28 rfl rfl (fun c27 => ?_) (fun c27 => ?_)
      · refine w_vret hZ 50 rfl ?_
        have he : i = vN V := by omega
        have hE2 := hE.u
        rw [show aEv V w i = [] from aEv_end c27, List.append_nil] at hE2
        exact hR' N (by rw [hE2]; exact hW) hF
      · refine w_aload hZ 28 29 rfl rfl rfl ?_
        refine w_iload hZ 29 30 rfl rfl rfl ?_
        refine k_X7_sign0 hZ 30 31 rfl rfl (Nat.le_of_ble_eq_true rfl) hbN ?_
        rw [eN]
        refine k_X7_isLetter hZ 31 32 rfl rfl (Nat.le_of_ble_eq_true rfl)  ?_
        refine w_ifeq hZ 32 33 rfl rfl (fun c32 => ?_) (fun c32 => ?_)
        · replace c32 := b2i_z.mp c32
          have hse := aEv_sign hvo (w := w) (i := i) (by omega) c32
          refine w_aload hZ 45 46 rfl rfl rfl ?_
          refine w_iload hZ 46 47 rfl rfl rfl ?_
          refine k_X7_putSign hZ 47 48 rfl rfl (Nat.le_of_ble_eq_true rfl) ⟨hvN, i0, by rw [eN]; omega, by rw [eN]; exact c32, by omega, by omega⟩ (fun M47 p47 => ?_)
          refine w_in4_2 hZ 48 49 rfl rfl rfl (by unfold InR; omega) ?_
          refine w_goto hZ 49 22 rfl ?_
          rw [eN] at p47
          refine ih (vN V - (i + 1)).toNat (by omega) (i + 1) _ M47 rfl (by omega) (by omega) (hW.app p47 (sgE_m V i0)) (hF.trans p47.fw) ?_
          unfold Hid
          rw [hE.u, hse, List.append_assoc]
        · replace c32 := b2i_e.mp c32
          have hwg := we_gt hvo (i := i) (by omega) c32
          have hws := we_spec (n := vN V) (S := vS V) (i := i) (by omega) hvo.nl
          have hwe := aEv_word hvo (w := w) (i := i) (by omega) c32
          have hwl := congrArg List.length hwe
          rw [List.length_append] at hwl
          refine w_aload hZ 33 34 rfl rfl rfl ?_
          refine w_iload hZ 34 35 rfl rfl rfl ?_
          refine k_X7_wordTo hZ 35 36 rfl rfl (Nat.le_of_ble_eq_true rfl) ⟨hvN, i0, by rw [eN]; omega⟩ ?_
          rw [eN]
          refine w_st4_3 hZ 36 37 rfl rfl rfl ?_
          refine w_aload hZ 37 38 rfl rfl rfl ?_
          refine w_iload hZ 38 39 rfl rfl rfl ?_
          refine w_iload hZ 39 40 rfl rfl rfl ?_
          refine w_iload hZ 40 41 rfl rfl rfl ?_
          refine k_X7_putWord hZ 41 42 rfl rfl (Nat.le_of_ble_eq_true rfl) ⟨hW, hvN, i0, hwg.1, by rw [eN]; exact hwg.2, by rw [eN]; exact hws.2.2.1, by rw [eN]; omega⟩ (fun M41 p41 => ?_)
          refine w_iload hZ 42 43 rfl rfl rfl ?_
          refine w_st4_2 hZ 43 44 rfl rfl rfl ?_
          refine w_goto hZ 44 22 rfl ?_
          refine w_fg4_3 hZ ?_
          rw [eN] at p41
          refine ih (vN V - we (vN V) (vS V) i).toNat (by omega) _ _ M41 rfl (by omega) (by omega) p41.1 (hF.trans p41.2) ?_
          unfold Hid
          rw [hE.u, hwe, List.append_assoc]
  have loop1 : ∀ (d : Nat) (k : Int) (N : Mem), d = (12 - k).toNat → 0 ≤ k → k ≤ 12 → N 73 7 = 0 → FW M N → Hid (∀ j : Nat, (j : Int) < k → N 79 j = 0 ∧ N 80 j = -1) → Z 5 [some (mr 73), some (mi w), some (mi k), none] [] N := by
    intro d
    induction d using Nat.strongRecOn with
    | ind d ih =>
      intro k N hd k0 k1 h7 hF hz
      refine w_iload hZ 5 6 rfl rfl rfl ?_
      refine w_const hZ 6 7 rfl rfl  ?_
      refine w_cge hZ 7 8 rfl rfl (fun c7 => ?_) (fun c7 => ?_)
      · refine w_const hZ 20 21 rfl rfl  ?_
        refine w_st4_2 hZ 21 22 rfl rfl rfl ?_
        refine loop2 _ 0 [] N rfl (Int.le_refl _) n0 ⟨by rw [h7]; rfl, fun j hj => by simp at hj, fun j hj => ⟨by rw [(hz.u j (by omega)).1]; rfl, by rw [(hz.u j (by omega)).2]; rfl⟩, fun e he => absurd he List.not_mem_nil⟩ hF rfl
      · refine w_aload hZ 8 9 rfl rfl rfl ?_
        refine w_getr hZ 9 10 rfl rfl rfl rfl rfl ?_
        refine w_iload hZ 10 11 rfl rfl rfl ?_
        refine w_const hZ 11 12 rfl rfl  ?_
        refine w_iast hZ 12 13 rfl rfl rfl (by omega) (by omega) ?_
        refine w_aload hZ 13 14 rfl rfl rfl ?_
        refine w_getr hZ 14 15 rfl rfl rfl rfl rfl ?_
        refine w_iload hZ 15 16 rfl rfl rfl ?_
        refine w_const hZ 16 17 rfl rfl  ?_
        refine w_iast hZ 17 18 rfl rfl rfl (by omega) (by omega) ?_
        refine w_in4_2 hZ 18 19 rfl rfl rfl (by unfold InR; omega) ?_
        refine w_goto hZ 19 5 rfl ?_
        refine ih (12 - (k + 1)).toNat (by omega) (k + 1) _ rfl (by omega) (by omega) (by simp [mup_at]; exact h7) (hF.trans ⟨fun o o1 o2 o3 o4 => by funext j; simp [mup_at, o3, o4], fun f hf => by simp [mup_at]⟩) (fun j hj => ?_)
        by_cases q : j = k.toNat
        · simp [mup_at, q]
        · simp [mup_at, q]; exact hz.u j (by omega)
  refine w_aload hZ 0 1 rfl rfl rfl ?_
  refine w_const hZ 1 2 rfl rfl  ?_
  refine w_puti hZ 2 3 rfl rfl rfl rfl rfl ?_
  refine w_const hZ 3 4 rfl rfl  ?_
  refine w_st4_2 hZ 4 5 rfl rfl rfl ?_
  exact loop1 _ 0 _ rfl (Int.le_refl _) (by omega) (by simp [mup_at]) ⟨fun o o1 _ _ _ => by funext j; simp [mup_at, o1], fun f hf => by simp [mup_at, hf]⟩ (fun j hj => absurd hj (by omega))
set_option maxRecDepth 100000 in
set_option maxHeartbeats 4000000 in
theorem ao_X7_putAll : AllOk yX7_putAll.cls cX7_putAll 4 5 130 none none pc_X7_putAll 0 cd_X7_putAll := ⟨s_aload_n (k := 0) (by decide +kernel) rfl rfl, ⟨s_iconst (by decide +kernel) rfl ⟨by decide, by decide⟩, ⟨s_puti (C := RX7) (T := TX7) (N := 22) (tyf := tyX7) rfl inT7 tyX7_ok nmX7 (by decide) rfl rfl tw_3_166 (by decide +kernel) rfl, ⟨s_iconst (by decide +kernel) rfl ⟨by decide, by decide⟩, ⟨s_istore_n (k := 2) (by decide +kernel) rfl rfl, ⟨s_iload_n (k := 2) (by decide +kernel) rfl rfl, ⟨s_bipush (by decide +kernel) rfl ⟨by decide, by decide⟩ (by decide +kernel), ⟨s_cge (off := (23)) (by decide +kernel) rfl rfl, ⟨s_aload_n (k := 0) (by decide +kernel) rfl rfl, ⟨s_get (C := RX7) (T := TX7) (N := 22) rfl inT7 (by decide) tw_3_167 (by decide +kernel) rfl, ⟨s_iload_n (k := 2) (by decide +kernel) rfl rfl, ⟨s_iconst (by decide +kernel) rfl ⟨by decide, by decide⟩, ⟨s_iast (by decide +kernel) rfl, ⟨s_aload_n (k := 0) (by decide +kernel) rfl rfl, ⟨s_get (C := RX7) (T := TX7) (N := 22) rfl inT7 (by decide) tw_3_168 (by decide +kernel) rfl, ⟨s_iload_n (k := 2) (by decide +kernel) rfl rfl, ⟨s_iconst (by decide +kernel) rfl ⟨by decide, by decide⟩, ⟨s_iast (by decide +kernel) rfl, ⟨s_iinc (by decide +kernel) rfl, ⟨s_goto (off := (-23)) (by decide +kernel) rfl, ⟨s_iconst (by decide +kernel) rfl ⟨by decide, by decide⟩, ⟨s_istore_n (k := 2) (by decide +kernel) rfl rfl, ⟨s_iload_n (k := 2) (by decide +kernel) rfl rfl, ⟨s_aload_n (k := 0) (by decide +kernel) rfl rfl, ⟨s_get (C := RX7) (T := TX7) (N := 22) rfl inT7 (by decide) tw_3_159 (by decide +kernel) rfl, ⟨s_bipush (by decide +kernel) rfl ⟨by decide, by decide⟩ (by decide +kernel), ⟨s_iald (by decide +kernel) rfl, ⟨s_cge (off := (43)) (by decide +kernel) rfl rfl, ⟨s_aload_n (k := 0) (by decide +kernel) rfl rfl, ⟨s_iload_n (k := 2) (by decide +kernel) rfl rfl, ⟨s_callV (C := RX7) (T := TX7) (N := 22) rfl ct_X7_sign0 (by decide) (by decide) ⟨rfl, by decide +kernel, by decide +kernel, by decide +kernel⟩ tw_4_90 tw_4_92 ts_3_9 tw_1_8 tw_4_93 (by decide +kernel) rfl, ⟨s_callS ct_X7_isLetter (by decide) (by decide) ⟨by decide +kernel, by decide +kernel, by decide +kernel⟩ tw_4_56 tw_4_57 tw_1_8 tw_4_58 (by decide +kernel) rfl, ⟨s_ifeq (off := (21)) (by decide +kernel) rfl rfl, ⟨s_aload_n (k := 0) (by decide +kernel) rfl rfl, ⟨s_iload_n (k := 2) (by decide +kernel) rfl rfl, ⟨s_callV (C := RX7) (T := TX7) (N := 22) rfl ct_X7_wordTo (by decide) (by decide) ⟨rfl, by decide +kernel, by decide +kernel, by decide +kernel⟩ tw_4_106 tw_4_108 ts_3_13 tw_1_8 tw_4_109 (by decide +kernel) rfl, ⟨s_istore_n (k := 3) (by decide +kernel) rfl rfl, ⟨s_aload_n (k := 0) (by decide +kernel) rfl rfl, ⟨s_iload_n (k := 2) (by decide +kernel) rfl rfl, ⟨s_iload_n (k := 3) (by decide +kernel) rfl rfl, ⟨s_iload_n (k := 1) (by decide +kernel) rfl rfl, ⟨s_callV (C := RX7) (T := TX7) (N := 22) rfl ct_X7_putWord (by decide) (by decide) ⟨rfl, by decide +kernel, by decide +kernel, by decide +kernel⟩ tw_4_110 tw_4_112 ts_3_14 tw_1_8 tw_4_113 (by decide +kernel) rfl, ⟨s_iload_n (k := 3) (by decide +kernel) rfl rfl, ⟨s_istore_n (k := 2) (by decide +kernel) rfl rfl, ⟨s_goto (off := (-37)) (by decide +kernel) rfl, ⟨s_aload_n (k := 0) (by decide +kernel) rfl rfl, ⟨s_iload_n (k := 2) (by decide +kernel) rfl rfl, ⟨s_callV (C := RX7) (T := TX7) (N := 22) rfl ct_X7_putSign (by decide) (by decide) ⟨rfl, by decide +kernel, by decide +kernel, by decide +kernel⟩ tw_4_142 tw_4_144 ts_4_5 tw_1_8 tw_4_145 (by decide +kernel) rfl, ⟨s_iinc (by decide +kernel) rfl, ⟨s_goto (off := (-48)) (by decide +kernel) rfl, ⟨s_vret rfl (by decide +kernel), trivial⟩⟩⟩⟩⟩⟩⟩⟩⟩⟩⟩⟩⟩⟩⟩⟩⟩⟩⟩⟩⟩⟩⟩⟩⟩⟩⟩⟩⟩⟩⟩⟩⟩⟩⟩⟩⟩⟩⟩⟩⟩⟩⟩⟩⟩⟩⟩⟩⟩⟩⟩
theorem ct_X7_putAll : Ctr yX7_putAll cX7_putAll 4 none 5 130 sp_X7_putAll := by
  refine ctr_of (by decide +kernel) ao_X7_putAll rfl ?_
  rintro av M Ret ⟨w, rfl, hp, hR⟩ hok hM
  exact ⟨Nat.le_of_ble_eq_true rfl, fun Z hZ => b_X7_putAll  w (hok _ (List.mem_of_getElem? (i := 1) rfl)) M Ret hp hR hM Z hZ⟩
def sp_X7_cellsOf : SP := fun av M Ret => av = [mr 73] ∧ (vOk (YV M)) ∧ (∀ M2 : Mem, (FW M M2) → Ret (some (mi ((aEv (YV M) (-1) 0).length))) M2)
theorem k_X7_cellsOf {code : List Sem} {Z : KZ} {Ret : KR} {ls : List (Option MV)} {M : Mem} {r : List MV} (hZ : Sim code Z Ret) (ip np : Nat)  (hc : code[ip]? = some (I_callV 7 0 sp_X7_cellsOf)) (hn : ip + 1 = np) (h3 : catS r ≤ 8)  (hp : vOk (YV M)) (kz : ∀ M2 : Mem, (FW M M2) → Z np ls (mi ((aEv (YV M) (-1) 0).length) :: r) M2) : Z ip ls (mr 73 :: r) M := w_callV0 hZ ip np hc hn rfl rfl h3 ⟨rfl, hp, fun M2 h => kz M2 h⟩
def cd_X7_cellsOf : List Sem := [I_aload 0, I_const (-1), I_callV 7 1 sp_X7_putAll, I_aload 0, I_get 7 7, I_iret]
def pc_X7_cellsOf : List Nat := [0, 1, 2, 5, 6, 9]
set_option maxRecDepth 100000 in
set_option maxHeartbeats 4000000 in
theorem b_X7_cellsOf  (M : Mem) (Ret : KR) (hp : vOk (YV M)) (hR : ∀ M2 : Mem, (FW M M2) → Ret (some (mi ((aEv (YV M) (-1) 0).length))) M2) (hM : MOk M) (Z : KZ) (hZ : Sim cd_X7_cellsOf Z Ret) : Z 0 [some (mr 73)] [] M := by
  refine w_aload hZ 0 1 rfl rfl rfl ?_
  refine w_const hZ 1 2 rfl rfl  ?_
  refine k_X7_putAll hZ 2 3 rfl rfl (Nat.le_of_ble_eq_true rfl) hp (fun M2 p2 => ?_)
  refine w_aload hZ 3 4 rfl rfl rfl ?_
  refine w_geti hZ 4 5 rfl rfl rfl rfl rfl ?_
  refine w_iret hZ 5 rfl ?_
  rw [p2.1.1]
  exact hR _ p2.2
set_option maxRecDepth 100000 in
set_option maxHeartbeats 4000000 in
theorem ao_X7_cellsOf : AllOk yX7_cellsOf.cls cX7_cellsOf 1 6 153 (some .int) none pc_X7_cellsOf 0 cd_X7_cellsOf := ⟨s_aload_n (k := 0) (by decide +kernel) rfl rfl, ⟨s_iconst (by decide +kernel) rfl ⟨by decide, by decide⟩, ⟨s_callV (C := RX7) (T := TX7) (N := 22) rfl ct_X7_putAll (by decide) (by decide) ⟨rfl, by decide +kernel, by decide +kernel, by decide +kernel⟩ tw_4_102 tw_4_104 ts_3_12 tw_1_8 tw_4_105 (by decide +kernel) rfl, ⟨s_aload_n (k := 0) (by decide +kernel) rfl rfl, ⟨s_get (C := RX7) (T := TX7) (N := 22) rfl inT7 (by decide) tw_3_166 (by decide +kernel) rfl, ⟨s_iret rfl (by decide +kernel), trivial⟩⟩⟩⟩⟩⟩
theorem ct_X7_cellsOf : Ctr yX7_cellsOf cX7_cellsOf 1 (some .int) 6 153 sp_X7_cellsOf := by
  refine ctr_of (by decide +kernel) ao_X7_cellsOf rfl ?_
  rintro av M Ret ⟨rfl, hp, hR⟩ hok hM
  exact ⟨Nat.le_of_ble_eq_true rfl, fun Z hZ => b_X7_cellsOf   M Ret hp hR hM Z hZ⟩
def sp_X7_cellsWithout : SP := fun av M Ret => ∃ k : Int, av = [mr 73, mi k] ∧ (vOk (YV M)) ∧ (∀ M2 : Mem, (FW M M2) → Ret (some (mi ((aEv (YV M) k 0).length))) M2)
theorem k_X7_cellsWithout {code : List Sem} {Z : KZ} {Ret : KR} {ls : List (Option MV)} {M : Mem} {r : List MV} (hZ : Sim code Z Ret) (ip np : Nat) {k : Int} (hc : code[ip]? = some (I_callV 7 1 sp_X7_cellsWithout)) (hn : ip + 1 = np) (h3 : catS r ≤ 8)  (hp : vOk (YV M)) (kz : ∀ M2 : Mem, (FW M M2) → Z np ls (mi ((aEv (YV M) k 0).length) :: r) M2) : Z ip ls (mi k :: mr 73 :: r) M := w_callV1 hZ ip np hc hn rfl rfl h3 ⟨_, rfl, hp, fun M2 h => kz M2 h⟩
def cd_X7_cellsWithout : List Sem := [I_aload 0, I_iload 1, I_callV 7 1 sp_X7_putAll, I_aload 0, I_get 7 7, I_iret]
def pc_X7_cellsWithout : List Nat := [0, 1, 2, 5, 6, 9]
set_option maxRecDepth 100000 in
set_option maxHeartbeats 4000000 in
theorem b_X7_cellsWithout (k : Int) (i_k : InR k) (M : Mem) (Ret : KR) (hp : vOk (YV M)) (hR : ∀ M2 : Mem, (FW M M2) → Ret (some (mi ((aEv (YV M) k 0).length))) M2) (hM : MOk M) (Z : KZ) (hZ : Sim cd_X7_cellsWithout Z Ret) : Z 0 [some (mr 73), some (mi k)] [] M := by
  refine w_aload hZ 0 1 rfl rfl rfl ?_
  refine w_iload hZ 1 2 rfl rfl rfl ?_
  refine k_X7_putAll hZ 2 3 rfl rfl (Nat.le_of_ble_eq_true rfl) hp (fun M2 p2 => ?_)
  refine w_aload hZ 3 4 rfl rfl rfl ?_
  refine w_geti hZ 4 5 rfl rfl rfl rfl rfl ?_
  refine w_iret hZ 5 rfl ?_
  rw [p2.1.1]
  exact hR _ p2.2
set_option maxRecDepth 100000 in
set_option maxHeartbeats 4000000 in
theorem ao_X7_cellsWithout : AllOk yX7_cellsWithout.cls cX7_cellsWithout 2 6 153 (some .int) none pc_X7_cellsWithout 0 cd_X7_cellsWithout := ⟨s_aload_n (k := 0) (by decide +kernel) rfl rfl, ⟨s_iload_n (k := 1) (by decide +kernel) rfl rfl, ⟨s_callV (C := RX7) (T := TX7) (N := 22) rfl ct_X7_putAll (by decide) (by decide) ⟨rfl, by decide +kernel, by decide +kernel, by decide +kernel⟩ tw_4_102 tw_4_104 ts_3_12 tw_1_8 tw_4_105 (by decide +kernel) rfl, ⟨s_aload_n (k := 0) (by decide +kernel) rfl rfl, ⟨s_get (C := RX7) (T := TX7) (N := 22) rfl inT7 (by decide) tw_3_166 (by decide +kernel) rfl, ⟨s_iret rfl (by decide +kernel), trivial⟩⟩⟩⟩⟩⟩
theorem ct_X7_cellsWithout : Ctr yX7_cellsWithout cX7_cellsWithout 2 (some .int) 6 153 sp_X7_cellsWithout := by
  refine ctr_of (by decide +kernel) ao_X7_cellsWithout rfl ?_
  rintro av M Ret ⟨k, rfl, hp, hR⟩ hok hM
  exact ⟨Nat.le_of_ble_eq_true rfl, fun Z hZ => b_X7_cellsWithout  k (hok _ (List.mem_of_getElem? (i := 1) rfl)) M Ret hp hR hM Z hZ⟩
def sp_X7_cell : SP := fun av M Ret => ∃ s : St, ∃ i : Int, av = [mr 73, mi i] ∧ (YR s M ∧ stOk s) ∧ (∀ M2 : Mem, (YR s M2 ∧ ∀ k, k < 73 → M2 k = M k) → Ret (some (mi (rCell s i))) M2)
theorem k_X7_cell {code : List Sem} {Z : KZ} {Ret : KR} {ls : List (Option MV)} {M : Mem} {r : List MV} (hZ : Sim code Z Ret) (ip np : Nat) {s : St} {i : Int} (hc : code[ip]? = some (I_callV 7 1 sp_X7_cell)) (hn : ip + 1 = np) (h3 : catS r ≤ 8)  (hp : YR s M ∧ stOk s) (kz : ∀ M2 : Mem, (YR s M2 ∧ ∀ k, k < 73 → M2 k = M k) → Z np ls (mi (rCell s i) :: r) M2) : Z ip ls (mi i :: mr 73 :: r) M := w_callV1 hZ ip np hc hn rfl rfl h3 ⟨_, _, rfl, hp, fun M2 h => kz M2 h⟩
def cd_X7_cell : List Sem := [I_iload 1, I_ifge 4, I_const (-1000000002), I_iret, I_aload 0, I_const (-1), I_callV 7 1 sp_X7_putAll, I_iload 1, I_aload 0, I_get 7 7, I_cge 16, I_aload 0, I_get 7 6, I_iload 1, I_iald, I_goto 17, I_const (-1), I_iret]
def pc_X7_cell : List Nat := [0, 1, 4, 6, 7, 8, 9, 12, 13, 14, 17, 20, 21, 24, 25, 26, 29, 30]
set_option maxRecDepth 100000 in
set_option maxHeartbeats 4000000 in
theorem b_X7_cell (s : St) (i : Int) (i_i : InR i) (M : Mem) (Ret : KR) (hp : YR s M ∧ stOk s) (hR : ∀ M2 : Mem, (YR s M2 ∧ ∀ k, k < 73 → M2 k = M k) → Ret (some (mi (rCell s i))) M2) (hM : MOk M) (Z : KZ) (hZ : Sim cd_X7_cell Z Ret) : Z 0 [some (mr 73), some (mi i)] [] M := by
  obtain ⟨hx, hv⟩ := hp
  have hB := hx.yb hv
  have hvo := hx.vo hv
  have h240 : (evN (sB s) (-1)).length ≤ 240 := aEv_240 hv.1 (-1) (i := 0) (Int.le_refl _)
  have h241 : (aEv (sB s) (-1) 0).length ≤ 240 := h240
  have fin : ∀ (x : Int) (M2 : Mem), rCell s i = x → YR s M2 → (∀ k, k < 73 → M2 k = M k) → Ret (some (mi x)) M2 := by
    intro x M2 e h h2; subst e; exact hR M2 ⟨h, h2⟩
  have non : ∀ x : Int, rCell s i = x → Ret (some (mi x)) M := fun x q => fin x M q hx (fun _ _ => rfl)
  refine w_iload hZ 0 1 rfl rfl rfl ?_
  refine w_ifge hZ 1 2 rfl rfl (fun c1 => ?_) (fun c1 => ?_)
  · refine w_aload hZ 4 5 rfl rfl rfl ?_
    refine w_const hZ 5 6 rfl rfl  ?_
    refine k_X7_putAll hZ 6 7 rfl rfl (Nat.le_of_ble_eq_true rfl) hvo (fun M6 p6 => ?_)
    rw [hx.1] at p6
    obtain ⟨w1, w4⟩ := p6
    have hx7 := hx.fw w4
    have w17 := w1.1
    refine w_iload hZ 7 8 rfl rfl rfl ?_
    refine w_aload hZ 8 9 rfl rfl rfl ?_
    refine w_geti hZ 9 10 rfl rfl rfl rfl rfl ?_
    refine w_cge hZ 10 11 rfl rfl (fun c10 => ?_) (fun c10 => ?_)
    · refine w_const hZ 16 17 rfl rfl  ?_
      refine w_iret hZ 17 rfl ?_
      refine fin _ _ ?_ hx7 (fun k hk => w4.1 k (by omega) (by omega) (by omega) (by omega))
      unfold rCell
      rw [if_neg (by omega), ← w1.sg]
      first
        | exact sgn_in (by omega) (by omega)
        | exact sgn_hi (by omega)
    · refine w_aload hZ 11 12 rfl rfl rfl ?_
      refine w_getr hZ 12 13 rfl rfl rfl rfl rfl ?_
      refine w_iload hZ 13 14 rfl rfl rfl ?_
      refine w_iald hZ 14 15 rfl rfl rfl (by omega) (by omega) ?_
      refine w_goto hZ 15 17 rfl ?_
      refine w_iret hZ 17 rfl ?_
      refine fin _ _ ?_ hx7 (fun k hk => w4.1 k (by omega) (by omega) (by omega) (by omega))
      unfold rCell
      rw [if_neg (by omega), ← w1.sg]
      first
        | exact sgn_in (by omega) (by omega)
        | exact sgn_hi (by omega)
  · refine w_const hZ 2 3 rfl rfl  ?_
    refine w_iret hZ 3 rfl ?_
    exact non _ (by unfold rCell; rw [if_pos (by omega)])
set_option maxRecDepth 100000 in
set_option maxHeartbeats 4000000 in
theorem ao_X7_cell : AllOk yX7_cell.cls cX7_cell 2 6 153 (some .int) none pc_X7_cell 0 cd_X7_cell := ⟨s_iload_n (k := 1) (by decide +kernel) rfl rfl, ⟨s_ifge (off := (6)) (by decide +kernel) rfl rfl, ⟨s_ldc (v := (-1000000002)) tw_4_7 (by decide +kernel) rfl ⟨by decide, by decide⟩ (by decide +kernel), ⟨s_iret rfl (by decide +kernel), ⟨s_aload_n (k := 0) (by decide +kernel) rfl rfl, ⟨s_iconst (by decide +kernel) rfl ⟨by decide, by decide⟩, ⟨s_callV (C := RX7) (T := TX7) (N := 22) rfl ct_X7_putAll (by decide) (by decide) ⟨rfl, by decide +kernel, by decide +kernel, by decide +kernel⟩ tw_4_102 tw_4_104 ts_3_12 tw_1_8 tw_4_105 (by decide +kernel) rfl, ⟨s_iload_n (k := 1) (by decide +kernel) rfl rfl, ⟨s_aload_n (k := 0) (by decide +kernel) rfl rfl, ⟨s_get (C := RX7) (T := TX7) (N := 22) rfl inT7 (by decide) tw_3_166 (by decide +kernel) rfl, ⟨s_cge (off := (12)) (by decide +kernel) rfl rfl, ⟨s_aload_n (k := 0) (by decide +kernel) rfl rfl, ⟨s_get (C := RX7) (T := TX7) (N := 22) rfl inT7 (by decide) tw_3_165 (by decide +kernel) rfl, ⟨s_iload_n (k := 1) (by decide +kernel) rfl rfl, ⟨s_iald (by decide +kernel) rfl, ⟨s_goto (off := (4)) (by decide +kernel) rfl, ⟨s_iconst (by decide +kernel) rfl ⟨by decide, by decide⟩, ⟨s_iret rfl (by decide +kernel), trivial⟩⟩⟩⟩⟩⟩⟩⟩⟩⟩⟩⟩⟩⟩⟩⟩⟩⟩
theorem ct_X7_cell : Ctr yX7_cell cX7_cell 2 (some .int) 6 153 sp_X7_cell := by
  refine ctr_of (by decide +kernel) ao_X7_cell rfl ?_
  rintro av M Ret ⟨s, i, rfl, hp, hR⟩ hok hM
  exact ⟨Nat.le_of_ble_eq_true rfl, fun Z hZ => b_X7_cell s i (hok _ (List.mem_of_getElem? (i := 1) rfl)) M Ret hp hR hM Z hZ⟩
def sp_X7_ofRule : SP := fun av M Ret => ∃ s : St, ∃ k : Int, ∃ w : Int, av = [mr 73, mi k, mi w] ∧ (YR s M ∧ stOk s) ∧ (∀ M2 : Mem, (YR s M2 ∧ ∀ k, k < 73 → M2 k = M k) → Ret (some (mi (rRule s k w))) M2)
theorem k_X7_ofRule {code : List Sem} {Z : KZ} {Ret : KR} {ls : List (Option MV)} {M : Mem} {r : List MV} (hZ : Sim code Z Ret) (ip np : Nat) {s : St} {k w : Int} (hc : code[ip]? = some (I_callV 7 2 sp_X7_ofRule)) (hn : ip + 1 = np) (h3 : catS r ≤ 8)  (hp : YR s M ∧ stOk s) (kz : ∀ M2 : Mem, (YR s M2 ∧ ∀ k, k < 73 → M2 k = M k) → Z np ls (mi (rRule s k w) :: r) M2) : Z ip ls (mi w :: mi k :: mr 73 :: r) M := w_callV2 hZ ip np hc hn rfl rfl h3 ⟨_, _, _, rfl, hp, fun M2 h => kz M2 h⟩
def cd_X7_ofRule : List Sem := [I_aload 0, I_iload 1, I_callV 7 1 sp_X7_isRule, I_ifne 6, I_const (-1000000001), I_iret, I_aload 0, I_const (-1), I_callV 7 1 sp_X7_putAll, I_iload 2, I_tsw (0) [11, 18, 25, 32, 37, 41] 46, I_aload 0, I_get 7 0, I_const (1), I_iload 1, I_add, I_iald, I_iret, I_aload 0, I_get 7 0, I_const (13), I_iload 1, I_add, I_iald, I_iret, I_aload 0, I_get 7 0, I_const (25), I_iload 1, I_add, I_iald, I_iret, I_aload 0, I_get 7 8, I_iload 1, I_iald, I_iret, I_aload 0, I_iload 1, I_callV 7 1 sp_X7_cellsWithout, I_iret, I_aload 0, I_get 7 9, I_iload 1, I_iald, I_iret, I_const (-1000000002), I_iret]
def pc_X7_ofRule : List Nat := [0, 1, 2, 5, 8, 10, 11, 12, 13, 16, 17, 56, 57, 60, 61, 62, 63, 64, 65, 66, 69, 71, 72, 73, 74, 75, 76, 79, 81, 82, 83, 84, 85, 86, 89, 90, 91, 92, 93, 94, 97, 98, 99, 102, 103, 104, 105, 107]
set_option maxRecDepth 100000 in
set_option maxHeartbeats 4000000 in
theorem b_X7_ofRule (s : St) (k : Int) (i_k : InR k) (w : Int) (i_w : InR w) (M : Mem) (Ret : KR) (hp : YR s M ∧ stOk s) (hR : ∀ M2 : Mem, (YR s M2 ∧ ∀ k, k < 73 → M2 k = M k) → Ret (some (mi (rRule s k w))) M2) (hM : MOk M) (Z : KZ) (hZ : Sim cd_X7_ofRule Z Ret) : Z 0 [some (mr 73), some (mi k), some (mi w)] [] M := by
  obtain ⟨hx, hv⟩ := hp
  have hB := hx.yb hv
  have hvo := hx.vo hv
  have h240 : (evN (sB s) (-1)).length ≤ 240 := aEv_240 hv.1 (-1) (i := 0) (Int.le_refl _)
  have h241 : (aEv (sB s) (-1) 0).length ≤ 240 := h240
  have fin : ∀ (x : Int) (M2 : Mem), rRule s k w = x → YR s M2 → (∀ k, k < 73 → M2 k = M k) → Ret (some (mi x)) M2 := by
    intro x M2 e h h2; subst e; exact hR M2 ⟨h, h2⟩
  have non : ∀ x : Int, rRule s k w = x → Ret (some (mi x)) M := fun x q => fin x M q hx (fun _ _ => rfl)
  have h0 := hx.r0
  have r12 := hv.1.2.2.2.1
  refine w_aload hZ 0 1 rfl rfl rfl ?_
  refine w_iload hZ 1 2 rfl rfl rfl ?_
  refine k_X7_isRule hZ 2 3 rfl rfl (Nat.le_of_ble_eq_true rfl) hB ?_
  refine w_ifne hZ 3 4 rfl rfl (fun c3 => ?_) (fun c3 => ?_)
  · have hk : 0 ≤ k ∧ k < vR (sB s) := by have := b2i_e.mp c3; omega
    have hk1 := hk.1
    have hk2 := hk.2
    refine w_aload hZ 6 7 rfl rfl rfl ?_
    refine w_const hZ 7 8 rfl rfl  ?_
    refine k_X7_putAll hZ 8 9 rfl rfl (Nat.le_of_ble_eq_true rfl) hvo (fun M8 p8 => ?_)
    rw [hx.1] at p8
    obtain ⟨w1, w4⟩ := p8
    have hx8 := hx.fw w4
    refine w_iload hZ 9 10 rfl rfl rfl ?_
    refine w_tsw6 hZ 10 rfl (fun c10 => ?_) (fun c10 => ?_) (fun c10 => ?_) (fun c10 => ?_) (fun c10 => ?_) (fun c10 => ?_) (fun c10 => ?_)
    · refine w_aload hZ 11 12 rfl rfl rfl ?_
      refine w_getr hZ 12 13 rfl rfl rfl rfl rfl ?_
      refine w_const hZ 13 14 rfl rfl  ?_
      refine w_iload hZ 14 15 rfl rfl rfl ?_
      refine w_add hZ 15 16 rfl rfl (by unfold InR; omega) ?_
      refine w_ialdv hZ 16 17 rfl rfl rfl (by omega) (by omega) (v := vC' (sB s) k.toNat) (Y_c hx8.1 hk.1 hk.2) ?_
      refine w_iret hZ 17 rfl ?_
      exact fin _ _ (by unfold rRule; rw [if_neg (fun z => z hk), if_pos (by omega)]) hx8 (fun k hk => w4.1 k (by omega) (by omega) (by omega) (by omega))
    · refine w_aload hZ 18 19 rfl rfl rfl ?_
      refine w_getr hZ 19 20 rfl rfl rfl rfl rfl ?_
      refine w_const hZ 20 21 rfl rfl  ?_
      refine w_iload hZ 21 22 rfl rfl rfl ?_
      refine w_add hZ 22 23 rfl rfl (by unfold InR; omega) ?_
      refine w_ialdv hZ 23 24 rfl rfl rfl (by omega) (by omega) (v := vE (sB s) k.toNat) (Y_e hx8.1 hk.1 hk.2) ?_
      refine w_iret hZ 24 rfl ?_
      exact fin _ _ (by unfold rRule; rw [if_neg (fun z => z hk), if_neg (by omega), if_pos (by omega)]) hx8 (fun k hk => w4.1 k (by omega) (by omega) (by omega) (by omega))
    · refine w_aload hZ 25 26 rfl rfl rfl ?_
      refine w_getr hZ 26 27 rfl rfl rfl rfl rfl ?_
      refine w_const hZ 27 28 rfl rfl  ?_
      refine w_iload hZ 28 29 rfl rfl rfl ?_
      refine w_add hZ 29 30 rfl rfl (by unfold InR; omega) ?_
      refine w_ialdv hZ 30 31 rfl rfl rfl (by omega) (by omega) (v := vK (sB s) k.toNat) (Y_k hx8.1 hk.1 hk.2) ?_
      refine w_iret hZ 31 rfl ?_
      exact fin _ _ (by unfold rRule; rw [if_neg (fun z => z hk), if_neg (by omega), if_neg (by omega), if_pos (by omega)]) hx8 (fun k hk => w4.1 k (by omega) (by omega) (by omega) (by omega))
    · refine w_aload hZ 32 33 rfl rfl rfl ?_
      refine w_getr hZ 33 34 rfl rfl rfl rfl rfl ?_
      refine w_iload hZ 34 35 rfl rfl rfl ?_
      refine w_iald hZ 35 36 rfl rfl rfl (by omega) (by omega) ?_
      refine w_iret hZ 36 rfl ?_
      refine fin _ _ ?_ hx8 (fun k hk => w4.1 k (by omega) (by omega) (by omega) (by omega))
      unfold rRule; rw [if_neg (fun z => z hk), if_neg (by omega), if_neg (by omega), if_neg (by omega), if_pos (by omega)]
      rw [(w1.2.2.1 k.toNat (by omega)).1, show ((k.toNat : Nat) : Int) = k by omega]
    · refine w_aload hZ 37 38 rfl rfl rfl ?_
      refine w_iload hZ 38 39 rfl rfl rfl ?_
      refine k_X7_cellsWithout hZ 39 40 rfl rfl (Nat.le_of_ble_eq_true rfl) (hx8.vo hv) (fun M39 p39 => ?_)
      refine w_iret hZ 40 rfl ?_
      rw [hx8.1]
      exact fin _ _ (by unfold rRule; rw [if_neg (fun z => z hk), if_neg (by omega), if_neg (by omega), if_neg (by omega), if_neg (by omega), if_pos (by omega)]) (hx8.fw p39) (fun k hk => by rw [p39.1 k (by omega) (by omega) (by omega) (by omega)]; exact w4.1 k (by omega) (by omega) (by omega) (by omega))
    · refine w_aload hZ 41 42 rfl rfl rfl ?_
      refine w_getr hZ 42 43 rfl rfl rfl rfl rfl ?_
      refine w_iload hZ 43 44 rfl rfl rfl ?_
      refine w_iald hZ 44 45 rfl rfl rfl (by omega) (by omega) ?_
      refine w_iret hZ 45 rfl ?_
      refine fin _ _ ?_ hx8 (fun k hk => w4.1 k (by omega) (by omega) (by omega) (by omega))
      unfold rRule; rw [if_neg (fun z => z hk), if_neg (by omega), if_neg (by omega), if_neg (by omega), if_neg (by omega), if_neg (by omega), if_pos (by omega)]
      rw [(w1.2.2.1 k.toNat (by omega)).2, show ((k.toNat : Nat) : Int) = k by omega]
    · refine w_const hZ 46 47 rfl rfl  ?_
      refine w_iret hZ 47 rfl ?_
      exact fin _ _ (by unfold rRule; rw [if_neg (fun z => z hk), if_neg (by omega), if_neg (by omega), if_neg (by omega), if_neg (by omega), if_neg (by omega), if_neg (by omega)]) hx8 (fun k hk => w4.1 k (by omega) (by omega) (by omega) (by omega))
  · refine w_const hZ 4 5 rfl rfl  ?_
    refine w_iret hZ 5 rfl ?_
    exact non _ (by unfold rRule; rw [if_pos (fun z => (b2i_z.mp c3) ⟨z.1, by omega⟩)])
set_option maxRecDepth 100000 in
set_option maxHeartbeats 4000000 in
theorem ao_X7_ofRule : AllOk yX7_ofRule.cls cX7_ofRule 3 7 174 (some .int) none pc_X7_ofRule 0 cd_X7_ofRule := ⟨s_aload_n (k := 0) (by decide +kernel) rfl rfl, ⟨s_iload_n (k := 1) (by decide +kernel) rfl rfl, ⟨s_callV (C := RX7) (T := TX7) (N := 22) rfl ct_X7_isRule (by decide) (by decide) ⟨rfl, by decide +kernel, by decide +kernel, by decide +kernel⟩ tw_4_26 tw_4_28 ts_3_6 tw_1_8 tw_4_29 (by decide +kernel) rfl, ⟨s_ifne (off := (6)) (by decide +kernel) rfl rfl, ⟨s_ldc (v := (-1000000001)) tw_4_30 (by decide +kernel) rfl ⟨by decide, by decide⟩ (by decide +kernel), ⟨s_iret rfl (by decide +kernel), ⟨s_aload_n (k := 0) (by decide +kernel) rfl rfl, ⟨s_iconst (by decide +kernel) rfl ⟨by decide, by decide⟩, ⟨s_callV (C := RX7) (T := TX7) (N := 22) rfl ct_X7_putAll (by decide) (by decide) ⟨rfl, by decide +kernel, by decide +kernel, by decide +kernel⟩ tw_4_102 tw_4_104 ts_3_12 tw_1_8 tw_4_105 (by decide +kernel) rfl, ⟨s_iload_n (k := 2) (by decide +kernel) rfl rfl, ⟨s_tsw (dfl := 88) (hi0 := 5) (offs := #[39, 48, 58, 68, 75, 81]) (len := 39) (by decide +kernel) rfl rfl rfl, ⟨s_aload_n (k := 0) (by decide +kernel) rfl rfl, ⟨s_get (C := RX7) (T := TX7) (N := 22) rfl inT7 (by decide) tw_3_159 (by decide +kernel) rfl, ⟨s_iconst (by decide +kernel) rfl ⟨by decide, by decide⟩, ⟨s_iload_n (k := 1) (by decide +kernel) rfl rfl, ⟨s_add (by decide +kernel) rfl, ⟨s_iald (by decide +kernel) rfl, ⟨s_iret rfl (by decide +kernel), ⟨s_aload_n (k := 0) (by decide +kernel) rfl rfl, ⟨s_get (C := RX7) (T := TX7) (N := 22) rfl inT7 (by decide) tw_3_159 (by decide +kernel) rfl, ⟨s_bipush (by decide +kernel) rfl ⟨by decide, by decide⟩ (by decide +kernel), ⟨s_iload_n (k := 1) (by decide +kernel) rfl rfl, ⟨s_add (by decide +kernel) rfl, ⟨s_iald (by decide +kernel) rfl, ⟨s_iret rfl (by decide +kernel), ⟨s_aload_n (k := 0) (by decide +kernel) rfl rfl, ⟨s_get (C := RX7) (T := TX7) (N := 22) rfl inT7 (by decide) tw_3_159 (by decide +kernel) rfl, ⟨s_bipush (by decide +kernel) rfl ⟨by decide, by decide⟩ (by decide +kernel), ⟨s_iload_n (k := 1) (by decide +kernel) rfl rfl, ⟨s_add (by decide +kernel) rfl, ⟨s_iald (by decide +kernel) rfl, ⟨s_iret rfl (by decide +kernel), ⟨s_aload_n (k := 0) (by decide +kernel) rfl rfl, ⟨s_get (C := RX7) (T := TX7) (N := 22) rfl inT7 (by decide) tw_3_167 (by decide +kernel) rfl, ⟨s_iload_n (k := 1) (by decide +kernel) rfl rfl, ⟨s_iald (by decide +kernel) rfl, ⟨s_iret rfl (by decide +kernel), ⟨s_aload_n (k := 0) (by decide +kernel) rfl rfl, ⟨s_iload_n (k := 1) (by decide +kernel) rfl rfl, ⟨s_callV (C := RX7) (T := TX7) (N := 22) rfl ct_X7_cellsWithout (by decide) (by decide) ⟨rfl, by decide +kernel, by decide +kernel, by decide +kernel⟩ tw_4_186 tw_4_188 ts_4_13 tw_1_8 tw_4_189 (by decide +kernel) rfl, ⟨s_iret rfl (by decide +kernel), ⟨s_aload_n (k := 0) (by decide +kernel) rfl rfl, ⟨s_get (C := RX7) (T := TX7) (N := 22) rfl inT7 (by decide) tw_3_168 (by decide +kernel) rfl, ⟨s_iload_n (k := 1) (by decide +kernel) rfl rfl, ⟨s_iald (by decide +kernel) rfl, ⟨s_iret rfl (by decide +kernel), ⟨s_ldc (v := (-1000000002)) tw_4_7 (by decide +kernel) rfl ⟨by decide, by decide⟩ (by decide +kernel), ⟨s_iret rfl (by decide +kernel), trivial⟩⟩⟩⟩⟩⟩⟩⟩⟩⟩⟩⟩⟩⟩⟩⟩⟩⟩⟩⟩⟩⟩⟩⟩⟩⟩⟩⟩⟩⟩⟩⟩⟩⟩⟩⟩⟩⟩⟩⟩⟩⟩⟩⟩⟩⟩⟩⟩
theorem ct_X7_ofRule : Ctr yX7_ofRule cX7_ofRule 3 (some .int) 7 174 sp_X7_ofRule := by
  refine ctr_of (by decide +kernel) ao_X7_ofRule rfl ?_
  rintro av M Ret ⟨s, k, w, rfl, hp, hR⟩ hok hM
  exact ⟨Nat.le_of_ble_eq_true rfl, fun Z hZ => b_X7_ofRule s k (hok _ (List.mem_of_getElem? (i := 1) rfl)) w (hok _ (List.mem_of_getElem? (i := 2) rfl)) M Ret hp hR hM Z hZ⟩
def sp_X7_feelAll : SP := fun av M Ret => ∃ s : St, av = [mr 73] ∧ (YR s M ∧ stOk s) ∧ (∀ M2 : Mem, (YR (oFeelAll s).2 M2 ∧ ∀ k, k < 73 → M2 k = M k) → Ret (some (mi ((oFeelAll s).1))) M2)
theorem k_X7_feelAll {code : List Sem} {Z : KZ} {Ret : KR} {ls : List (Option MV)} {M : Mem} {r : List MV} (hZ : Sim code Z Ret) (ip np : Nat) {s : St}  (hc : code[ip]? = some (I_callV 7 0 sp_X7_feelAll)) (hn : ip + 1 = np) (h3 : catS r ≤ 8)  (hp : YR s M ∧ stOk s) (kz : ∀ M2 : Mem, (YR (oFeelAll s).2 M2 ∧ ∀ k, k < 73 → M2 k = M k) → Z np ls (mi ((oFeelAll s).1) :: r) M2) : Z ip ls (mr 73 :: r) M := w_callV0 hZ ip np hc hn rfl rfl h3 ⟨_, rfl, hp, fun M2 h => kz M2 h⟩
def cd_X7_feelAll : List Sem := [I_aload 0, I_const (-1), I_callV 7 1 sp_X7_putAll, I_aload 0, I_aload 0, I_get 7 7, I_puti 7 16, I_const (0), I_istore 1, I_iload 1, I_aload 0, I_get 7 7, I_cge 23, I_aload 0, I_get 7 15, I_iload 1, I_aload 0, I_get 7 6, I_iload 1, I_iald, I_iast, I_iinc 1 (1), I_goto 9, I_aload 0, I_get 7 16, I_iret]
def pc_X7_feelAll : List Nat := [0, 1, 2, 5, 6, 7, 10, 13, 14, 15, 16, 17, 20, 23, 24, 27, 28, 29, 32, 33, 34, 35, 38, 41, 42, 45]
set_option maxRecDepth 100000 in
set_option maxHeartbeats 4000000 in
theorem b_X7_feelAll (s : St)  (M : Mem) (Ret : KR) (hp : YR s M ∧ stOk s) (hR : ∀ M2 : Mem, (YR (oFeelAll s).2 M2 ∧ ∀ k, k < 73 → M2 k = M k) → Ret (some (mi ((oFeelAll s).1))) M2) (hM : MOk M) (Z : KZ) (hZ : Sim cd_X7_feelAll Z Ret) : Z 0 [some (mr 73), none] [] M := by
  obtain ⟨hx, hv⟩ := hp
  have hB := hx.yb hv
  have hvo := hx.vo hv
  have hU : 0 ≤ M 73 2 ∧ M 73 2 ≤ 8 := ⟨by rw [hx.2.1]; omega, by rw [hx.2.1]; have := hv.2.1; omega⟩
  have fin : ∀ r : Int × St, (oFeelAll s) = r → ∀ (x : Int) (M2 : Mem), x = r.1 → (YR r.2 M2 ∧ ∀ k, k < 73 → M2 k = M k) → Ret (some (mi x)) M2 := by
    intro r q x M2 e h; subst e; subst q; exact hR M2 h
  have non : ∀ x : Int, (oFeelAll s) = (x, s) → Ret (some (mi x)) M := fun x q => fin _ q x M rfl ⟨hx, fun _ _ => rfl⟩
  have h240 : (evN (sB s) (-1)).length ≤ 240 := aEv_240 hv.1 (-1) (i := 0) (Int.le_refl _)
  have loop : ∀ P : Mem, WY (evN (sB s) (-1)) P → FW M P → ∀ (d : Nat) (i : Int) (N : Mem), d = ((evN (sB s) (-1)).length - i).toNat → 0 ≤ i → i ≤ (evN (sB s) (-1)).length → (∀ o, ¬ o = 73 → ¬ o = 82 → N o = P o) → (∀ f, ¬ f = 16 → N 73 f = P 73 f) → N 73 16 = (evN (sB s) (-1)).length → Hid (∀ j : Nat, (j : Int) < i → N 82 j = P 78 j) → Z 9 [some (mr 73), some (mi i)] [] N := by
    intro P hW hF d
    have h17 := hW.1
    induction d using Nat.strongRecOn with
    | ind d ih =>
      intro i N hd i0 i1 n1 n2 n3 n4
      have n7 : N 73 7 = (evN (sB s) (-1)).length := by rw [n2 7 (by omega)]; exact h17
      have n78 : N 78 = P 78 := n1 78 (by omega) (by omega)
      refine w_iload hZ 9 10 rfl rfl rfl ?_
      refine w_aload hZ 10 11 rfl rfl rfl ?_
      refine w_getiv hZ 11 12 rfl rfl rfl rfl rfl (v := ((evN (sB s) (-1)).length : Int)) n7 ?_
      refine w_cge hZ 12 13 rfl rfl (fun c12 => ?_) (fun c12 => ?_)
      · refine w_aload hZ 23 24 rfl rfl rfl ?_
        refine w_getiv hZ 24 25 rfl rfl rfl rfl rfl (v := ((evN (sB s) (-1)).length : Int)) n3 ?_
        refine w_iret hZ 25 rfl ?_
        refine fin ((evN (sB s) (-1)).length, (sB s, sH s, sI s, ((evN (sB s) (-1)).length : Int), evF (evN (sB s) (-1)))) rfl _ _ rfl ⟨(hx.fw hF).felt (fun o o1 _ _ _ o2 => n1 o o1 o2) (n2 2 (by omega)) n3 ?_, fun k hk => by rw [n1 k (by omega) (by omega)]; exact hF.1 k (by omega) (by omega) (by omega) (by omega)⟩
        rw [← hW.sg]
        exact sgn_congr (fun j hj => n4.u j (by omega))
      · refine w_aload hZ 13 14 rfl rfl rfl ?_
        refine w_getr hZ 14 15 rfl rfl rfl rfl rfl ?_
        refine w_iload hZ 15 16 rfl rfl rfl ?_
        refine w_aload hZ 16 17 rfl rfl rfl ?_
        refine w_getr hZ 17 18 rfl rfl rfl rfl rfl ?_
        refine w_iload hZ 18 19 rfl rfl rfl ?_
        refine w_ialdv hZ 19 20 rfl rfl rfl (by omega) (by omega) (v := P 78 i.toNat) (by rw [n78]) ?_
        refine w_iast hZ 20 21 rfl rfl rfl (by omega) (by omega) ?_
        refine w_in2_1 hZ 21 22 rfl rfl rfl (by unfold InR; omega) ?_
        refine w_goto hZ 22 9 rfl ?_
        refine ih _ (by omega) (i + 1) _ rfl (by omega) (by omega) (fun o o1 o2 => ?_) (fun f hf => by rw [mup_at, if_neg (by omega)]; exact n2 f hf) (by rw [mup_at, if_neg (by omega)]; exact n3) (fun j hj => ?_)
        · rw [← n1 o o1 o2]; funext q; simp [mup_at, o2]
        · rw [mup_at]
          by_cases q : (j : Int) = i
          · rw [if_pos (by omega)]; congr 1; omega
          · rw [if_neg (by omega)]; exact n4.u j (by omega)
  refine w_aload hZ 0 1 rfl rfl rfl ?_
  refine w_const hZ 1 2 rfl rfl  ?_
  refine k_X7_putAll hZ 2 3 rfl rfl (Nat.le_of_ble_eq_true rfl) hvo (fun M2 p2 => ?_)
  rw [hx.1] at p2
  obtain ⟨w1, w4⟩ := p2
  refine w_aload hZ 3 4 rfl rfl rfl ?_
  refine w_aload hZ 4 5 rfl rfl rfl ?_
  refine w_getiv hZ 5 6 rfl rfl rfl rfl rfl (v := ((evN (sB s) (-1)).length : Int)) w1.1 ?_
  refine w_puti hZ 6 7 rfl rfl rfl rfl rfl ?_
  refine w_const hZ 7 8 rfl rfl  ?_
  refine w_st2_1 hZ 8 9 rfl rfl rfl ?_
  exact loop M2 w1 w4 _ 0 _ rfl (Int.le_refl _) (by omega) (fun o o1 o2 => by funext q; simp [mup_at, o1]) (fun f hf => by simp [mup_at, hf]) (by simp [mup_at]) (fun j hj => absurd hj (by omega))
set_option maxRecDepth 100000 in
set_option maxHeartbeats 4000000 in
theorem ao_X7_feelAll : AllOk yX7_feelAll.cls cX7_feelAll 2 6 153 (some .int) none pc_X7_feelAll 0 cd_X7_feelAll := ⟨s_aload_n (k := 0) (by decide +kernel) rfl rfl, ⟨s_iconst (by decide +kernel) rfl ⟨by decide, by decide⟩, ⟨s_callV (C := RX7) (T := TX7) (N := 22) rfl ct_X7_putAll (by decide) (by decide) ⟨rfl, by decide +kernel, by decide +kernel, by decide +kernel⟩ tw_4_102 tw_4_104 ts_3_12 tw_1_8 tw_4_105 (by decide +kernel) rfl, ⟨s_aload_n (k := 0) (by decide +kernel) rfl rfl, ⟨s_aload_n (k := 0) (by decide +kernel) rfl rfl, ⟨s_get (C := RX7) (T := TX7) (N := 22) rfl inT7 (by decide) tw_3_166 (by decide +kernel) rfl, ⟨s_puti (C := RX7) (T := TX7) (N := 22) (tyf := tyX7) rfl inT7 tyX7_ok nmX7 (by decide) rfl rfl tw_3_175 (by decide +kernel) rfl, ⟨s_iconst (by decide +kernel) rfl ⟨by decide, by decide⟩, ⟨s_istore_n (k := 1) (by decide +kernel) rfl rfl, ⟨s_iload_n (k := 1) (by decide +kernel) rfl rfl, ⟨s_aload_n (k := 0) (by decide +kernel) rfl rfl, ⟨s_get (C := RX7) (T := TX7) (N := 22) rfl inT7 (by decide) tw_3_166 (by decide +kernel) rfl, ⟨s_cge (off := (21)) (by decide +kernel) rfl rfl, ⟨s_aload_n (k := 0) (by decide +kernel) rfl rfl, ⟨s_get (C := RX7) (T := TX7) (N := 22) rfl inT7 (by decide) tw_3_174 (by decide +kernel) rfl, ⟨s_iload_n (k := 1) (by decide +kernel) rfl rfl, ⟨s_aload_n (k := 0) (by decide +kernel) rfl rfl, ⟨s_get (C := RX7) (T := TX7) (N := 22) rfl inT7 (by decide) tw_3_165 (by decide +kernel) rfl, ⟨s_iload_n (k := 1) (by decide +kernel) rfl rfl, ⟨s_iald (by decide +kernel) rfl, ⟨s_iast (by decide +kernel) rfl, ⟨s_iinc (by decide +kernel) rfl, ⟨s_goto (off := (-23)) (by decide +kernel) rfl, ⟨s_aload_n (k := 0) (by decide +kernel) rfl rfl, ⟨s_get (C := RX7) (T := TX7) (N := 22) rfl inT7 (by decide) tw_3_175 (by decide +kernel) rfl, ⟨s_iret rfl (by decide +kernel), trivial⟩⟩⟩⟩⟩⟩⟩⟩⟩⟩⟩⟩⟩⟩⟩⟩⟩⟩⟩⟩⟩⟩⟩⟩⟩⟩
theorem ct_X7_feelAll : Ctr yX7_feelAll cX7_feelAll 2 (some .int) 6 153 sp_X7_feelAll := by
  refine ctr_of (by decide +kernel) ao_X7_feelAll rfl ?_
  rintro av M Ret ⟨s, rfl, hp, hR⟩ hok hM
  exact ⟨Nat.le_of_ble_eq_true rfl, fun Z hZ => b_X7_feelAll s  M Ret hp hR hM Z hZ⟩
