/-! THE CLASS: felt CELLS, images -/
theorem XR.feelAll {s : St} {M M4 N : Mem} (hx : XR s M) (e : ∀ k, ¬ k = 0 → ¬ k = 19 → (k < 10 ∨ 14 < k) → N k = M k) (hw : WSt (evN (sB s) (-1)) M4) (e0 : N 0 7 = (evN (sB s) (-1)).length) (e19 : ∀ j : Nat, j < (evN (sB s) (-1)).length → N 19 j = M4 11 j) : XR (oFeelAll s).2 N ∧ ∀ k, 73 ≤ k → N k = M k := by
  obtain ⟨a1, a2, a3, a4, a5, a6, a7⟩ := hx
  have e6 := e 6 (by omega) (by omega) (by omega)
  refine ⟨⟨(bX_same 1 (fun j p q => e j (by omega) (by omega) (by omega))).trans a1, by unfold Hx; rw [e6]; exact a2, by rw [e6]; exact a3, fun j hj => ?_, fun j hj => ?_, e0, ?_⟩, fun k hk => e k (by omega) (by omega) (by omega)⟩
  · rw [e6, bX_same (M := M) _ (fun q p1 p2 => e q (by unfold pb at p1 p2; omega) (by unfold pb at p1 p2; omega) (by unfold pb at p1 p2; omega))]; exact a4 j hj
  · rw [e 9 (by omega) (by omega) (by omega), bX_same (M := M) (63 + 5 * j) (fun q p1 p2 => e q (by omega) (by omega) (by omega))]; exact a5 j hj
  · show sgn ((evN (sB s) (-1)).length : Int) (N 19) = evF (evN (sB s) (-1))
    rw [← hw.sg]
    exact sgn_congr (fun i hi => e19 i (by omega))
def sp_X6_feel : SP := fun av M Ret => ∃ s : St, ∃ c : Int, av = [mr 0, mi c] ∧ (XR s M ∧ stOk s) ∧ (∀ M2 : Mem, (XR (oFeel s c).2 M2 ∧ ∀ k, 73 ≤ k → M2 k = M k) → Ret (some (mi ((oFeel s c).1))) M2)
theorem k_X6_feel {code : List Sem} {Z : KZ} {Ret : KR} {ls : List (Option MV)} {M : Mem} {r : List MV} (hZ : Sim code Z Ret) (ip np : Nat) {s : St} {c : Int} (hc : code[ip]? = some (I_callV 6 1 sp_X6_feel)) (hn : ip + 1 = np) (h3 : catS r ≤ 8)  (hp : XR s M ∧ stOk s) (kz : ∀ M2 : Mem, (XR (oFeel s c).2 M2 ∧ ∀ k, 73 ≤ k → M2 k = M k) → Z np ls (mi ((oFeel s c).1) :: r) M2) : Z ip ls (mi c :: mr 0 :: r) M := w_callV1 hZ ip np hc hn rfl rfl h3 ⟨_, _, rfl, hp, fun M2 h => kz M2 h⟩
def cd_X6_feel : List Sem := [I_iload 1, I_callS 1 sp_X6_isCell, I_ifne 5, I_const (-1000000002), I_iret, I_aload 0, I_get 6 7, I_const (240), I_clt 11, I_const (-1000000004), I_iret, I_aload 0, I_get 6 6, I_aload 0, I_get 6 7, I_iload 1, I_iast, I_aload 0, I_dup, I_get 6 7, I_const (1), I_add, I_puti 6 7, I_aload 0, I_get 6 7, I_iret]
def pc_X6_feel : List Nat := [0, 1, 4, 7, 9, 10, 11, 14, 17, 20, 22, 23, 24, 27, 28, 31, 32, 33, 34, 35, 38, 39, 40, 43, 44, 47]
set_option maxRecDepth 100000 in
set_option maxHeartbeats 4000000 in
theorem b_X6_feel (s : St) (c : Int) (i_c : InR c) (M : Mem) (Ret : KR) (hp : XR s M ∧ stOk s) (hR : ∀ M2 : Mem, (XR (oFeel s c).2 M2 ∧ ∀ k, 73 ≤ k → M2 k = M k) → Ret (some (mi ((oFeel s c).1))) M2) (hM : MOk M) (Z : KZ) (hZ : Sim cd_X6_feel Z Ret) : Z 0 [some (mr 0), some (mi c)] [] M := by
  obtain ⟨hx, hv⟩ := hp
  have hB := hx.bx hv
  have hH := hx.2.1
  have fin : ∀ r : Int × St, (oFeel s c) = r → ∀ (x : Int) (M2 : Mem), x = r.1 → (XR r.2 M2 ∧ ∀ k, 73 ≤ k → M2 k = M k) → Ret (some (mi x)) M2 := by
    intro r q x M2 e h; subst e; subst q; exact hR M2 h
  have non : ∀ x : Int, (oFeel s c) = (x, s) → Ret (some (mi x)) M := fun x q => fin _ q x M rfl ⟨hx, fun _ _ => rfl⟩
  have h7 := hx.2.2.2.2.2.1
  have f0 := hv.2.2.2.2.1
  refine w_iload hZ 0 1 rfl rfl rfl ?_
  refine k_X6_isCell hZ 1 2 rfl rfl (Nat.le_of_ble_eq_true rfl)  ?_
  refine w_ifne hZ 2 3 rfl rfl (fun c2 => ?_) (fun c2 => ?_)
  · refine w_aload hZ 5 6 rfl rfl rfl ?_
    refine w_geti hZ 6 7 rfl rfl rfl rfl rfl ?_
    refine w_const hZ 7 8 rfl rfl  ?_
    refine w_clt hZ 8 9 rfl rfl (fun c8 => ?_) (fun c8 => ?_)
    · refine w_aload hZ 11 12 rfl rfl rfl ?_
      refine w_getr hZ 12 13 rfl rfl rfl rfl rfl ?_
      refine w_aload hZ 13 14 rfl rfl rfl ?_
      refine w_geti hZ 14 15 rfl rfl rfl rfl rfl ?_
      refine w_iload hZ 15 16 rfl rfl rfl ?_
      refine w_iast hZ 16 17 rfl rfl rfl (by omega) (by omega) ?_
      refine w_aload hZ 17 18 rfl rfl rfl ?_
      refine w_dup hZ 18 19 rfl rfl rfl ?_
      have e7 : mup M 19 (M 0 7).toNat c 0 7 = M 0 7 := by simp [mup_at]
      refine w_getiv hZ 19 20 rfl rfl rfl rfl rfl (v := M 0 7) e7 ?_
      refine w_const hZ 20 21 rfl rfl  ?_
      refine w_add hZ 21 22 rfl rfl (by unfold InR; omega) ?_
      refine w_puti hZ 22 23 rfl rfl rfl rfl rfl ?_
      refine w_aload hZ 23 24 rfl rfl rfl ?_
      refine w_geti hZ 24 25 rfl rfl rfl rfl rfl ?_
      refine w_iret hZ 25 rfl ?_
      have hz : XR (sB s, sH s, sI s, sC s + 1, fun i => if i = sC s then c else sL s i) (mup (mup M 19 (M 0 7).toNat c) 0 7 (M 0 7 + 1)) ∧ ∀ k, 73 ≤ k → (mup (mup M 19 (M 0 7).toNat c) 0 7 (M 0 7 + 1)) k = M k := by
        have e : ∀ k, ¬ k = 0 → ¬ k = 19 → mup (mup M 19 (M 0 7).toNat c) 0 7 (M 0 7 + 1) k = M k := fun k k1 k2 => by funext j; simp [mup_at, k1, k2]
        have e0 : mup (mup M 19 (M 0 7).toNat c) 0 7 (M 0 7 + 1) 0 7 = M 0 7 + 1 := by simp [mup_at]
        have e19 : ∀ j, mup (mup M 19 (M 0 7).toNat c) 0 7 (M 0 7 + 1) 19 j = if j = (M 0 7).toNat then c else M 19 j := fun j => by simp [mup_at]
        generalize mup (mup M 19 (M 0 7).toNat c) 0 7 (M 0 7 + 1) = N at *
        obtain ⟨a1, a2, a3, a4, a5, a6, a7⟩ := hx
        have e6 := e 6 (by omega) (by omega)
        refine ⟨⟨(bX_same 1 (fun j p q => e j (by omega) (by omega))).trans a1, by unfold Hx; rw [e6]; exact a2, by rw [e6]; exact a3, fun j hj => ?_, fun j hj => ?_, by rw [e0, a6], ?_⟩, fun k hk => e k (by omega) (by omega)⟩
        · rw [e6, bX_same (M := M) _ (fun q p1 p2 => e q (by unfold pb at p1 p2; omega) (by unfold pb at p1 p2; omega))]; exact a4 j hj
        · rw [e 9 (by omega) (by omega), bX_same (M := M) (63 + 5 * j) (fun q p1 p2 => e q (by omega) (by omega))]; exact a5 j hj
        · show sgn (sC s + 1) (N 19) = fun i => if i = sC s then c else sL s i
          rw [← a7]
          funext i
          unfold sgn
          rw [e19]
          by_cases q : i = sC s
          · rw [if_pos q, if_pos (by omega), if_pos (by omega)]
          · rw [if_neg q]
            by_cases p : 0 ≤ i ∧ i < sC s
            · rw [if_pos p, if_pos (by omega), if_neg (by omega)]
            · rw [if_neg p, if_neg (by omega)]
      exact fin _ (by unfold oFeel; rw [if_neg (fun z => z (b2i_e.mp c2)), if_neg (by omega)]) _ _ (by rw [hz.1.2.2.2.2.2.1]) hz
    · refine w_const hZ 9 10 rfl rfl  ?_
      refine w_iret hZ 10 rfl ?_
      exact non _ (by unfold oFeel; rw [if_neg (fun z => z (b2i_e.mp c2)), if_pos (by omega)])
  · refine w_const hZ 3 4 rfl rfl  ?_
    refine w_iret hZ 4 rfl ?_
    exact non _ (by unfold oFeel; rw [if_pos (b2i_z.mp c2)])
set_option maxRecDepth 100000 in
set_option maxHeartbeats 4000000 in
theorem ao_X6_feel : AllOk yX6_feel.cls cX6_feel 2 1 20 (some .int) none pc_X6_feel 0 cd_X6_feel := ⟨s_iload_n (k := 1) (by decide +kernel) rfl rfl, ⟨s_callS ct_X6_isCell (by decide) (by decide) ⟨by decide +kernel, by decide +kernel, by decide +kernel⟩ tw_3_32 tw_3_33 tw_1_1 tw_3_34 (by decide +kernel) rfl, ⟨s_ifne (off := (6)) (by decide +kernel) rfl rfl, ⟨s_ldc (v := (-1000000002)) tw_2_2 (by decide +kernel) rfl ⟨by decide, by decide⟩ (by decide +kernel), ⟨s_iret rfl (by decide +kernel), ⟨s_aload_n (k := 0) (by decide +kernel) rfl rfl, ⟨s_get (C := RX6) (T := TX6) (N := 10) rfl inT6 (by decide) tw_1_204 (by decide +kernel) rfl, ⟨s_sipush (by decide +kernel) rfl ⟨by decide, by decide⟩ (by decide +kernel), ⟨s_clt (off := (6)) (by decide +kernel) rfl rfl, ⟨s_ldc (v := (-1000000004)) tw_2_16 (by decide +kernel) rfl ⟨by decide, by decide⟩ (by decide +kernel), ⟨s_iret rfl (by decide +kernel), ⟨s_aload_n (k := 0) (by decide +kernel) rfl rfl, ⟨s_get (C := RX6) (T := TX6) (N := 10) rfl inT6 (by decide) tw_1_203 (by decide +kernel) rfl, ⟨s_aload_n (k := 0) (by decide +kernel) rfl rfl, ⟨s_get (C := RX6) (T := TX6) (N := 10) rfl inT6 (by decide) tw_1_204 (by decide +kernel) rfl, ⟨s_iload_n (k := 1) (by decide +kernel) rfl rfl, ⟨s_iast (by decide +kernel) rfl, ⟨s_aload_n (k := 0) (by decide +kernel) rfl rfl, ⟨s_dup (by decide +kernel) rfl, ⟨s_get (C := RX6) (T := TX6) (N := 10) rfl inT6 (by decide) tw_1_204 (by decide +kernel) rfl, ⟨s_iconst (by decide +kernel) rfl ⟨by decide, by decide⟩, ⟨s_add (by decide +kernel) rfl, ⟨s_puti (C := RX6) (T := TX6) (N := 10) (tyf := tyX6) rfl inT6 tyX6_ok nmX6 (by decide) rfl rfl tw_1_204 (by decide +kernel) rfl, ⟨s_aload_n (k := 0) (by decide +kernel) rfl rfl, ⟨s_get (C := RX6) (T := TX6) (N := 10) rfl inT6 (by decide) tw_1_204 (by decide +kernel) rfl, ⟨s_iret rfl (by decide +kernel), trivial⟩⟩⟩⟩⟩⟩⟩⟩⟩⟩⟩⟩⟩⟩⟩⟩⟩⟩⟩⟩⟩⟩⟩⟩⟩⟩
theorem ct_X6_feel : Ctr yX6_feel cX6_feel 2 (some .int) 1 20 sp_X6_feel := by
  refine ctr_of (by decide +kernel) ao_X6_feel rfl ?_
  rintro av M Ret ⟨s, c, rfl, hp, hR⟩ hok hM
  exact ⟨Nat.le_of_ble_eq_true rfl, fun Z hZ => b_X6_feel s c (hok _ (List.mem_of_getElem? (i := 1) rfl)) M Ret hp hR hM Z hZ⟩
def sp_X6_rest : SP := fun av M Ret => ∃ s : St, av = [mr 0] ∧ (XR s M ∧ stOk s) ∧ (∀ M2 : Mem, (XR (oRest s).2 M2 ∧ ∀ k, 73 ≤ k → M2 k = M k) → Ret (some (mi ((oRest s).1))) M2)
theorem k_X6_rest {code : List Sem} {Z : KZ} {Ret : KR} {ls : List (Option MV)} {M : Mem} {r : List MV} (hZ : Sim code Z Ret) (ip np : Nat) {s : St}  (hc : code[ip]? = some (I_callV 6 0 sp_X6_rest)) (hn : ip + 1 = np) (h3 : catS r ≤ 8)  (hp : XR s M ∧ stOk s) (kz : ∀ M2 : Mem, (XR (oRest s).2 M2 ∧ ∀ k, 73 ≤ k → M2 k = M k) → Z np ls (mi ((oRest s).1) :: r) M2) : Z ip ls (mr 0 :: r) M := w_callV0 hZ ip np hc hn rfl rfl h3 ⟨_, rfl, hp, fun M2 h => kz M2 h⟩
def cd_X6_rest : List Sem := [I_aload 0, I_get 6 7, I_istore 1, I_aload 0, I_const (0), I_puti 6 7, I_iload 1, I_iret]
def pc_X6_rest : List Nat := [0, 1, 4, 5, 6, 7, 10, 11]
set_option maxRecDepth 100000 in
set_option maxHeartbeats 4000000 in
theorem b_X6_rest (s : St)  (M : Mem) (Ret : KR) (hp : XR s M ∧ stOk s) (hR : ∀ M2 : Mem, (XR (oRest s).2 M2 ∧ ∀ k, 73 ≤ k → M2 k = M k) → Ret (some (mi ((oRest s).1))) M2) (hM : MOk M) (Z : KZ) (hZ : Sim cd_X6_rest Z Ret) : Z 0 [some (mr 0), none] [] M := by
  obtain ⟨hx, hv⟩ := hp
  have hB := hx.bx hv
  have hH := hx.2.1
  have fin : ∀ r : Int × St, (oRest s) = r → ∀ (x : Int) (M2 : Mem), x = r.1 → (XR r.2 M2 ∧ ∀ k, 73 ≤ k → M2 k = M k) → Ret (some (mi x)) M2 := by
    intro r q x M2 e h; subst e; subst q; exact hR M2 h
  have non : ∀ x : Int, (oRest s) = (x, s) → Ret (some (mi x)) M := fun x q => fin _ q x M rfl ⟨hx, fun _ _ => rfl⟩
  have h7 := hx.2.2.2.2.2.1
  refine w_aload hZ 0 1 rfl rfl rfl ?_
  refine w_geti hZ 1 2 rfl rfl rfl rfl rfl ?_
  refine w_st2_1 hZ 2 3 rfl rfl rfl ?_
  refine w_aload hZ 3 4 rfl rfl rfl ?_
  refine w_const hZ 4 5 rfl rfl  ?_
  refine w_puti hZ 5 6 rfl rfl rfl rfl rfl ?_
  refine w_iload hZ 6 7 rfl rfl rfl ?_
  refine w_iret hZ 7 rfl ?_
  have e : ∀ k, ¬ k = 0 → mup M 0 7 0 k = M k := fun k k1 => by funext j; simp [mup_at, k1]
  have e0 : mup M 0 7 0 0 7 = 0 := by simp [mup_at]
  refine fin _ rfl _ _ h7 ⟨?_, fun k hk => e k (by omega)⟩
  generalize mup M 0 7 0 = N at *
  obtain ⟨a1, a2, a3, a4, a5, a6, a7⟩ := hx
  have e6 := e 6 (by omega)
  refine ⟨(bX_same 1 (fun j p q => e j (by omega))).trans a1, by unfold Hx; rw [e6]; exact a2, by rw [e6]; exact a3, fun j hj => ?_, fun j hj => ?_, e0, ?_⟩
  · rw [e6, bX_same (M := M) _ (fun q p1 p2 => e q (by unfold pb at p1 p2; omega))]; exact a4 j hj
  · rw [e 9 (by omega), bX_same (M := M) (63 + 5 * j) (fun q p1 p2 => e q (by omega))]; exact a5 j hj
  · funext i; exact if_neg (by show ¬ (0 ≤ i ∧ i < 0); omega)
set_option maxRecDepth 100000 in
set_option maxHeartbeats 4000000 in
theorem ao_X6_rest : AllOk yX6_rest.cls cX6_rest 2 0 0 (some .int) none pc_X6_rest 0 cd_X6_rest := ⟨s_aload_n (k := 0) (by decide +kernel) rfl rfl, ⟨s_get (C := RX6) (T := TX6) (N := 10) rfl inT6 (by decide) tw_1_204 (by decide +kernel) rfl, ⟨s_istore_n (k := 1) (by decide +kernel) rfl rfl, ⟨s_aload_n (k := 0) (by decide +kernel) rfl rfl, ⟨s_iconst (by decide +kernel) rfl ⟨by decide, by decide⟩, ⟨s_puti (C := RX6) (T := TX6) (N := 10) (tyf := tyX6) rfl inT6 tyX6_ok nmX6 (by decide) rfl rfl tw_1_204 (by decide +kernel) rfl, ⟨s_iload_n (k := 1) (by decide +kernel) rfl rfl, ⟨s_iret rfl (by decide +kernel), trivial⟩⟩⟩⟩⟩⟩⟩⟩
theorem ct_X6_rest : Ctr yX6_rest cX6_rest 2 (some .int) 0 0 sp_X6_rest := by
  refine ctr_of (by decide +kernel) ao_X6_rest rfl ?_
  rintro av M Ret ⟨s, rfl, hp, hR⟩ hok hM
  exact ⟨Nat.le_of_ble_eq_true rfl, fun Z hZ => b_X6_rest s  M Ret hp hR hM Z hZ⟩
def sp_X6_feelAll : SP := fun av M Ret => ∃ s : St, av = [mr 0] ∧ (XR s M ∧ stOk s) ∧ (∀ M2 : Mem, (XR (oFeelAll s).2 M2 ∧ ∀ k, 73 ≤ k → M2 k = M k) → Ret (some (mi ((oFeelAll s).1))) M2)
theorem k_X6_feelAll {code : List Sem} {Z : KZ} {Ret : KR} {ls : List (Option MV)} {M : Mem} {r : List MV} (hZ : Sim code Z Ret) (ip np : Nat) {s : St}  (hc : code[ip]? = some (I_callV 6 0 sp_X6_feelAll)) (hn : ip + 1 = np) (h3 : catS r ≤ 8)  (hp : XR s M ∧ stOk s) (kz : ∀ M2 : Mem, (XR (oFeelAll s).2 M2 ∧ ∀ k, 73 ≤ k → M2 k = M k) → Z np ls (mi ((oFeelAll s).1) :: r) M2) : Z ip ls (mr 0 :: r) M := w_callV0 hZ ip np hc hn rfl rfl h3 ⟨_, rfl, hp, fun M2 h => kz M2 h⟩
def cd_X6_feelAll : List Sem := [I_aload 0, I_aload 0, I_get 6 4, I_const (-1), I_callV 5 1 sp_X5_write, I_puti 6 7, I_aload 0, I_get 6 4, I_get 5 0, I_const (0), I_aload 0, I_get 6 6, I_const (0), I_aload 0, I_get 6 7, I_copy, I_aload 0, I_get 6 7, I_iret]
def pc_X6_feelAll : List Nat := [0, 1, 2, 5, 6, 9, 12, 13, 16, 19, 20, 21, 24, 25, 26, 29, 32, 33, 36]
set_option maxRecDepth 100000 in
set_option maxHeartbeats 4000000 in
theorem b_X6_feelAll (s : St)  (M : Mem) (Ret : KR) (hp : XR s M ∧ stOk s) (hR : ∀ M2 : Mem, (XR (oFeelAll s).2 M2 ∧ ∀ k, 73 ≤ k → M2 k = M k) → Ret (some (mi ((oFeelAll s).1))) M2) (hM : MOk M) (Z : KZ) (hZ : Sim cd_X6_feelAll Z Ret) : Z 0 [some (mr 0)] [] M := by
  obtain ⟨hx, hv⟩ := hp
  have hB := hx.bx hv
  have hH := hx.2.1
  have fin : ∀ r : Int × St, (oFeelAll s) = r → ∀ (x : Int) (M2 : Mem), x = r.1 → (XR r.2 M2 ∧ ∀ k, 73 ≤ k → M2 k = M k) → Ret (some (mi x)) M2 := by
    intro r q x M2 e h; subst e; subst q; exact hR M2 h
  have non : ∀ x : Int, (oFeelAll s) = (x, s) → Ret (some (mi x)) M := fun x q => fin _ q x M rfl ⟨hx, fun _ _ => rfl⟩
  have hvo := hx.vo hv
  have h240 := aEv_240 hvo (-1) (i := 0) (Int.le_refl _)
  refine w_aload hZ 0 1 rfl rfl rfl ?_
  refine w_aload hZ 1 2 rfl rfl rfl ?_
  refine w_getr hZ 2 3 rfl rfl rfl rfl rfl ?_
  refine w_const hZ 3 4 rfl rfl  ?_
  refine k_X5_write hZ 4 5 rfl rfl (Nat.le_of_ble_eq_true rfl) hvo (fun M4 p4 => ?_)
  obtain ⟨w1, w2, w3, w4⟩ := p4
  have w1' := w1.1
  refine w_puti hZ 5 6 rfl rfl rfl rfl rfl ?_
  refine w_aload hZ 6 7 rfl rfl rfl ?_
  refine w_getr hZ 7 8 rfl rfl rfl rfl rfl ?_
  refine w_getr hZ 8 9 rfl rfl rfl rfl rfl ?_
  refine w_const hZ 9 10 rfl rfl  ?_
  refine w_aload hZ 10 11 rfl rfl rfl ?_
  refine w_getr hZ 11 12 rfl rfl rfl rfl rfl ?_
  refine w_const hZ 12 13 rfl rfl  ?_
  refine w_aload hZ 13 14 rfl rfl rfl ?_
  have e7 : mup M4 0 7 ((aEv (bX M 1) (-1) 0).length : Int) 0 7 = ((aEv (bX M 1) (-1) 0).length : Int) := by simp [mup_at]
  have e11 : mup M4 0 7 ((aEv (bX M 1) (-1) 0).length : Int) 11 = M4 11 := by funext j; simp [mup_at]
  refine w_geti hZ 14 15 rfl rfl rfl rfl rfl ?_
  refine w_copy hZ 15 16 rfl rfl rfl rfl (by omega) (by omega) (by omega) (by omega) (by omega) (Nat.le_of_ble_eq_true rfl) ?_
  refine w_aload hZ 16 17 rfl rfl rfl ?_
  refine w_geti hZ 17 18 rfl rfl rfl rfl rfl ?_
  refine w_iret hZ 18 rfl ?_
  rw [hx.1] at *
  have hz := hx.feelAll (M4 := M4) (N := srow (mup M4 0 7 ((aEv (sB s) (-1) 0).length : Int)) 19 (cpyR (mup M4 0 7 ((aEv (sB s) (-1) 0).length : Int) 11) (mup M4 0 7 ((aEv (sB s) (-1) 0).length : Int) 19) (Int.toNat 0) (Int.toNat 0) (mup M4 0 7 ((aEv (sB s) (-1) 0).length : Int) 0 7).toNat)) (fun k k0 k19 hk => by rw [srow_ne _ _ k19, ← w4 k hk]; funext j; simp [mup_at, k0]) w1 (by rw [srow_ne _ _ (by omega)]; exact e7) (fun j hj => by
    rw [srow_same, e11, e7]
    unfold cpyR
    rw [if_pos ⟨Nat.zero_le _, by show j < 0 + ((aEv (sB s) (-1) 0).length : Int).toNat; have : j < (aEv (sB s) (-1) 0).length := hj; omega⟩]
    show M4 11 (0 + (j - 0)) = M4 11 j
    rw [Nat.zero_add, Nat.sub_zero])
  exact fin _ rfl _ _ hz.1.2.2.2.2.2.1 hz
set_option maxRecDepth 100000 in
set_option maxHeartbeats 4000000 in
theorem ao_X6_feelAll : AllOk yX6_feelAll.cls cX6_feelAll 1 5 120 (some .int) none pc_X6_feelAll 0 cd_X6_feelAll := ⟨s_aload_n (k := 0) (by decide +kernel) rfl rfl, ⟨s_aload_n (k := 0) (by decide +kernel) rfl rfl, ⟨s_get (C := RX6) (T := TX6) (N := 10) rfl inT6 (by decide) tw_1_201 (by decide +kernel) rfl, ⟨s_iconst (by decide +kernel) rfl ⟨by decide, by decide⟩, ⟨s_callV (C := RX5) (T := TX5) (N := 12) rfl ct_X5_write (by decide) (by decide) ⟨rfl, by decide +kernel, by decide +kernel, by decide +kernel⟩ tw_2_134 tw_2_135 tw_2_136 tw_1_4 tw_2_137 (by decide +kernel) rfl, ⟨s_puti (C := RX6) (T := TX6) (N := 10) (tyf := tyX6) rfl inT6 tyX6_ok nmX6 (by decide) rfl rfl tw_1_204 (by decide +kernel) rfl, ⟨s_aload_n (k := 0) (by decide +kernel) rfl rfl, ⟨s_get (C := RX6) (T := TX6) (N := 10) rfl inT6 (by decide) tw_1_201 (by decide +kernel) rfl, ⟨s_get (C := RX5) (T := TX5) (N := 12) rfl inT5 (by decide) tw_1_90 (by decide +kernel) rfl, ⟨s_iconst (by decide +kernel) rfl ⟨by decide, by decide⟩, ⟨s_aload_n (k := 0) (by decide +kernel) rfl rfl, ⟨s_get (C := RX6) (T := TX6) (N := 10) rfl inT6 (by decide) tw_1_203 (by decide +kernel) rfl, ⟨s_iconst (by decide +kernel) rfl ⟨by decide, by decide⟩, ⟨s_aload_n (k := 0) (by decide +kernel) rfl rfl, ⟨s_get (C := RX6) (T := TX6) (N := 10) rfl inT6 (by decide) tw_1_204 (by decide +kernel) rfl, ⟨s_copy tw_3_44 tw_2_27 tw_2_26 tw_1_9 (by decide) (by decide) (by decide +kernel) rfl, ⟨s_aload_n (k := 0) (by decide +kernel) rfl rfl, ⟨s_get (C := RX6) (T := TX6) (N := 10) rfl inT6 (by decide) tw_1_204 (by decide +kernel) rfl, ⟨s_iret rfl (by decide +kernel), trivial⟩⟩⟩⟩⟩⟩⟩⟩⟩⟩⟩⟩⟩⟩⟩⟩⟩⟩⟩
theorem ct_X6_feelAll : Ctr yX6_feelAll cX6_feelAll 1 (some .int) 5 120 sp_X6_feelAll := by
  refine ctr_of (by decide +kernel) ao_X6_feelAll rfl ?_
  rintro av M Ret ⟨s, rfl, hp, hR⟩ hok hM
  exact ⟨Nat.le_of_ble_eq_true rfl, fun Z hZ => b_X6_feelAll s  M Ret hp hR hM Z hZ⟩
def sp_X6_keep : SP := fun av M Ret => ∃ s : St, ∃ k : Int, av = [mr 0, mi k] ∧ (XR s M ∧ stOk s) ∧ (∀ M2 : Mem, (XR (oKeep s k).2 M2 ∧ ∀ k, 73 ≤ k → M2 k = M k) → Ret (some (mi ((oKeep s k).1))) M2)
theorem k_X6_keep {code : List Sem} {Z : KZ} {Ret : KR} {ls : List (Option MV)} {M : Mem} {r : List MV} (hZ : Sim code Z Ret) (ip np : Nat) {s : St} {k : Int} (hc : code[ip]? = some (I_callV 6 1 sp_X6_keep)) (hn : ip + 1 = np) (h3 : catS r ≤ 8)  (hp : XR s M ∧ stOk s) (kz : ∀ M2 : Mem, (XR (oKeep s k).2 M2 ∧ ∀ k, 73 ≤ k → M2 k = M k) → Z np ls (mi ((oKeep s k).1) :: r) M2) : Z ip ls (mi k :: mr 0 :: r) M := w_callV1 hZ ip np hc hn rfl rfl h3 ⟨_, _, rfl, hp, fun M2 h => kz M2 h⟩
def cd_X6_keep : List Sem := [I_iload 1, I_iflt 5, I_iload 1, I_const (2), I_clt 7, I_const (-1000000001), I_iret, I_aload 0, I_get 6 2, I_iload 1, I_aald, I_aload 0, I_get 6 0, I_callV 0 1 sp_X0_copyFrom, I_aload 0, I_get 6 3, I_iload 1, I_const (1), I_zast, I_aload 0, I_get 6 1, I_callV 1 0 sp_X1_forget, I_aload 0, I_get 6 0, I_get 0 4, I_iret]
def pc_X6_keep : List Nat := [0, 1, 4, 5, 6, 9, 11, 12, 13, 16, 17, 18, 19, 22, 25, 26, 29, 30, 31, 32, 33, 36, 39, 40, 43, 46]
set_option maxRecDepth 100000 in
set_option maxHeartbeats 4000000 in
theorem b_X6_keep (s : St) (k : Int) (i_k : InR k) (M : Mem) (Ret : KR) (hp : XR s M ∧ stOk s) (hR : ∀ M2 : Mem, (XR (oKeep s k).2 M2 ∧ ∀ k, 73 ≤ k → M2 k = M k) → Ret (some (mi ((oKeep s k).1))) M2) (hM : MOk M) (Z : KZ) (hZ : Sim cd_X6_keep Z Ret) : Z 0 [some (mr 0), some (mi k)] [] M := by
  obtain ⟨hx, hv⟩ := hp
  have hB := hx.bx hv
  have hH := hx.2.1
  have fin : ∀ r : Int × St, (oKeep s k) = r → ∀ (x : Int) (M2 : Mem), x = r.1 → (XR r.2 M2 ∧ ∀ k, 73 ≤ k → M2 k = M k) → Ret (some (mi x)) M2 := by
    intro r q x M2 e h; subst e; subst q; exact hR M2 h
  have non : ∀ x : Int, (oKeep s k) = (x, s) → Ret (some (mi x)) M := fun x q => fin _ q x M rfl ⟨hx, fun _ _ => rfl⟩
  refine w_iload hZ 0 1 rfl rfl rfl ?_
  refine w_iflt hZ 1 2 rfl rfl (fun c1 => ?_) (fun c1 => ?_)
  · refine w_const hZ 5 6 rfl rfl  ?_
    refine w_iret hZ 6 rfl ?_
    exact non _ (by unfold oKeep; rw [if_pos (by omega)])
  · refine w_iload hZ 2 3 rfl rfl rfl ?_
    refine w_const hZ 3 4 rfl rfl  ?_
    refine w_clt hZ 4 5 rfl rfl (fun c4 => ?_) (fun c4 => ?_)
    · refine w_aload hZ 7 8 rfl rfl rfl ?_
      refine w_getr hZ 8 9 rfl rfl rfl rfl rfl ?_
      refine w_iload hZ 9 10 rfl rfl rfl ?_
      refine w_aald2 hZ 10 11 rfl rfl rfl (by omega) (by omega) (fun c10 => ?_) (fun c10 => ?_)
      · refine w_aload hZ 11 12 rfl rfl rfl ?_
        refine w_getr hZ 12 13 rfl rfl rfl rfl rfl ?_
        refine k_X0_copyFrom hZ 13 14 rfl rfl (Nat.le_of_ble_eq_true rfl) rfl rfl ⟨by first | exact isBk_63 | exact isBk_68, isBk_1, by omega⟩ (fun M13 p13 => ?_)
        have p13b : cpB (63 + 5 * k.toNat) 1 M M13 := by rw [c10]; exact p13
        have hz := (hx.keep hv (k := k.toNat) (by omega) p13b).forget
        rw [show ((k.toNat : Nat) : Int) = k by omega] at hz
        have hzf : ∀ q, 73 ≤ q → mup (mup M13 9 k.toNat 1) 6 2 0 q = M q := fun q hq => by rw [← p13b.2.2.2.2.2.2.2.2 q (by omega)]; funext j; simp [mup_at, show ¬ q = 6 by omega, show ¬ q = 9 by omega]
        refine w_aload hZ 14 15 rfl rfl rfl ?_
        refine w_getr hZ 15 16 rfl rfl rfl rfl rfl ?_
        refine w_iload hZ 16 17 rfl rfl rfl ?_
        refine w_const hZ 17 18 rfl rfl  ?_
        refine w_zast hZ 18 19 rfl rfl rfl (by omega) (by omega) (by omega) ?_
        refine w_aload hZ 19 20 rfl rfl rfl ?_
        refine w_getr hZ 20 21 rfl rfl rfl rfl rfl ?_
        refine k_X1_forget hZ 21 22 rfl rfl (Nat.le_of_ble_eq_true rfl)  (fun M21 p21 => ?_)
        subst p21
        refine w_aload hZ 22 23 rfl rfl rfl ?_
        refine w_getr hZ 23 24 rfl rfl rfl rfl rfl ?_
        refine w_geti hZ 24 25 rfl rfl rfl rfl rfl ?_
        refine w_iret hZ 25 rfl ?_
        exact fin _ (by unfold oKeep; rw [if_neg (by omega)]) _ _ hz.r4 ⟨hz, hzf⟩
      · refine w_aload hZ 11 12 rfl rfl rfl ?_
        refine w_getr hZ 12 13 rfl rfl rfl rfl rfl ?_
        refine k_X0_copyFrom hZ 13 14 rfl rfl (Nat.le_of_ble_eq_true rfl) rfl rfl ⟨by first | exact isBk_63 | exact isBk_68, isBk_1, by omega⟩ (fun M13 p13 => ?_)
        have p13b : cpB (63 + 5 * k.toNat) 1 M M13 := by rw [c10]; exact p13
        have hz := (hx.keep hv (k := k.toNat) (by omega) p13b).forget
        rw [show ((k.toNat : Nat) : Int) = k by omega] at hz
        have hzf : ∀ q, 73 ≤ q → mup (mup M13 9 k.toNat 1) 6 2 0 q = M q := fun q hq => by rw [← p13b.2.2.2.2.2.2.2.2 q (by omega)]; funext j; simp [mup_at, show ¬ q = 6 by omega, show ¬ q = 9 by omega]
        refine w_aload hZ 14 15 rfl rfl rfl ?_
        refine w_getr hZ 15 16 rfl rfl rfl rfl rfl ?_
        refine w_iload hZ 16 17 rfl rfl rfl ?_
        refine w_const hZ 17 18 rfl rfl  ?_
        refine w_zast hZ 18 19 rfl rfl rfl (by omega) (by omega) (by omega) ?_
        refine w_aload hZ 19 20 rfl rfl rfl ?_
        refine w_getr hZ 20 21 rfl rfl rfl rfl rfl ?_
        refine k_X1_forget hZ 21 22 rfl rfl (Nat.le_of_ble_eq_true rfl)  (fun M21 p21 => ?_)
        subst p21
        refine w_aload hZ 22 23 rfl rfl rfl ?_
        refine w_getr hZ 23 24 rfl rfl rfl rfl rfl ?_
        refine w_geti hZ 24 25 rfl rfl rfl rfl rfl ?_
        refine w_iret hZ 25 rfl ?_
        exact fin _ (by unfold oKeep; rw [if_neg (by omega)]) _ _ hz.r4 ⟨hz, hzf⟩
    · refine w_const hZ 5 6 rfl rfl  ?_
      refine w_iret hZ 6 rfl ?_
      exact non _ (by unfold oKeep; rw [if_pos (by omega)])
set_option maxRecDepth 100000 in
set_option maxHeartbeats 4000000 in
theorem ao_X6_keep : AllOk yX6_keep.cls cX6_keep 2 2 47 (some .int) none pc_X6_keep 0 cd_X6_keep := ⟨s_iload_n (k := 1) (by decide +kernel) rfl rfl, ⟨s_iflt (off := (8)) (by decide +kernel) rfl rfl, ⟨s_iload_n (k := 1) (by decide +kernel) rfl rfl, ⟨s_iconst (by decide +kernel) rfl ⟨by decide, by decide⟩, ⟨s_clt (off := (6)) (by decide +kernel) rfl rfl, ⟨s_ldc (v := (-1000000001)) tw_2_43 (by decide +kernel) rfl ⟨by decide, by decide⟩ (by decide +kernel), ⟨s_iret rfl (by decide +kernel), ⟨s_aload_n (k := 0) (by decide +kernel) rfl rfl, ⟨s_get (C := RX6) (T := TX6) (N := 10) rfl inT6 (by decide) tw_1_199 (by decide +kernel) rfl, ⟨s_iload_n (k := 1) (by decide +kernel) rfl rfl, ⟨s_aald (by decide +kernel) rfl, ⟨s_aload_n (k := 0) (by decide +kernel) rfl rfl, ⟨s_get (C := RX6) (T := TX6) (N := 10) rfl inT6 (by decide) tw_1_197 (by decide +kernel) rfl, ⟨s_callV (C := RX0) (T := TX0) (N := 8) rfl ct_X0_copyFrom (by decide) (by decide) ⟨rfl, by decide +kernel, by decide +kernel, by decide +kernel⟩ tw_3_144 tw_2_22 tw_2_23 tw_1_2 tw_2_24 (by decide +kernel) rfl, ⟨s_aload_n (k := 0) (by decide +kernel) rfl rfl, ⟨s_get (C := RX6) (T := TX6) (N := 10) rfl inT6 (by decide) tw_1_200 (by decide +kernel) rfl, ⟨s_iload_n (k := 1) (by decide +kernel) rfl rfl, ⟨s_iconst (by decide +kernel) rfl ⟨by decide, by decide⟩, ⟨s_zast (by decide +kernel) rfl, ⟨s_aload_n (k := 0) (by decide +kernel) rfl rfl, ⟨s_get (C := RX6) (T := TX6) (N := 10) rfl inT6 (by decide) tw_1_198 (by decide +kernel) rfl, ⟨s_callV (C := RX1) (T := TX1) (N := 3) rfl ct_X1_forget (by decide) (by decide) ⟨rfl, by decide +kernel, by decide +kernel, by decide +kernel⟩ tw_3_145 tw_3_146 tw_3_147 tw_1_3 tw_3_148 (by decide +kernel) rfl, ⟨s_aload_n (k := 0) (by decide +kernel) rfl rfl, ⟨s_get (C := RX6) (T := TX6) (N := 10) rfl inT6 (by decide) tw_1_197 (by decide +kernel) rfl, ⟨s_get (C := RX0) (T := TX0) (N := 8) rfl inT0 (by decide) tw_1_37 (by decide +kernel) rfl, ⟨s_iret rfl (by decide +kernel), trivial⟩⟩⟩⟩⟩⟩⟩⟩⟩⟩⟩⟩⟩⟩⟩⟩⟩⟩⟩⟩⟩⟩⟩⟩⟩⟩
theorem ct_X6_keep : Ctr yX6_keep cX6_keep 2 (some .int) 2 47 sp_X6_keep := by
  refine ctr_of (by decide +kernel) ao_X6_keep rfl ?_
  rintro av M Ret ⟨s, k, rfl, hp, hR⟩ hok hM
  exact ⟨Nat.le_of_ble_eq_true rfl, fun Z hZ => b_X6_keep s k (hok _ (List.mem_of_getElem? (i := 1) rfl)) M Ret hp hR hM Z hZ⟩
def sp_X6_goBack : SP := fun av M Ret => ∃ s : St, ∃ k : Int, av = [mr 0, mi k] ∧ (XR s M ∧ stOk s) ∧ (∀ M2 : Mem, (XR (oBack s k).2 M2 ∧ ∀ k, 73 ≤ k → M2 k = M k) → Ret (some (mi ((oBack s k).1))) M2)
theorem k_X6_goBack {code : List Sem} {Z : KZ} {Ret : KR} {ls : List (Option MV)} {M : Mem} {r : List MV} (hZ : Sim code Z Ret) (ip np : Nat) {s : St} {k : Int} (hc : code[ip]? = some (I_callV 6 1 sp_X6_goBack)) (hn : ip + 1 = np) (h3 : catS r ≤ 8)  (hp : XR s M ∧ stOk s) (kz : ∀ M2 : Mem, (XR (oBack s k).2 M2 ∧ ∀ k, 73 ≤ k → M2 k = M k) → Z np ls (mi ((oBack s k).1) :: r) M2) : Z ip ls (mi k :: mr 0 :: r) M := w_callV1 hZ ip np hc hn rfl rfl h3 ⟨_, _, rfl, hp, fun M2 h => kz M2 h⟩
def cd_X6_goBack : List Sem := [I_iload 1, I_iflt 5, I_iload 1, I_const (2), I_clt 7, I_const (-1000000001), I_iret, I_aload 0, I_get 6 3, I_iload 1, I_zald, I_ifne 14, I_const (-1000000003), I_iret, I_aload 0, I_get 6 0, I_aload 0, I_get 6 2, I_iload 1, I_aald, I_callV 0 1 sp_X0_copyFrom, I_aload 0, I_get 6 1, I_callV 1 0 sp_X1_forget, I_aload 0, I_get 6 0, I_get 0 4, I_iret]
def pc_X6_goBack : List Nat := [0, 1, 4, 5, 6, 9, 11, 12, 13, 16, 17, 18, 21, 23, 24, 25, 28, 29, 32, 33, 34, 37, 38, 41, 44, 45, 48, 51]
set_option maxRecDepth 100000 in
set_option maxHeartbeats 4000000 in
theorem b_X6_goBack (s : St) (k : Int) (i_k : InR k) (M : Mem) (Ret : KR) (hp : XR s M ∧ stOk s) (hR : ∀ M2 : Mem, (XR (oBack s k).2 M2 ∧ ∀ k, 73 ≤ k → M2 k = M k) → Ret (some (mi ((oBack s k).1))) M2) (hM : MOk M) (Z : KZ) (hZ : Sim cd_X6_goBack Z Ret) : Z 0 [some (mr 0), some (mi k)] [] M := by
  obtain ⟨hx, hv⟩ := hp
  have hB := hx.bx hv
  have hH := hx.2.1
  have fin : ∀ r : Int × St, (oBack s k) = r → ∀ (x : Int) (M2 : Mem), x = r.1 → (XR r.2 M2 ∧ ∀ k, 73 ≤ k → M2 k = M k) → Ret (some (mi x)) M2 := by
    intro r q x M2 e h; subst e; subst q; exact hR M2 h
  have non : ∀ x : Int, (oBack s k) = (x, s) → Ret (some (mi x)) M := fun x q => fin _ q x M rfl ⟨hx, fun _ _ => rfl⟩
  refine w_iload hZ 0 1 rfl rfl rfl ?_
  refine w_iflt hZ 1 2 rfl rfl (fun c1 => ?_) (fun c1 => ?_)
  · refine w_const hZ 5 6 rfl rfl  ?_
    refine w_iret hZ 6 rfl ?_
    exact non _ (by unfold oBack; rw [if_pos (by omega)])
  · refine w_iload hZ 2 3 rfl rfl rfl ?_
    refine w_const hZ 3 4 rfl rfl  ?_
    refine w_clt hZ 4 5 rfl rfl (fun c4 => ?_) (fun c4 => ?_)
    · have ha := hx.2.2.2.2.1 k.toNat (by omega)
      rw [show ((k.toNat : Nat) : Int) = k by omega] at ha
      refine w_aload hZ 7 8 rfl rfl rfl ?_
      refine w_getr hZ 8 9 rfl rfl rfl rfl rfl ?_
      refine w_iload hZ 9 10 rfl rfl rfl ?_
      refine w_zald hZ 10 11 rfl rfl rfl (by omega) (by omega) ?_
      refine w_ifne hZ 11 12 rfl rfl (fun c11 => ?_) (fun c11 => ?_)
      · refine w_aload hZ 14 15 rfl rfl rfl ?_
        refine w_getr hZ 15 16 rfl rfl rfl rfl rfl ?_
        refine w_aload hZ 16 17 rfl rfl rfl ?_
        refine w_getr hZ 17 18 rfl rfl rfl rfl rfl ?_
        refine w_iload hZ 18 19 rfl rfl rfl ?_
        refine w_aald2 hZ 19 20 rfl rfl rfl (by omega) (by omega) (fun c19 => ?_) (fun c19 => ?_)
        · refine k_X0_copyFrom hZ 20 21 rfl rfl (Nat.le_of_ble_eq_true rfl) rfl rfl ⟨isBk_1, by first | exact isBk_63 | exact isBk_68, by omega⟩ (fun M20 p20 => ?_)
          have p20b : cpB 1 (63 + 5 * k.toNat) M M20 := by rw [c19]; exact p20
          have hi : sI s k = some (bX M (63 + 5 * k.toNat)) := by
            rcases ha with ⟨q, _⟩ | ⟨_, q⟩
            · exact absurd q c11
            · exact q
          have hvi := hv.2.2.2.1 k _ hi
          have hb := cpB_bX p20b hvi.lim.1 hvi.lim.2
          have hz := (hx.book (fun q hq => p20b.2.2.2.2.2.2.2.2 q (by omega)) hb).forget
          have hzf : ∀ q, 73 ≤ q → mup M20 6 2 0 q = M q := fun q hq => by rw [← p20b.2.2.2.2.2.2.2.2 q (by omega)]; funext j; simp [mup_at, show ¬ q = 6 by omega]
          refine w_aload hZ 21 22 rfl rfl rfl ?_
          refine w_getr hZ 22 23 rfl rfl rfl rfl rfl ?_
          refine k_X1_forget hZ 23 24 rfl rfl (Nat.le_of_ble_eq_true rfl)  (fun M23 p23 => ?_)
          subst p23
          refine w_aload hZ 24 25 rfl rfl rfl ?_
          refine w_getr hZ 25 26 rfl rfl rfl rfl rfl ?_
          refine w_geti hZ 26 27 rfl rfl rfl rfl rfl ?_
          refine w_iret hZ 27 rfl ?_
          exact fin _ (by unfold oBack; rw [if_neg (by omega), hi]) _ _ hz.r4 ⟨hz, hzf⟩
        · refine k_X0_copyFrom hZ 20 21 rfl rfl (Nat.le_of_ble_eq_true rfl) rfl rfl ⟨isBk_1, by first | exact isBk_63 | exact isBk_68, by omega⟩ (fun M20 p20 => ?_)
          have p20b : cpB 1 (63 + 5 * k.toNat) M M20 := by rw [c19]; exact p20
          have hi : sI s k = some (bX M (63 + 5 * k.toNat)) := by
            rcases ha with ⟨q, _⟩ | ⟨_, q⟩
            · exact absurd q c11
            · exact q
          have hvi := hv.2.2.2.1 k _ hi
          have hb := cpB_bX p20b hvi.lim.1 hvi.lim.2
          have hz := (hx.book (fun q hq => p20b.2.2.2.2.2.2.2.2 q (by omega)) hb).forget
          have hzf : ∀ q, 73 ≤ q → mup M20 6 2 0 q = M q := fun q hq => by rw [← p20b.2.2.2.2.2.2.2.2 q (by omega)]; funext j; simp [mup_at, show ¬ q = 6 by omega]
          refine w_aload hZ 21 22 rfl rfl rfl ?_
          refine w_getr hZ 22 23 rfl rfl rfl rfl rfl ?_
          refine k_X1_forget hZ 23 24 rfl rfl (Nat.le_of_ble_eq_true rfl)  (fun M23 p23 => ?_)
          subst p23
          refine w_aload hZ 24 25 rfl rfl rfl ?_
          refine w_getr hZ 25 26 rfl rfl rfl rfl rfl ?_
          refine w_geti hZ 26 27 rfl rfl rfl rfl rfl ?_
          refine w_iret hZ 27 rfl ?_
          exact fin _ (by unfold oBack; rw [if_neg (by omega), hi]) _ _ hz.r4 ⟨hz, hzf⟩
      · refine w_const hZ 12 13 rfl rfl  ?_
        refine w_iret hZ 13 rfl ?_
        exact non _ (by unfold oBack; rw [if_neg (by omega)]; rw [show sI s k = none from ha.elim (fun q => q.2) (fun q => absurd q.1 (by omega))])
    · refine w_const hZ 5 6 rfl rfl  ?_
      refine w_iret hZ 6 rfl ?_
      exact non _ (by unfold oBack; rw [if_pos (by omega)])
set_option maxRecDepth 100000 in
set_option maxHeartbeats 4000000 in
theorem ao_X6_goBack : AllOk yX6_goBack.cls cX6_goBack 2 2 47 (some .int) none pc_X6_goBack 0 cd_X6_goBack := ⟨s_iload_n (k := 1) (by decide +kernel) rfl rfl, ⟨s_iflt (off := (8)) (by decide +kernel) rfl rfl, ⟨s_iload_n (k := 1) (by decide +kernel) rfl rfl, ⟨s_iconst (by decide +kernel) rfl ⟨by decide, by decide⟩, ⟨s_clt (off := (6)) (by decide +kernel) rfl rfl, ⟨s_ldc (v := (-1000000001)) tw_2_43 (by decide +kernel) rfl ⟨by decide, by decide⟩ (by decide +kernel), ⟨s_iret rfl (by decide +kernel), ⟨s_aload_n (k := 0) (by decide +kernel) rfl rfl, ⟨s_get (C := RX6) (T := TX6) (N := 10) rfl inT6 (by decide) tw_1_200 (by decide +kernel) rfl, ⟨s_iload_n (k := 1) (by decide +kernel) rfl rfl, ⟨s_zald (by decide +kernel) rfl, ⟨s_ifne (off := (6)) (by decide +kernel) rfl rfl, ⟨s_ldc (v := (-1000000003)) tw_2_15 (by decide +kernel) rfl ⟨by decide, by decide⟩ (by decide +kernel), ⟨s_iret rfl (by decide +kernel), ⟨s_aload_n (k := 0) (by decide +kernel) rfl rfl, ⟨s_get (C := RX6) (T := TX6) (N := 10) rfl inT6 (by decide) tw_1_197 (by decide +kernel) rfl, ⟨s_aload_n (k := 0) (by decide +kernel) rfl rfl, ⟨s_get (C := RX6) (T := TX6) (N := 10) rfl inT6 (by decide) tw_1_199 (by decide +kernel) rfl, ⟨s_iload_n (k := 1) (by decide +kernel) rfl rfl, ⟨s_aald (by decide +kernel) rfl, ⟨s_callV (C := RX0) (T := TX0) (N := 8) rfl ct_X0_copyFrom (by decide) (by decide) ⟨rfl, by decide +kernel, by decide +kernel, by decide +kernel⟩ tw_3_144 tw_2_22 tw_2_23 tw_1_2 tw_2_24 (by decide +kernel) rfl, ⟨s_aload_n (k := 0) (by decide +kernel) rfl rfl, ⟨s_get (C := RX6) (T := TX6) (N := 10) rfl inT6 (by decide) tw_1_198 (by decide +kernel) rfl, ⟨s_callV (C := RX1) (T := TX1) (N := 3) rfl ct_X1_forget (by decide) (by decide) ⟨rfl, by decide +kernel, by decide +kernel, by decide +kernel⟩ tw_3_145 tw_3_146 tw_3_147 tw_1_3 tw_3_148 (by decide +kernel) rfl, ⟨s_aload_n (k := 0) (by decide +kernel) rfl rfl, ⟨s_get (C := RX6) (T := TX6) (N := 10) rfl inT6 (by decide) tw_1_197 (by decide +kernel) rfl, ⟨s_get (C := RX0) (T := TX0) (N := 8) rfl inT0 (by decide) tw_1_37 (by decide +kernel) rfl, ⟨s_iret rfl (by decide +kernel), trivial⟩⟩⟩⟩⟩⟩⟩⟩⟩⟩⟩⟩⟩⟩⟩⟩⟩⟩⟩⟩⟩⟩⟩⟩⟩⟩⟩⟩
theorem ct_X6_goBack : Ctr yX6_goBack cX6_goBack 2 (some .int) 2 47 sp_X6_goBack := by
  refine ctr_of (by decide +kernel) ao_X6_goBack rfl ?_
  rintro av M Ret ⟨s, k, rfl, hp, hR⟩ hok hM
  exact ⟨Nat.le_of_ble_eq_true rfl, fun Z hZ => b_X6_goBack s k (hok _ (List.mem_of_getElem? (i := 1) rfl)) M Ret hp hR hM Z hZ⟩
