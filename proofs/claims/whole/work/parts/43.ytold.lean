/-! THE REFERENCE: told, line -/
theorem YR.fx {s : St} {M N : Mem} (h : YR s M) (hf : FXY M N) : YR s N := h.same (fun k hk => hf.1 k (by omega) (by omega) (by omega)) (hf.2 2 (by omega)) (hf.2 16 (by omega))
theorem YR.yl {s : St} {M N : Mem} (h : YR s M) (hf : YL M N) : YR s N := h.same (fun k hk => hf.1 k (by omega) (by omega) (by omega) (by omega)) hf.2.1 hf.2.2
theorem RW_0 (V : BV) : RW V 0 = (evN V (-1)).length - wcE (evN V (-1)) + fwT V (-1) (vN V).toNat := by
  unfold RW
  rw [show fwT V (-1) (0 : Int).toNat = 0 from rfl, Int.sub_zero]
def sp_X7_linesOf : SP := fun av M Ret => av = [mr 73] ∧ (vOk (YV M)) ∧ (∀ M2 : Mem, (YL M M2 ∧ 0 ≤ lyN (lyS (YV M)) ∧ lyN (lyS (YV M)) ≤ 1000) → Ret (some (mi (lyN (lyS (YV M))))) M2)
theorem k_X7_linesOf {code : List Sem} {Z : KZ} {Ret : KR} {ls : List (Option MV)} {M : Mem} {r : List MV} (hZ : Sim code Z Ret) (ip np : Nat)  (hc : code[ip]? = some (I_callV 7 0 sp_X7_linesOf)) (hn : ip + 1 = np) (h3 : catS r ≤ 8)  (hp : vOk (YV M)) (kz : ∀ M2 : Mem, (YL M M2 ∧ 0 ≤ lyN (lyS (YV M)) ∧ lyN (lyS (YV M)) ≤ 1000) → Z np ls (mi (lyN (lyS (YV M))) :: r) M2) : Z ip ls (mr 73 :: r) M := w_callV0 hZ ip np hc hn rfl rfl h3 ⟨rfl, hp, fun M2 h => kz M2 h⟩
def cd_X7_linesOf : List Sem := [I_aload 0, I_const (-1), I_const (-1), I_callV 7 2 sp_X7_layLines, I_aload 0, I_get 7 11, I_iret]
def pc_X7_linesOf : List Nat := [0, 1, 2, 3, 6, 7, 10]
set_option maxRecDepth 100000 in
set_option maxHeartbeats 4000000 in
theorem b_X7_linesOf  (M : Mem) (Ret : KR) (hp : vOk (YV M)) (hR : ∀ M2 : Mem, (YL M M2 ∧ 0 ≤ lyN (lyS (YV M)) ∧ lyN (lyS (YV M)) ≤ 1000) → Ret (some (mi (lyN (lyS (YV M))))) M2) (hM : MOk M) (Z : KZ) (hZ : Sim cd_X7_linesOf Z Ret) : Z 0 [some (mr 73)] [] M := by
  refine w_aload hZ 0 1 rfl rfl rfl ?_
  refine w_const hZ 1 2 rfl rfl  ?_
  refine w_const hZ 2 3 rfl rfl  ?_
  refine k_X7_layLines hZ 3 4 rfl rfl (Nat.le_of_ble_eq_true rfl) hp (fun M3 p3 => ?_)
  refine w_aload hZ 4 5 rfl rfl rfl ?_
  refine w_getiv hZ 5 6 rfl rfl rfl rfl rfl (v := lyN (lyS (YV M))) p3.1 ?_
  refine w_iret hZ 6 rfl ?_
  exact hR _ p3.2.2
set_option maxRecDepth 100000 in
set_option maxHeartbeats 4000000 in
theorem ao_X7_linesOf : AllOk yX7_linesOf.cls cX7_linesOf 1 7 181 (some .int) none pc_X7_linesOf 0 cd_X7_linesOf := ⟨s_aload_n (k := 0) (by decide +kernel) rfl rfl, ⟨s_iconst (by decide +kernel) rfl ⟨by decide, by decide⟩, ⟨s_iconst (by decide +kernel) rfl ⟨by decide, by decide⟩, ⟨s_callV (C := RX7) (T := TX7) (N := 22) rfl ct_X7_layLines (by decide) (by decide) ⟨rfl, by decide +kernel, by decide +kernel, by decide +kernel⟩ tw_4_162 tw_4_164 ts_4_10 tw_1_8 tw_4_165 (by decide +kernel) rfl, ⟨s_aload_n (k := 0) (by decide +kernel) rfl rfl, ⟨s_get (C := RX7) (T := TX7) (N := 22) rfl inT7 (by decide) tw_3_170 (by decide +kernel) rfl, ⟨s_iret rfl (by decide +kernel), trivial⟩⟩⟩⟩⟩⟩⟩
theorem ct_X7_linesOf : Ctr yX7_linesOf cX7_linesOf 1 (some .int) 7 181 sp_X7_linesOf := by
  refine ctr_of (by decide +kernel) ao_X7_linesOf rfl ?_
  rintro av M Ret ⟨rfl, hp, hR⟩ hok hM
  exact ⟨Nat.le_of_ble_eq_true rfl, fun Z hZ => b_X7_linesOf   M Ret hp hR hM Z hZ⟩
def sp_X7_pagesOf : SP := fun av M Ret => av = [mr 73] ∧ (vOk (YV M)) ∧ (∀ M2 : Mem, (YL M M2) → Ret (some (mi ((lyN (lyS (YV M)) + vP (YV M) - 1) / vP (YV M)))) M2)
theorem k_X7_pagesOf {code : List Sem} {Z : KZ} {Ret : KR} {ls : List (Option MV)} {M : Mem} {r : List MV} (hZ : Sim code Z Ret) (ip np : Nat)  (hc : code[ip]? = some (I_callV 7 0 sp_X7_pagesOf)) (hn : ip + 1 = np) (h3 : catS r ≤ 8)  (hp : vOk (YV M)) (kz : ∀ M2 : Mem, (YL M M2) → Z np ls (mi ((lyN (lyS (YV M)) + vP (YV M) - 1) / vP (YV M)) :: r) M2) : Z ip ls (mr 73 :: r) M := w_callV0 hZ ip np hc hn rfl rfl h3 ⟨rfl, hp, fun M2 h => kz M2 h⟩
def cd_X7_pagesOf : List Sem := [I_aload 0, I_callV 7 0 sp_X7_linesOf, I_aload 0, I_get 7 0, I_const (38), I_iald, I_add, I_const (1), I_sub, I_aload 0, I_get 7 0, I_const (38), I_iald, I_div, I_iret]
def pc_X7_pagesOf : List Nat := [0, 1, 4, 5, 8, 10, 11, 12, 13, 14, 15, 18, 20, 21, 22]
set_option maxRecDepth 100000 in
set_option maxHeartbeats 4000000 in
theorem b_X7_pagesOf  (M : Mem) (Ret : KR) (hp : vOk (YV M)) (hR : ∀ M2 : Mem, (YL M M2) → Ret (some (mi ((lyN (lyS (YV M)) + vP (YV M) - 1) / vP (YV M)))) M2) (hM : MOk M) (Z : KZ) (hZ : Sim cd_X7_pagesOf Z Ret) : Z 0 [some (mr 73)] [] M := by
  have hP : 1 ≤ vP (YV M) ∧ vP (YV M) ≤ 20 := ⟨hp.2.2.2.2.2.2.2.2.2.2.2.1, hp.2.2.2.2.2.2.2.2.2.2.2.2⟩
  refine w_aload hZ 0 1 rfl rfl rfl ?_
  refine k_X7_linesOf hZ 1 2 rfl rfl (Nat.le_of_ble_eq_true rfl) hp (fun M1 p1 => ?_)
  have e38 : M1 74 38 = vP (YV M) := by rw [p1.1.1 74 (by omega) (by omega) (by omega) (by omega)]; rfl
  have hb1 := p1.2.1
  have hb2 := p1.2.2
  refine w_aload hZ 2 3 rfl rfl rfl ?_
  refine w_getr hZ 3 4 rfl rfl rfl rfl rfl ?_
  refine w_const hZ 4 5 rfl rfl  ?_
  refine w_ialdv hZ 5 6 rfl rfl rfl (by omega) (by omega) (v := vP (YV M)) e38 ?_
  refine w_add hZ 6 7 rfl rfl (by unfold InR; omega) ?_
  refine w_const hZ 7 8 rfl rfl  ?_
  refine w_sub hZ 8 9 rfl rfl (by unfold InR; omega) ?_
  refine w_aload hZ 9 10 rfl rfl rfl ?_
  refine w_getr hZ 10 11 rfl rfl rfl rfl rfl ?_
  refine w_const hZ 11 12 rfl rfl  ?_
  refine w_ialdv hZ 12 13 rfl rfl rfl (by omega) (by omega) (v := vP (YV M)) e38 ?_
  refine w_div hZ 13 14 rfl rfl (by omega) (by omega) ?_
  refine w_iret hZ 14 rfl ?_
  exact hR _ p1.1
set_option maxRecDepth 100000 in
set_option maxHeartbeats 4000000 in
theorem ao_X7_pagesOf : AllOk yX7_pagesOf.cls cX7_pagesOf 1 8 201 (some .int) none pc_X7_pagesOf 0 cd_X7_pagesOf := ⟨s_aload_n (k := 0) (by decide +kernel) rfl rfl, ⟨s_callV (C := RX7) (T := TX7) (N := 22) rfl ct_X7_linesOf (by decide) (by decide) ⟨rfl, by decide +kernel, by decide +kernel, by decide +kernel⟩ tw_4_158 tw_4_160 ts_4_9 tw_1_8 tw_4_161 (by decide +kernel) rfl, ⟨s_aload_n (k := 0) (by decide +kernel) rfl rfl, ⟨s_get (C := RX7) (T := TX7) (N := 22) rfl inT7 (by decide) tw_3_159 (by decide +kernel) rfl, ⟨s_bipush (by decide +kernel) rfl ⟨by decide, by decide⟩ (by decide +kernel), ⟨s_iald (by decide +kernel) rfl, ⟨s_add (by decide +kernel) rfl, ⟨s_iconst (by decide +kernel) rfl ⟨by decide, by decide⟩, ⟨s_sub (by decide +kernel) rfl, ⟨s_aload_n (k := 0) (by decide +kernel) rfl rfl, ⟨s_get (C := RX7) (T := TX7) (N := 22) rfl inT7 (by decide) tw_3_159 (by decide +kernel) rfl, ⟨s_bipush (by decide +kernel) rfl ⟨by decide, by decide⟩ (by decide +kernel), ⟨s_iald (by decide +kernel) rfl, ⟨s_div (by decide +kernel) rfl, ⟨s_iret rfl (by decide +kernel), trivial⟩⟩⟩⟩⟩⟩⟩⟩⟩⟩⟩⟩⟩⟩⟩
theorem ct_X7_pagesOf : Ctr yX7_pagesOf cX7_pagesOf 1 (some .int) 8 201 sp_X7_pagesOf := by
  refine ctr_of (by decide +kernel) ao_X7_pagesOf rfl ?_
  rintro av M Ret ⟨rfl, hp, hR⟩ hok hM
  exact ⟨Nat.le_of_ble_eq_true rfl, fun Z hZ => b_X7_pagesOf   M Ret hp hR hM Z hZ⟩
def sp_X7_told : SP := fun av M Ret => ∃ s : St, ∃ w : Int, av = [mr 73, mi w] ∧ (YR s M ∧ stOk s) ∧ (∀ M2 : Mem, (YR s M2 ∧ ∀ k, k < 73 → M2 k = M k) → Ret (some (mi (rTold s w))) M2)
theorem k_X7_told {code : List Sem} {Z : KZ} {Ret : KR} {ls : List (Option MV)} {M : Mem} {r : List MV} (hZ : Sim code Z Ret) (ip np : Nat) {s : St} {w : Int} (hc : code[ip]? = some (I_callV 7 1 sp_X7_told)) (hn : ip + 1 = np) (h3 : catS r ≤ 8)  (hp : YR s M ∧ stOk s) (kz : ∀ M2 : Mem, (YR s M2 ∧ ∀ k, k < 73 → M2 k = M k) → Z np ls (mi (rTold s w) :: r) M2) : Z ip ls (mi w :: mr 73 :: r) M := w_callV1 hZ ip np hc hn rfl rfl h3 ⟨_, _, rfl, hp, fun M2 h => kz M2 h⟩
def cd_X7_told : List Sem := [I_iload 1, I_tsw (0) [2, 7, 12, 17, 22, 25, 28, 31, 34, 37, 40] 43, I_aload 0, I_get 7 0, I_const (0), I_iald, I_iret, I_aload 0, I_get 7 0, I_const (37), I_iald, I_iret, I_aload 0, I_get 7 0, I_const (38), I_iald, I_iret, I_aload 0, I_get 7 0, I_const (39), I_iald, I_iret, I_aload 0, I_callV 7 0 sp_X7_words, I_iret, I_aload 0, I_callV 7 0 sp_X7_cellsOf, I_iret, I_aload 0, I_callV 7 0 sp_X7_fewest, I_iret, I_aload 0, I_callV 7 0 sp_X7_linesOf, I_iret, I_aload 0, I_callV 7 0 sp_X7_pagesOf, I_iret, I_aload 0, I_get 7 16, I_iret, I_aload 0, I_get 7 2, I_iret, I_const (-1000000002), I_iret]
def pc_X7_told : List Nat := [0, 1, 60, 61, 64, 65, 66, 67, 68, 71, 73, 74, 75, 76, 79, 81, 82, 83, 84, 87, 89, 90, 91, 92, 95, 96, 97, 100, 101, 102, 105, 106, 107, 110, 111, 112, 115, 116, 117, 120, 121, 122, 125, 126, 128]
set_option maxRecDepth 100000 in
set_option maxHeartbeats 4000000 in
theorem b_X7_told (s : St) (w : Int) (i_w : InR w) (M : Mem) (Ret : KR) (hp : YR s M ∧ stOk s) (hR : ∀ M2 : Mem, (YR s M2 ∧ ∀ k, k < 73 → M2 k = M k) → Ret (some (mi (rTold s w))) M2) (hM : MOk M) (Z : KZ) (hZ : Sim cd_X7_told Z Ret) : Z 0 [some (mr 73), some (mi w)] [] M := by
  obtain ⟨hx, hv⟩ := hp
  have hB := hx.yb hv
  have hvo := hx.vo hv
  have h240 : (evN (sB s) (-1)).length ≤ 240 := aEv_240 hv.1 (-1) (i := 0) (Int.le_refl _)
  have h241 : (aEv (sB s) (-1) 0).length ≤ 240 := h240
  have fin : ∀ (x : Int) (M2 : Mem), rTold s w = x → YR s M2 → (∀ k, k < 73 → M2 k = M k) → Ret (some (mi x)) M2 := by
    intro x M2 e h h2; subst e; exact hR M2 ⟨h, h2⟩
  have non : ∀ x : Int, rTold s w = x → Ret (some (mi x)) M := fun x q => fin x M q hx (fun _ _ => rfl)
  refine w_iload hZ 0 1 rfl rfl rfl ?_
  refine w_tsw11 hZ 1 rfl (fun c1 => ?_) (fun c1 => ?_) (fun c1 => ?_) (fun c1 => ?_) (fun c1 => ?_) (fun c1 => ?_) (fun c1 => ?_) (fun c1 => ?_) (fun c1 => ?_) (fun c1 => ?_) (fun c1 => ?_) (fun c1 => ?_)
  · refine w_aload hZ 2 3 rfl rfl rfl ?_
    refine w_getr hZ 3 4 rfl rfl rfl rfl rfl ?_
    refine w_const hZ 4 5 rfl rfl  ?_
    refine w_ialdv hZ 5 6 rfl rfl rfl (by omega) (by omega) (v := vR (sB s)) hx.r0 ?_
    refine w_iret hZ 6 rfl ?_
    exact non _ (by unfold rTold; rw [if_pos (by omega)])
  · refine w_aload hZ 7 8 rfl rfl rfl ?_
    refine w_getr hZ 8 9 rfl rfl rfl rfl rfl ?_
    refine w_const hZ 9 10 rfl rfl  ?_
    refine w_ialdv hZ 10 11 rfl rfl rfl (by omega) (by omega) (v := vW (sB s)) hx.r37 ?_
    refine w_iret hZ 11 rfl ?_
    exact non _ (by unfold rTold; rw [if_neg (by omega), if_pos (by omega)])
  · refine w_aload hZ 12 13 rfl rfl rfl ?_
    refine w_getr hZ 13 14 rfl rfl rfl rfl rfl ?_
    refine w_const hZ 14 15 rfl rfl  ?_
    refine w_ialdv hZ 15 16 rfl rfl rfl (by omega) (by omega) (v := vP (sB s)) hx.r38 ?_
    refine w_iret hZ 16 rfl ?_
    exact non _ (by unfold rTold; rw [if_neg (by omega), if_neg (by omega), if_pos (by omega)])
  · refine w_aload hZ 17 18 rfl rfl rfl ?_
    refine w_getr hZ 18 19 rfl rfl rfl rfl rfl ?_
    refine w_const hZ 19 20 rfl rfl  ?_
    refine w_ialdv hZ 20 21 rfl rfl rfl (by omega) (by omega) (v := vN (sB s)) hx.r39 ?_
    refine w_iret hZ 21 rfl ?_
    exact non _ (by unfold rTold; rw [if_neg (by omega), if_neg (by omega), if_neg (by omega), if_pos (by omega)])
  · refine w_aload hZ 22 23 rfl rfl rfl ?_
    refine k_X7_words hZ 23 24 rfl rfl (Nat.le_of_ble_eq_true rfl) hvo ?_
    refine w_iret hZ 24 rfl ?_
    rw [hx.1]
    exact non _ (by unfold rTold; rw [if_neg (by omega), if_neg (by omega), if_neg (by omega), if_neg (by omega), if_pos (by omega)])
  · refine w_aload hZ 25 26 rfl rfl rfl ?_
    refine k_X7_cellsOf hZ 26 27 rfl rfl (Nat.le_of_ble_eq_true rfl) hvo (fun M26 p26 => ?_)
    refine w_iret hZ 27 rfl ?_
    rw [hx.1]
    exact fin _ _ (by unfold rTold; rw [if_neg (by omega), if_neg (by omega), if_neg (by omega), if_neg (by omega), if_neg (by omega), if_pos (by omega)]) (hx.fw p26) (fun k hk => p26.1 k (by omega) (by omega) (by omega) (by omega))
  · refine w_aload hZ 28 29 rfl rfl rfl ?_
    refine k_X7_fewest hZ 29 30 rfl rfl (Nat.le_of_ble_eq_true rfl) hvo (fun M29 p29 => ?_)
    refine w_iret hZ 30 rfl ?_
    rw [hx.1, RW_0]
    exact fin _ _ (by unfold rTold; rw [if_neg (by omega), if_neg (by omega), if_neg (by omega), if_neg (by omega), if_neg (by omega), if_neg (by omega), if_pos (by omega)]) (hx.fx p29) (fun k hk => p29.1 k (by omega) (by omega) (by omega))
  · refine w_aload hZ 31 32 rfl rfl rfl ?_
    refine k_X7_linesOf hZ 32 33 rfl rfl (Nat.le_of_ble_eq_true rfl) hvo (fun M32 p32 => ?_)
    refine w_iret hZ 33 rfl ?_
    rw [hx.1]
    exact fin _ _ (by unfold rTold; rw [if_neg (by omega), if_neg (by omega), if_neg (by omega), if_neg (by omega), if_neg (by omega), if_neg (by omega), if_neg (by omega), if_pos (by omega)]) (hx.yl p32.1) (fun k hk => p32.1.1 k (by omega) (by omega) (by omega) (by omega))
  · refine w_aload hZ 34 35 rfl rfl rfl ?_
    refine k_X7_pagesOf hZ 35 36 rfl rfl (Nat.le_of_ble_eq_true rfl) hvo (fun M35 p35 => ?_)
    refine w_iret hZ 36 rfl ?_
    rw [hx.1]
    exact fin _ _ (by unfold rTold; rw [if_neg (by omega), if_neg (by omega), if_neg (by omega), if_neg (by omega), if_neg (by omega), if_neg (by omega), if_neg (by omega), if_neg (by omega), if_pos (by omega)]) (hx.yl p35) (fun k hk => p35.1 k (by omega) (by omega) (by omega) (by omega))
  · refine w_aload hZ 37 38 rfl rfl rfl ?_
    refine w_getiv hZ 38 39 rfl rfl rfl rfl rfl (v := sC s) hx.2.2.2.2.1 ?_
    refine w_iret hZ 39 rfl ?_
    exact non _ (by unfold rTold; rw [if_neg (by omega), if_neg (by omega), if_neg (by omega), if_neg (by omega), if_neg (by omega), if_neg (by omega), if_neg (by omega), if_neg (by omega), if_neg (by omega), if_pos (by omega)])
  · refine w_aload hZ 40 41 rfl rfl rfl ?_
    refine w_getiv hZ 41 42 rfl rfl rfl rfl rfl (v := ((sH s).length : Int)) hx.2.1 ?_
    refine w_iret hZ 42 rfl ?_
    exact non _ (by unfold rTold; rw [if_neg (by omega), if_neg (by omega), if_neg (by omega), if_neg (by omega), if_neg (by omega), if_neg (by omega), if_neg (by omega), if_neg (by omega), if_neg (by omega), if_neg (by omega), if_pos (by omega)])
  · refine w_const hZ 43 44 rfl rfl  ?_
    refine w_iret hZ 44 rfl ?_
    exact non _ (by unfold rTold; rw [if_neg (by omega), if_neg (by omega), if_neg (by omega), if_neg (by omega), if_neg (by omega), if_neg (by omega), if_neg (by omega), if_neg (by omega), if_neg (by omega), if_neg (by omega), if_neg (by omega)])
set_option maxRecDepth 100000 in
set_option maxHeartbeats 4000000 in
theorem ao_X7_told : AllOk yX7_told.cls cX7_told 2 9 221 (some .int) none pc_X7_told 0 cd_X7_told := ⟨s_iload_n (k := 1) (by decide +kernel) rfl rfl, ⟨s_tsw (dfl := 125) (hi0 := 10) (offs := #[59, 66, 74, 82, 90, 95, 100, 105, 110, 115, 120]) (len := 59) (by decide +kernel) rfl rfl rfl, ⟨s_aload_n (k := 0) (by decide +kernel) rfl rfl, ⟨s_get (C := RX7) (T := TX7) (N := 22) rfl inT7 (by decide) tw_3_159 (by decide +kernel) rfl, ⟨s_iconst (by decide +kernel) rfl ⟨by decide, by decide⟩, ⟨s_iald (by decide +kernel) rfl, ⟨s_iret rfl (by decide +kernel), ⟨s_aload_n (k := 0) (by decide +kernel) rfl rfl, ⟨s_get (C := RX7) (T := TX7) (N := 22) rfl inT7 (by decide) tw_3_159 (by decide +kernel) rfl, ⟨s_bipush (by decide +kernel) rfl ⟨by decide, by decide⟩ (by decide +kernel), ⟨s_iald (by decide +kernel) rfl, ⟨s_iret rfl (by decide +kernel), ⟨s_aload_n (k := 0) (by decide +kernel) rfl rfl, ⟨s_get (C := RX7) (T := TX7) (N := 22) rfl inT7 (by decide) tw_3_159 (by decide +kernel) rfl, ⟨s_bipush (by decide +kernel) rfl ⟨by decide, by decide⟩ (by decide +kernel), ⟨s_iald (by decide +kernel) rfl, ⟨s_iret rfl (by decide +kernel), ⟨s_aload_n (k := 0) (by decide +kernel) rfl rfl, ⟨s_get (C := RX7) (T := TX7) (N := 22) rfl inT7 (by decide) tw_3_159 (by decide +kernel) rfl, ⟨s_bipush (by decide +kernel) rfl ⟨by decide, by decide⟩ (by decide +kernel), ⟨s_iald (by decide +kernel) rfl, ⟨s_iret rfl (by decide +kernel), ⟨s_aload_n (k := 0) (by decide +kernel) rfl rfl, ⟨s_callV (C := RX7) (T := TX7) (N := 22) rfl ct_X7_words (by decide) (by decide) ⟨rfl, by decide +kernel, by decide +kernel, by decide +kernel⟩ tw_4_86 tw_4_88 ts_3_8 tw_1_8 tw_4_89 (by decide +kernel) rfl, ⟨s_iret rfl (by decide +kernel), ⟨s_aload_n (k := 0) (by decide +kernel) rfl rfl, ⟨s_callV (C := RX7) (T := TX7) (N := 22) rfl ct_X7_cellsOf (by decide) (by decide) ⟨rfl, by decide +kernel, by decide +kernel, by decide +kernel⟩ tw_4_98 tw_4_100 ts_3_11 tw_1_8 tw_4_101 (by decide +kernel) rfl, ⟨s_iret rfl (by decide +kernel), ⟨s_aload_n (k := 0) (by decide +kernel) rfl rfl, ⟨s_callV (C := RX7) (T := TX7) (N := 22) rfl ct_X7_fewest (by decide) (by decide) ⟨rfl, by decide +kernel, by decide +kernel, by decide +kernel⟩ tw_4_150 tw_4_152 ts_4_7 tw_1_8 tw_4_153 (by decide +kernel) rfl, ⟨s_iret rfl (by decide +kernel), ⟨s_aload_n (k := 0) (by decide +kernel) rfl rfl, ⟨s_callV (C := RX7) (T := TX7) (N := 22) rfl ct_X7_linesOf (by decide) (by decide) ⟨rfl, by decide +kernel, by decide +kernel, by decide +kernel⟩ tw_4_158 tw_4_160 ts_4_9 tw_1_8 tw_4_161 (by decide +kernel) rfl, ⟨s_iret rfl (by decide +kernel), ⟨s_aload_n (k := 0) (by decide +kernel) rfl rfl, ⟨s_callV (C := RX7) (T := TX7) (N := 22) rfl ct_X7_pagesOf (by decide) (by decide) ⟨rfl, by decide +kernel, by decide +kernel, by decide +kernel⟩ tw_4_170 tw_4_172 ts_4_12 tw_1_8 tw_4_173 (by decide +kernel) rfl, ⟨s_iret rfl (by decide +kernel), ⟨s_aload_n (k := 0) (by decide +kernel) rfl rfl, ⟨s_get (C := RX7) (T := TX7) (N := 22) rfl inT7 (by decide) tw_3_175 (by decide +kernel) rfl, ⟨s_iret rfl (by decide +kernel), ⟨s_aload_n (k := 0) (by decide +kernel) rfl rfl, ⟨s_get (C := RX7) (T := TX7) (N := 22) rfl inT7 (by decide) tw_3_161 (by decide +kernel) rfl, ⟨s_iret rfl (by decide +kernel), ⟨s_ldc (v := (-1000000002)) tw_4_7 (by decide +kernel) rfl ⟨by decide, by decide⟩ (by decide +kernel), ⟨s_iret rfl (by decide +kernel), trivial⟩⟩⟩⟩⟩⟩⟩⟩⟩⟩⟩⟩⟩⟩⟩⟩⟩⟩⟩⟩⟩⟩⟩⟩⟩⟩⟩⟩⟩⟩⟩⟩⟩⟩⟩⟩⟩⟩⟩⟩⟩⟩⟩⟩⟩
theorem ct_X7_told : Ctr yX7_told cX7_told 2 (some .int) 9 221 sp_X7_told := by
  refine ctr_of (by decide +kernel) ao_X7_told rfl ?_
  rintro av M Ret ⟨s, w, rfl, hp, hR⟩ hok hM
  exact ⟨Nat.le_of_ble_eq_true rfl, fun Z hZ => b_X7_told s w (hok _ (List.mem_of_getElem? (i := 1) rfl)) M Ret hp hR hM Z hZ⟩
def sp_X7_line : SP := fun av M Ret => ∃ s : St, ∃ l : Int, ∃ i : Int, av = [mr 73, mi l, mi i] ∧ (YR s M ∧ stOk s) ∧ (∀ M2 : Mem, (YR s M2 ∧ ∀ k, k < 73 → M2 k = M k) → Ret (some (mi (rLine s l i))) M2)
theorem k_X7_line {code : List Sem} {Z : KZ} {Ret : KR} {ls : List (Option MV)} {M : Mem} {r : List MV} (hZ : Sim code Z Ret) (ip np : Nat) {s : St} {l i : Int} (hc : code[ip]? = some (I_callV 7 2 sp_X7_line)) (hn : ip + 1 = np) (h3 : catS r ≤ 8)  (hp : YR s M ∧ stOk s) (kz : ∀ M2 : Mem, (YR s M2 ∧ ∀ k, k < 73 → M2 k = M k) → Z np ls (mi (rLine s l i) :: r) M2) : Z ip ls (mi i :: mi l :: mr 73 :: r) M := w_callV2 hZ ip np hc hn rfl rfl h3 ⟨_, _, _, rfl, hp, fun M2 h => kz M2 h⟩
def cd_X7_line : List Sem := [I_iload 1, I_iflt 4, I_iload 2, I_ifge 6, I_const (-1000000002), I_iret, I_aload 0, I_iload 1, I_iload 2, I_callV 7 2 sp_X7_layLines, I_aload 0, I_get 7 14, I_iret]
def pc_X7_line : List Nat := [0, 1, 4, 5, 8, 10, 11, 12, 13, 14, 17, 18, 21]
set_option maxRecDepth 100000 in
set_option maxHeartbeats 4000000 in
theorem b_X7_line (s : St) (l : Int) (i_l : InR l) (i : Int) (i_i : InR i) (M : Mem) (Ret : KR) (hp : YR s M ∧ stOk s) (hR : ∀ M2 : Mem, (YR s M2 ∧ ∀ k, k < 73 → M2 k = M k) → Ret (some (mi (rLine s l i))) M2) (hM : MOk M) (Z : KZ) (hZ : Sim cd_X7_line Z Ret) : Z 0 [some (mr 73), some (mi l), some (mi i)] [] M := by
  obtain ⟨hx, hv⟩ := hp
  have hB := hx.yb hv
  have hvo := hx.vo hv
  have h240 : (evN (sB s) (-1)).length ≤ 240 := aEv_240 hv.1 (-1) (i := 0) (Int.le_refl _)
  have h241 : (aEv (sB s) (-1) 0).length ≤ 240 := h240
  have fin : ∀ (x : Int) (M2 : Mem), rLine s l i = x → YR s M2 → (∀ k, k < 73 → M2 k = M k) → Ret (some (mi x)) M2 := by
    intro x M2 e h h2; subst e; exact hR M2 ⟨h, h2⟩
  have non : ∀ x : Int, rLine s l i = x → Ret (some (mi x)) M := fun x q => fin x M q hx (fun _ _ => rfl)
  refine w_iload hZ 0 1 rfl rfl rfl ?_
  refine w_iflt hZ 1 2 rfl rfl (fun c1 => ?_) (fun c1 => ?_)
  · refine w_const hZ 4 5 rfl rfl  ?_
    refine w_iret hZ 5 rfl ?_
    exact non _ (by unfold rLine; rw [if_pos (by omega)])
  · refine w_iload hZ 2 3 rfl rfl rfl ?_
    refine w_ifge hZ 3 4 rfl rfl (fun c3 => ?_) (fun c3 => ?_)
    · refine w_aload hZ 6 7 rfl rfl rfl ?_
      refine w_iload hZ 7 8 rfl rfl rfl ?_
      refine w_iload hZ 8 9 rfl rfl rfl ?_
      refine k_X7_layLines hZ 9 10 rfl rfl (Nat.le_of_ble_eq_true rfl) hvo (fun M9 p9 => ?_)
      refine w_aload hZ 10 11 rfl rfl rfl ?_
      refine w_geti hZ 11 12 rfl rfl rfl rfl rfl ?_
      refine w_iret hZ 12 rfl ?_
      rw [hx.1] at p9
      rw [p9.2.1 (by omega) (by omega)]
      exact fin _ _ (by unfold rLine; rw [if_neg (by omega)]) (hx.yl p9.2.2.1) (fun k hk => p9.2.2.1.1 k (by omega) (by omega) (by omega) (by omega))
    · refine w_const hZ 4 5 rfl rfl  ?_
      refine w_iret hZ 5 rfl ?_
      exact non _ (by unfold rLine; rw [if_pos (by omega)])
set_option maxRecDepth 100000 in
set_option maxHeartbeats 4000000 in
theorem ao_X7_line : AllOk yX7_line.cls cX7_line 3 7 181 (some .int) none pc_X7_line 0 cd_X7_line := ⟨s_iload_n (k := 1) (by decide +kernel) rfl rfl, ⟨s_iflt (off := (7)) (by decide +kernel) rfl rfl, ⟨s_iload_n (k := 2) (by decide +kernel) rfl rfl, ⟨s_ifge (off := (6)) (by decide +kernel) rfl rfl, ⟨s_ldc (v := (-1000000002)) tw_4_7 (by decide +kernel) rfl ⟨by decide, by decide⟩ (by decide +kernel), ⟨s_iret rfl (by decide +kernel), ⟨s_aload_n (k := 0) (by decide +kernel) rfl rfl, ⟨s_iload_n (k := 1) (by decide +kernel) rfl rfl, ⟨s_iload_n (k := 2) (by decide +kernel) rfl rfl, ⟨s_callV (C := RX7) (T := TX7) (N := 22) rfl ct_X7_layLines (by decide) (by decide) ⟨rfl, by decide +kernel, by decide +kernel, by decide +kernel⟩ tw_4_162 tw_4_164 ts_4_10 tw_1_8 tw_4_165 (by decide +kernel) rfl, ⟨s_aload_n (k := 0) (by decide +kernel) rfl rfl, ⟨s_get (C := RX7) (T := TX7) (N := 22) rfl inT7 (by decide) tw_3_173 (by decide +kernel) rfl, ⟨s_iret rfl (by decide +kernel), trivial⟩⟩⟩⟩⟩⟩⟩⟩⟩⟩⟩⟩⟩
theorem ct_X7_line : Ctr yX7_line cX7_line 3 (some .int) 7 181 sp_X7_line := by
  refine ctr_of (by decide +kernel) ao_X7_line rfl ?_
  rintro av M Ret ⟨s, l, i, rfl, hp, hR⟩ hok hM
  exact ⟨Nat.le_of_ble_eq_true rfl, fun Z hZ => b_X7_line s l (hok _ (List.mem_of_getElem? (i := 1) rfl)) i (hok _ (List.mem_of_getElem? (i := 2) rfl)) M Ret hp hR hM Z hZ⟩
