/-! THE CLASS: what is asked -/
theorem XR.wr {s : St} {M M2 : Mem} (h : XR s M) (e : ∀ k, k < 10 ∨ 14 < k → M2 k = M k) : XR s M2 := h.same (fun k hk => e k (by omega))
theorem lyN_le {w : Int} {s : LST} (h : sOk w s) (h2 : lnS s ≤ 240) : 0 ≤ lyN s ∧ lyN s ≤ 241 := by
  match s, h, h2 with
  | none, _, _ => exact ⟨by show (0 : Int) ≤ 0; omega, by show (0 : Int) ≤ 241; omega⟩
  | some (A, L), h, h2 =>
    have hf := len_flat A (fun q hq => (h.1.1 q hq).1)
    have h3 : (A.flatten.length : Int) + L.length ≤ 240 := h2
    show 0 ≤ (A.length : Int) + 1 ∧ (A.length : Int) + 1 ≤ 241
    omega
theorem wcE_b (D : List Ev) : 0 ≤ wcE D ∧ wcE D ≤ D.length := by
  unfold wcE
  have := List.length_filter_le (fun e : Ev => e.2.2.2 == 1) D
  omega
theorem stp_kind (V : BV) (F : Int → Int) (m i fe : Int) : 0 ≤ (stp V F m i fe).1 ∧ (stp V F m i fe).1 ≤ 2 := by
  have hf : ∀ c, 0 ≤ fk V c ∧ fk V c ≤ 2 := fun c => by unfold fk; split <;> omega
  unfold stp
  repeat' split
  all_goals first
    | exact hf _
    | (simp only; omega)
theorem rdF_kind (V : BV) (F : Int → Int) (m : Int) : ∀ (k : Nat) (i fe : Int), 0 ≤ (rdF V F m k i fe).1 ∧ (rdF V F m k i fe).1 ≤ 2
  | 0, _, _ => ⟨Int.le_refl _, by show (0 : Int) ≤ 2; omega⟩
  | k + 1, i, fe => by
    unfold rdF
    split
    · exact ⟨by show (0 : Int) ≤ 0; omega, by show (0 : Int) ≤ 2; omega⟩
    · split
      · exact stp_kind V F m i fe
      · exact rdF_kind V F m k _ _
theorem rd_kind (V : BV) (F : Int → Int) (m i fe : Int) : 0 ≤ (rd V F m i fe).1 ∧ (rd V F m i fe).1 ≤ 2 := rdF_kind V F m _ i fe
def sp_X6_layLines : SP := fun av M Ret => ∃ s : St, av = [mr 0] ∧ (XR s M ∧ stOk s) ∧ (∀ M2 : Mem, (XR s M2 ∧ (∀ k, 73 ≤ k → M2 k = M k) ∧ LXs (vW (sB s)) (lyS (sB s)) M2 ∧ sOk (vW (sB s)) (lyS (sB s)) ∧ lnS (lyS (sB s)) ≤ 240) → Ret (some (mi (lyN (lyS (sB s))))) M2)
theorem k_X6_layLines {code : List Sem} {Z : KZ} {Ret : KR} {ls : List (Option MV)} {M : Mem} {r : List MV} (hZ : Sim code Z Ret) (ip np : Nat) {s : St}  (hc : code[ip]? = some (I_callV 6 0 sp_X6_layLines)) (hn : ip + 1 = np) (h3 : catS r ≤ 8)  (hp : XR s M ∧ stOk s) (kz : ∀ M2 : Mem, (XR s M2 ∧ (∀ k, 73 ≤ k → M2 k = M k) ∧ LXs (vW (sB s)) (lyS (sB s)) M2 ∧ sOk (vW (sB s)) (lyS (sB s)) ∧ lnS (lyS (sB s)) ≤ 240) → Z np ls (mi (lyN (lyS (sB s))) :: r) M2) : Z ip ls (mr 0 :: r) M := w_callV0 hZ ip np hc hn rfl rfl h3 ⟨_, rfl, hp, fun M2 h => kz M2 h⟩
def cd_X6_layLines : List Sem := [I_aload 0, I_get 6 4, I_const (-1), I_callV 5 1 sp_X5_write, I_istore 1, I_aload 0, I_get 6 5, I_aload 0, I_get 6 4, I_get 5 0, I_iload 1, I_aload 0, I_get 6 0, I_get 0 6, I_callV 2 3 sp_X2_lay, I_iret]
def pc_X6_layLines : List Nat := [0, 1, 4, 5, 8, 9, 10, 13, 14, 17, 20, 21, 22, 25, 28, 31]
set_option maxRecDepth 100000 in
set_option maxHeartbeats 4000000 in
theorem b_X6_layLines (s : St)  (M : Mem) (Ret : KR) (hp : XR s M ∧ stOk s) (hR : ∀ M2 : Mem, (XR s M2 ∧ (∀ k, 73 ≤ k → M2 k = M k) ∧ LXs (vW (sB s)) (lyS (sB s)) M2 ∧ sOk (vW (sB s)) (lyS (sB s)) ∧ lnS (lyS (sB s)) ≤ 240) → Ret (some (mi (lyN (lyS (sB s))))) M2) (hM : MOk M) (Z : KZ) (hZ : Sim cd_X6_layLines Z Ret) : Z 0 [some (mr 0), none] [] M := by
  obtain ⟨hx, hv⟩ := hp
  have hB := hx.bx hv
  have hvo := hx.vo hv
  have h240 : (evN (sB s) (-1)).length ≤ 240 := aEv_240 hv.1 (-1) (i := 0) (Int.le_refl _)
  have h241 : (aEv (sB s) (-1) 0).length ≤ 240 := h240
  have hw := hv.1.2.2.2.2.2.2.2.2.2
  refine w_aload hZ 0 1 rfl rfl rfl ?_
  refine w_getr hZ 1 2 rfl rfl rfl rfl rfl ?_
  refine w_const hZ 2 3 rfl rfl  ?_
  refine k_X5_write hZ 3 4 rfl rfl (Nat.le_of_ble_eq_true rfl) hvo (fun M3 p3 => ?_)
  rw [hx.1] at p3 ⊢
  obtain ⟨w1, w2, w3, w4⟩ := p3
  have hx3 := hx.wr w4
  refine w_st2_1 hZ 4 5 rfl rfl rfl ?_
  refine w_aload hZ 5 6 rfl rfl rfl ?_
  refine w_getr hZ 6 7 rfl rfl rfl rfl rfl ?_
  refine w_aload hZ 7 8 rfl rfl rfl ?_
  refine w_getr hZ 8 9 rfl rfl rfl rfl rfl ?_
  refine w_getr hZ 9 10 rfl rfl rfl rfl rfl ?_
  refine w_iload hZ 10 11 rfl rfl rfl ?_
  refine w_aload hZ 11 12 rfl rfl rfl ?_
  refine w_getr hZ 12 13 rfl rfl rfl rfl rfl ?_
  refine w_getiv hZ 13 14 rfl rfl rfl rfl rfl (v := vW (sB s)) hx3.r6 ?_
  refine k_X2_lay hZ 14 15 rfl rfl (Nat.le_of_ble_eq_true rfl) ⟨by omega, by omega, by omega, by omega⟩ (fun M14 p14 => ?_)
  refine w_iret hZ 15 rfl ?_
  rw [w1.sg] at p14 ⊢
  obtain ⟨q1, q2, q3, q4⟩ := p14
  exact hR _ ⟨hx3.same (fun k hk => q4 k (by omega)), fun k hk => by rw [q4 k (by omega), w4 k (by omega)], q1, q2, q3⟩
set_option maxRecDepth 100000 in
set_option maxHeartbeats 4000000 in
theorem ao_X6_layLines : AllOk yX6_layLines.cls cX6_layLines 2 5 120 (some .int) none pc_X6_layLines 0 cd_X6_layLines := ⟨s_aload_n (k := 0) (by decide +kernel) rfl rfl, ⟨s_get (C := RX6) (T := TX6) (N := 10) rfl inT6 (by decide) tw_1_201 (by decide +kernel) rfl, ⟨s_iconst (by decide +kernel) rfl ⟨by decide, by decide⟩, ⟨s_callV (C := RX5) (T := TX5) (N := 12) rfl ct_X5_write (by decide) (by decide) ⟨rfl, by decide +kernel, by decide +kernel, by decide +kernel⟩ tw_2_134 tw_2_135 tw_2_136 tw_1_4 tw_2_137 (by decide +kernel) rfl, ⟨s_istore_n (k := 1) (by decide +kernel) rfl rfl, ⟨s_aload_n (k := 0) (by decide +kernel) rfl rfl, ⟨s_get (C := RX6) (T := TX6) (N := 10) rfl inT6 (by decide) tw_1_202 (by decide +kernel) rfl, ⟨s_aload_n (k := 0) (by decide +kernel) rfl rfl, ⟨s_get (C := RX6) (T := TX6) (N := 10) rfl inT6 (by decide) tw_1_201 (by decide +kernel) rfl, ⟨s_get (C := RX5) (T := TX5) (N := 12) rfl inT5 (by decide) tw_1_90 (by decide +kernel) rfl, ⟨s_iload_n (k := 1) (by decide +kernel) rfl rfl, ⟨s_aload_n (k := 0) (by decide +kernel) rfl rfl, ⟨s_get (C := RX6) (T := TX6) (N := 10) rfl inT6 (by decide) tw_1_197 (by decide +kernel) rfl, ⟨s_get (C := RX0) (T := TX0) (N := 8) rfl inT0 (by decide) tw_1_42 (by decide +kernel) rfl, ⟨s_callV (C := RX2) (T := TX2) (N := 5) rfl ct_X2_lay (by decide) (by decide) ⟨rfl, by decide +kernel, by decide +kernel, by decide +kernel⟩ tw_2_222 tw_2_223 tw_2_224 tw_1_5 tw_2_225 (by decide +kernel) rfl, ⟨s_iret rfl (by decide +kernel), trivial⟩⟩⟩⟩⟩⟩⟩⟩⟩⟩⟩⟩⟩⟩⟩⟩
theorem ct_X6_layLines : Ctr yX6_layLines cX6_layLines 2 (some .int) 5 120 sp_X6_layLines := by
  refine ctr_of (by decide +kernel) ao_X6_layLines rfl ?_
  rintro av M Ret ⟨s, rfl, hp, hR⟩ hok hM
  exact ⟨Nat.le_of_ble_eq_true rfl, fun Z hZ => b_X6_layLines s  M Ret hp hR hM Z hZ⟩
def sp_X6_pagesOf : SP := fun av M Ret => ∃ n : Int, av = [mr 0, mi n] ∧ (1 ≤ M 1 7 ∧ M 1 7 ≤ 20 ∧ 0 ≤ n ∧ n ≤ 1000) ∧ (Ret (some (mi ((n + M 1 7 - 1) / M 1 7))) M)
theorem k_X6_pagesOf {code : List Sem} {Z : KZ} {Ret : KR} {ls : List (Option MV)} {M : Mem} {r : List MV} (hZ : Sim code Z Ret) (ip np : Nat) {n : Int} (hc : code[ip]? = some (I_callV 6 1 sp_X6_pagesOf)) (hn : ip + 1 = np) (h3 : catS r ≤ 8)  (hp : 1 ≤ M 1 7 ∧ M 1 7 ≤ 20 ∧ 0 ≤ n ∧ n ≤ 1000) (kz : Z np ls (mi ((n + M 1 7 - 1) / M 1 7) :: r) M) : Z ip ls (mi n :: mr 0 :: r) M := w_callV1 hZ ip np hc hn rfl rfl h3 ⟨_, rfl, hp, kz⟩
def cd_X6_pagesOf : List Sem := [I_const (1), I_aload 0, I_get 6 0, I_get 0 7, I_max, I_istore 2, I_iload 1, I_iload 2, I_add, I_const (1), I_sub, I_iload 2, I_div, I_iret]
def pc_X6_pagesOf : List Nat := [0, 1, 2, 5, 8, 11, 12, 13, 14, 15, 16, 17, 18, 19]
set_option maxRecDepth 100000 in
set_option maxHeartbeats 4000000 in
theorem b_X6_pagesOf (n : Int) (i_n : InR n) (M : Mem) (Ret : KR) (hp : 1 ≤ M 1 7 ∧ M 1 7 ≤ 20 ∧ 0 ≤ n ∧ n ≤ 1000) (hR : Ret (some (mi ((n + M 1 7 - 1) / M 1 7))) M) (hM : MOk M) (Z : KZ) (hZ : Sim cd_X6_pagesOf Z Ret) : Z 0 [some (mr 0), some (mi n), none] [] M := by
  obtain ⟨a1, a2, a3, a4⟩ := hp
  have hm : (if 1 < M 1 7 then M 1 7 else 1) = M 1 7 := by split <;> omega
  refine w_const hZ 0 1 rfl rfl  ?_
  refine w_aload hZ 1 2 rfl rfl rfl ?_
  refine w_getr hZ 2 3 rfl rfl rfl rfl rfl ?_
  refine w_geti hZ 3 4 rfl rfl rfl rfl rfl ?_
  refine w_max hZ 4 5 rfl rfl (Nat.le_of_ble_eq_true rfl) ?_
  rw [hm]
  refine w_st3_2 hZ 5 6 rfl rfl rfl ?_
  refine w_iload hZ 6 7 rfl rfl rfl ?_
  refine w_iload hZ 7 8 rfl rfl rfl ?_
  refine w_add hZ 8 9 rfl rfl (by unfold InR; omega) ?_
  refine w_const hZ 9 10 rfl rfl  ?_
  refine w_sub hZ 10 11 rfl rfl (by unfold InR; omega) ?_
  refine w_iload hZ 11 12 rfl rfl rfl ?_
  refine w_div hZ 12 13 rfl rfl (by omega) (by omega) ?_
  refine w_iret hZ 13 rfl ?_
  exact hR
set_option maxRecDepth 100000 in
set_option maxHeartbeats 4000000 in
theorem ao_X6_pagesOf : AllOk yX6_pagesOf.cls cX6_pagesOf 3 1 21 (some .int) none pc_X6_pagesOf 0 cd_X6_pagesOf := ⟨s_iconst (by decide +kernel) rfl ⟨by decide, by decide⟩, ⟨s_aload_n (k := 0) (by decide +kernel) rfl rfl, ⟨s_get (C := RX6) (T := TX6) (N := 10) rfl inT6 (by decide) tw_1_197 (by decide +kernel) rfl, ⟨s_get (C := RX0) (T := TX0) (N := 8) rfl inT0 (by decide) tw_1_44 (by decide +kernel) rfl, ⟨s_max tw_3_9 tw_3_10 tw_1_10 tw_3_11 (by decide) (by decide) (by decide +kernel) rfl, ⟨s_istore_n (k := 2) (by decide +kernel) rfl rfl, ⟨s_iload_n (k := 1) (by decide +kernel) rfl rfl, ⟨s_iload_n (k := 2) (by decide +kernel) rfl rfl, ⟨s_add (by decide +kernel) rfl, ⟨s_iconst (by decide +kernel) rfl ⟨by decide, by decide⟩, ⟨s_sub (by decide +kernel) rfl, ⟨s_iload_n (k := 2) (by decide +kernel) rfl rfl, ⟨s_div (by decide +kernel) rfl, ⟨s_iret rfl (by decide +kernel), trivial⟩⟩⟩⟩⟩⟩⟩⟩⟩⟩⟩⟩⟩⟩
theorem ct_X6_pagesOf : Ctr yX6_pagesOf cX6_pagesOf 3 (some .int) 1 21 sp_X6_pagesOf := by
  refine ctr_of (by decide +kernel) ao_X6_pagesOf rfl ?_
  rintro av M Ret ⟨n, rfl, hp, hR⟩ hok hM
  exact ⟨Nat.le_of_ble_eq_true rfl, fun Z hZ => b_X6_pagesOf  n (hok _ (List.mem_of_getElem? (i := 1) rfl)) M Ret hp hR hM Z hZ⟩
def sp_X6_told : SP := fun av M Ret => ∃ s : St, ∃ w : Int, av = [mr 0, mi w] ∧ (XR s M ∧ stOk s) ∧ (∀ M2 : Mem, (XR s M2 ∧ (∀ k, 73 ≤ k → M2 k = M k)) → Ret (some (mi (rTold s w))) M2)
theorem k_X6_told {code : List Sem} {Z : KZ} {Ret : KR} {ls : List (Option MV)} {M : Mem} {r : List MV} (hZ : Sim code Z Ret) (ip np : Nat) {s : St} {w : Int} (hc : code[ip]? = some (I_callV 6 1 sp_X6_told)) (hn : ip + 1 = np) (h3 : catS r ≤ 8)  (hp : XR s M ∧ stOk s) (kz : ∀ M2 : Mem, (XR s M2 ∧ (∀ k, 73 ≤ k → M2 k = M k)) → Z np ls (mi (rTold s w) :: r) M2) : Z ip ls (mi w :: mr 0 :: r) M := w_callV1 hZ ip np hc hn rfl rfl h3 ⟨_, _, rfl, hp, fun M2 h => kz M2 h⟩
def cd_X6_told : List Sem := [I_iload 1, I_tsw (0) [2, 6, 10, 14, 18, 22, 27, 36, 39, 44, 47] 51, I_aload 0, I_get 6 0, I_get 0 4, I_iret, I_aload 0, I_get 6 0, I_get 0 6, I_iret, I_aload 0, I_get 6 0, I_get 0 7, I_iret, I_aload 0, I_get 6 0, I_get 0 5, I_iret, I_aload 0, I_get 6 0, I_callV 0 0 sp_X0_wordCount, I_iret, I_aload 0, I_get 6 4, I_const (-1), I_callV 5 1 sp_X5_write, I_iret, I_aload 0, I_get 6 4, I_const (-1), I_callV 5 1 sp_X5_write, I_pop, I_aload 0, I_get 6 4, I_callV 5 0 sp_X5_fewest, I_iret, I_aload 0, I_callV 6 0 sp_X6_layLines, I_iret, I_aload 0, I_aload 0, I_callV 6 0 sp_X6_layLines, I_callV 6 1 sp_X6_pagesOf, I_iret, I_aload 0, I_get 6 7, I_iret, I_aload 0, I_get 6 1, I_get 1 2, I_iret, I_const (-1000000002), I_iret]
def pc_X6_told : List Nat := [0, 1, 60, 61, 64, 67, 68, 69, 72, 75, 76, 77, 80, 83, 84, 85, 88, 91, 92, 93, 96, 99, 100, 101, 104, 105, 108, 109, 110, 113, 114, 117, 118, 119, 122, 125, 126, 127, 130, 131, 132, 133, 136, 139, 140, 141, 144, 145, 146, 149, 152, 153, 155]
set_option maxRecDepth 100000 in
set_option maxHeartbeats 4000000 in
theorem b_X6_told (s : St) (w : Int) (i_w : InR w) (M : Mem) (Ret : KR) (hp : XR s M ∧ stOk s) (hR : ∀ M2 : Mem, (XR s M2 ∧ (∀ k, 73 ≤ k → M2 k = M k)) → Ret (some (mi (rTold s w))) M2) (hM : MOk M) (Z : KZ) (hZ : Sim cd_X6_told Z Ret) : Z 0 [some (mr 0), some (mi w)] [] M := by
  obtain ⟨hx, hv⟩ := hp
  have hB := hx.bx hv
  have hvo := hx.vo hv
  have h240 : (evN (sB s) (-1)).length ≤ 240 := aEv_240 hv.1 (-1) (i := 0) (Int.le_refl _)
  have h241 : (aEv (sB s) (-1) 0).length ≤ 240 := h240
  have fin : ∀ (x : Int) (M2 : Mem), rTold s w = x → XR s M2 → (∀ k, 73 ≤ k → M2 k = M k) → Ret (some (mi x)) M2 := by
    intro x M2 e h h2; subst e; exact hR M2 ⟨h, h2⟩
  have non : ∀ x : Int, rTold s w = x → Ret (some (mi x)) M := fun x q => fin x M q hx (fun _ _ => rfl)
  have h4 := hx.r4
  have h5 := hx.r5
  have h6 := hx.r6
  have h7 := hx.r7
  have h20 := hv.1.2.2.2.2.2.2.2.2.2
  have hwc := wcE_b (evN (sB s) (-1))
  refine w_iload hZ 0 1 rfl rfl rfl ?_
  refine w_tsw11 hZ 1 rfl (fun c1 => ?_) (fun c1 => ?_) (fun c1 => ?_) (fun c1 => ?_) (fun c1 => ?_) (fun c1 => ?_) (fun c1 => ?_) (fun c1 => ?_) (fun c1 => ?_) (fun c1 => ?_) (fun c1 => ?_) (fun c1 => ?_)
  · refine w_aload hZ 2 3 rfl rfl rfl ?_
    refine w_getr hZ 3 4 rfl rfl rfl rfl rfl ?_
    refine w_geti hZ 4 5 rfl rfl rfl rfl rfl ?_
    refine w_iret hZ 5 rfl ?_
    exact non _ (by unfold rTold; rw [if_pos (by omega)]; exact h4.symm)
  · refine w_aload hZ 6 7 rfl rfl rfl ?_
    refine w_getr hZ 7 8 rfl rfl rfl rfl rfl ?_
    refine w_geti hZ 8 9 rfl rfl rfl rfl rfl ?_
    refine w_iret hZ 9 rfl ?_
    exact non _ (by unfold rTold; rw [if_neg (by omega), if_pos (by omega)]; exact h6.symm)
  · refine w_aload hZ 10 11 rfl rfl rfl ?_
    refine w_getr hZ 11 12 rfl rfl rfl rfl rfl ?_
    refine w_geti hZ 12 13 rfl rfl rfl rfl rfl ?_
    refine w_iret hZ 13 rfl ?_
    exact non _ (by unfold rTold; rw [if_neg (by omega), if_neg (by omega), if_pos (by omega)]; exact h7.symm)
  · refine w_aload hZ 14 15 rfl rfl rfl ?_
    refine w_getr hZ 15 16 rfl rfl rfl rfl rfl ?_
    refine w_geti hZ 16 17 rfl rfl rfl rfl rfl ?_
    refine w_iret hZ 17 rfl ?_
    exact non _ (by unfold rTold; rw [if_neg (by omega), if_neg (by omega), if_neg (by omega), if_pos (by omega)]; exact h5.symm)
  · refine w_aload hZ 18 19 rfl rfl rfl ?_
    refine w_getr hZ 19 20 rfl rfl rfl rfl rfl ?_
    refine k_X0_wordCount hZ 20 21 rfl rfl (Nat.le_of_ble_eq_true rfl) hB ?_
    refine w_iret hZ 21 rfl ?_
    exact non _ (by unfold rTold; rw [if_neg (by omega), if_neg (by omega), if_neg (by omega), if_neg (by omega), if_pos (by omega), ← hx.1]; rfl)
  · refine w_aload hZ 22 23 rfl rfl rfl ?_
    refine w_getr hZ 23 24 rfl rfl rfl rfl rfl ?_
    refine w_const hZ 24 25 rfl rfl  ?_
    refine k_X5_write hZ 25 26 rfl rfl (Nat.le_of_ble_eq_true rfl) hvo (fun M25 p25 => ?_)
    refine w_iret hZ 26 rfl ?_
    rw [hx.1] at p25 ⊢
    exact fin _ _ (by unfold rTold; rw [if_neg (by omega), if_neg (by omega), if_neg (by omega), if_neg (by omega), if_neg (by omega), if_pos (by omega)]) (hx.wr p25.2.2.2) (fun k hk => p25.2.2.2 k (by omega))
  · refine w_aload hZ 27 28 rfl rfl rfl ?_
    refine w_getr hZ 28 29 rfl rfl rfl rfl rfl ?_
    refine w_const hZ 29 30 rfl rfl  ?_
    refine k_X5_write hZ 30 31 rfl rfl (Nat.le_of_ble_eq_true rfl) hvo (fun M30 p30 => ?_)
    rw [hx.1] at p30
    obtain ⟨w1, w2, w3, w4⟩ := p30
    have hx30 := hx.wr w4
    have w1' : M30 10 4 = (evN (sB s) (-1)).length := w1.1
    have w3' : M30 10 6 = wcE (evN (sB s) (-1)) := w3
    refine w_pop hZ 31 32 rfl rfl rfl ?_
    refine w_aload hZ 32 33 rfl rfl rfl ?_
    refine w_getr hZ 33 34 rfl rfl rfl rfl rfl ?_
    refine k_X5_fewest hZ 34 35 rfl rfl (Nat.le_of_ble_eq_true rfl) ⟨by rw [hx30.1]; exact hv.1, by omega, by omega, by omega, by omega⟩ (fun M34 p34 => ?_)
    refine w_iret hZ 35 rfl ?_
    refine fin _ _ ?_ (hx30.same (fun k hk => p34 k (by omega) (by omega) (by omega))) (fun k hk => by rw [p34 k (by omega) (by omega) (by omega), w4 k (by omega)])
    rw [w1', w3', w2, hx30.1, hx30.r5]
    unfold rTold; rw [if_neg (by omega), if_neg (by omega), if_neg (by omega), if_neg (by omega), if_neg (by omega), if_neg (by omega), if_pos (by omega)]
  · refine w_aload hZ 36 37 rfl rfl rfl ?_
    refine k_X6_layLines hZ 37 38 rfl rfl (Nat.le_of_ble_eq_true rfl) ⟨hx, hv⟩ (fun M37 p37 => ?_)
    refine w_iret hZ 38 rfl ?_
    exact fin _ _ (by unfold rTold; rw [if_neg (by omega), if_neg (by omega), if_neg (by omega), if_neg (by omega), if_neg (by omega), if_neg (by omega), if_neg (by omega), if_pos (by omega)]) p37.1 p37.2.1
  · refine w_aload hZ 39 40 rfl rfl rfl ?_
    refine w_aload hZ 40 41 rfl rfl rfl ?_
    refine k_X6_layLines hZ 41 42 rfl rfl (Nat.le_of_ble_eq_true rfl) ⟨hx, hv⟩ (fun M41 p41 => ?_)
    refine k_X6_pagesOf hZ 42 43 rfl rfl (Nat.le_of_ble_eq_true rfl) ⟨by rw [p41.1.r7]; omega, by rw [p41.1.r7]; omega, (lyN_le p41.2.2.2.1 p41.2.2.2.2).1, by have := (lyN_le p41.2.2.2.1 p41.2.2.2.2).2; omega⟩ ?_
    refine w_iret hZ 43 rfl ?_
    refine fin _ _ ?_ p41.1 p41.2.1
    rw [p41.1.r7]
    unfold rTold; rw [if_neg (by omega), if_neg (by omega), if_neg (by omega), if_neg (by omega), if_neg (by omega), if_neg (by omega), if_neg (by omega), if_neg (by omega), if_pos (by omega)]
  · refine w_aload hZ 44 45 rfl rfl rfl ?_
    refine w_geti hZ 45 46 rfl rfl rfl rfl rfl ?_
    refine w_iret hZ 46 rfl ?_
    exact non _ (by unfold rTold; rw [if_neg (by omega), if_neg (by omega), if_neg (by omega), if_neg (by omega), if_neg (by omega), if_neg (by omega), if_neg (by omega), if_neg (by omega), if_neg (by omega), if_pos (by omega)]; exact hx.2.2.2.2.2.1.symm)
  · refine w_aload hZ 47 48 rfl rfl rfl ?_
    refine w_getr hZ 48 49 rfl rfl rfl rfl rfl ?_
    refine w_geti hZ 49 50 rfl rfl rfl rfl rfl ?_
    refine w_iret hZ 50 rfl ?_
    exact non _ (by unfold rTold; rw [if_neg (by omega), if_neg (by omega), if_neg (by omega), if_neg (by omega), if_neg (by omega), if_neg (by omega), if_neg (by omega), if_neg (by omega), if_neg (by omega), if_neg (by omega), if_pos (by omega)]; exact hx.2.2.1.symm)
  · refine w_const hZ 51 52 rfl rfl  ?_
    refine w_iret hZ 52 rfl ?_
    exact non _ (by unfold rTold; rw [if_neg (by omega), if_neg (by omega), if_neg (by omega), if_neg (by omega), if_neg (by omega), if_neg (by omega), if_neg (by omega), if_neg (by omega), if_neg (by omega), if_neg (by omega), if_neg (by omega)])
set_option maxRecDepth 100000 in
set_option maxHeartbeats 4000000 in
theorem ao_X6_told : AllOk yX6_told.cls cX6_told 2 6 141 (some .int) none pc_X6_told 0 cd_X6_told := ⟨s_iload_n (k := 1) (by decide +kernel) rfl rfl, ⟨s_tsw (dfl := 152) (hi0 := 10) (offs := #[59, 67, 75, 83, 91, 99, 108, 125, 130, 139, 144]) (len := 59) (by decide +kernel) rfl rfl rfl, ⟨s_aload_n (k := 0) (by decide +kernel) rfl rfl, ⟨s_get (C := RX6) (T := TX6) (N := 10) rfl inT6 (by decide) tw_1_197 (by decide +kernel) rfl, ⟨s_get (C := RX0) (T := TX0) (N := 8) rfl inT0 (by decide) tw_1_37 (by decide +kernel) rfl, ⟨s_iret rfl (by decide +kernel), ⟨s_aload_n (k := 0) (by decide +kernel) rfl rfl, ⟨s_get (C := RX6) (T := TX6) (N := 10) rfl inT6 (by decide) tw_1_197 (by decide +kernel) rfl, ⟨s_get (C := RX0) (T := TX0) (N := 8) rfl inT0 (by decide) tw_1_42 (by decide +kernel) rfl, ⟨s_iret rfl (by decide +kernel), ⟨s_aload_n (k := 0) (by decide +kernel) rfl rfl, ⟨s_get (C := RX6) (T := TX6) (N := 10) rfl inT6 (by decide) tw_1_197 (by decide +kernel) rfl, ⟨s_get (C := RX0) (T := TX0) (N := 8) rfl inT0 (by decide) tw_1_44 (by decide +kernel) rfl, ⟨s_iret rfl (by decide +kernel), ⟨s_aload_n (k := 0) (by decide +kernel) rfl rfl, ⟨s_get (C := RX6) (T := TX6) (N := 10) rfl inT6 (by decide) tw_1_197 (by decide +kernel) rfl, ⟨s_get (C := RX0) (T := TX0) (N := 8) rfl inT0 (by decide) tw_1_40 (by decide +kernel) rfl, ⟨s_iret rfl (by decide +kernel), ⟨s_aload_n (k := 0) (by decide +kernel) rfl rfl, ⟨s_get (C := RX6) (T := TX6) (N := 10) rfl inT6 (by decide) tw_1_197 (by decide +kernel) rfl, ⟨s_callV (C := RX0) (T := TX0) (N := 8) rfl ct_X0_wordCount (by decide) (by decide) ⟨rfl, by decide +kernel, by decide +kernel, by decide +kernel⟩ tw_2_121 tw_2_122 tw_2_123 tw_1_2 tw_2_124 (by decide +kernel) rfl, ⟨s_iret rfl (by decide +kernel), ⟨s_aload_n (k := 0) (by decide +kernel) rfl rfl, ⟨s_get (C := RX6) (T := TX6) (N := 10) rfl inT6 (by decide) tw_1_201 (by decide +kernel) rfl, ⟨s_iconst (by decide +kernel) rfl ⟨by decide, by decide⟩, ⟨s_callV (C := RX5) (T := TX5) (N := 12) rfl ct_X5_write (by decide) (by decide) ⟨rfl, by decide +kernel, by decide +kernel, by decide +kernel⟩ tw_2_134 tw_2_135 tw_2_136 tw_1_4 tw_2_137 (by decide +kernel) rfl, ⟨s_iret rfl (by decide +kernel), ⟨s_aload_n (k := 0) (by decide +kernel) rfl rfl, ⟨s_get (C := RX6) (T := TX6) (N := 10) rfl inT6 (by decide) tw_1_201 (by decide +kernel) rfl, ⟨s_iconst (by decide +kernel) rfl ⟨by decide, by decide⟩, ⟨s_callV (C := RX5) (T := TX5) (N := 12) rfl ct_X5_write (by decide) (by decide) ⟨rfl, by decide +kernel, by decide +kernel, by decide +kernel⟩ tw_2_134 tw_2_135 tw_2_136 tw_1_4 tw_2_137 (by decide +kernel) rfl, ⟨s_pop (by decide +kernel) rfl, ⟨s_aload_n (k := 0) (by decide +kernel) rfl rfl, ⟨s_get (C := RX6) (T := TX6) (N := 10) rfl inT6 (by decide) tw_1_201 (by decide +kernel) rfl, ⟨s_callV (C := RX5) (T := TX5) (N := 12) rfl ct_X5_fewest (by decide) (by decide) ⟨rfl, by decide +kernel, by decide +kernel, by decide +kernel⟩ tw_2_209 tw_2_210 tw_2_211 tw_1_4 tw_2_212 (by decide +kernel) rfl, ⟨s_iret rfl (by decide +kernel), ⟨s_aload_n (k := 0) (by decide +kernel) rfl rfl, ⟨s_callV (C := RX6) (T := TX6) (N := 10) rfl ct_X6_layLines (by decide) (by decide) ⟨rfl, by decide +kernel, by decide +kernel, by decide +kernel⟩ tw_2_218 tw_2_220 ts_1_15 tw_1_1 tw_2_221 (by decide +kernel) rfl, ⟨s_iret rfl (by decide +kernel), ⟨s_aload_n (k := 0) (by decide +kernel) rfl rfl, ⟨s_aload_n (k := 0) (by decide +kernel) rfl rfl, ⟨s_callV (C := RX6) (T := TX6) (N := 10) rfl ct_X6_layLines (by decide) (by decide) ⟨rfl, by decide +kernel, by decide +kernel, by decide +kernel⟩ tw_2_218 tw_2_220 ts_1_15 tw_1_1 tw_2_221 (by decide +kernel) rfl, ⟨s_callV (C := RX6) (T := TX6) (N := 10) rfl ct_X6_pagesOf (by decide) (by decide) ⟨rfl, by decide +kernel, by decide +kernel, by decide +kernel⟩ tw_3_5 tw_3_7 ts_2_4 tw_1_1 tw_3_8 (by decide +kernel) rfl, ⟨s_iret rfl (by decide +kernel), ⟨s_aload_n (k := 0) (by decide +kernel) rfl rfl, ⟨s_get (C := RX6) (T := TX6) (N := 10) rfl inT6 (by decide) tw_1_204 (by decide +kernel) rfl, ⟨s_iret rfl (by decide +kernel), ⟨s_aload_n (k := 0) (by decide +kernel) rfl rfl, ⟨s_get (C := RX6) (T := TX6) (N := 10) rfl inT6 (by decide) tw_1_198 (by decide +kernel) rfl, ⟨s_get (C := RX1) (T := TX1) (N := 3) rfl inT1 (by decide) tw_1_75 (by decide +kernel) rfl, ⟨s_iret rfl (by decide +kernel), ⟨s_ldc (v := (-1000000002)) tw_2_2 (by decide +kernel) rfl ⟨by decide, by decide⟩ (by decide +kernel), ⟨s_iret rfl (by decide +kernel), trivial⟩⟩⟩⟩⟩⟩⟩⟩⟩⟩⟩⟩⟩⟩⟩⟩⟩⟩⟩⟩⟩⟩⟩⟩⟩⟩⟩⟩⟩⟩⟩⟩⟩⟩⟩⟩⟩⟩⟩⟩⟩⟩⟩⟩⟩⟩⟩⟩⟩⟩⟩⟩⟩
theorem ct_X6_told : Ctr yX6_told cX6_told 2 (some .int) 6 141 sp_X6_told := by
  refine ctr_of (by decide +kernel) ao_X6_told rfl ?_
  rintro av M Ret ⟨s, w, rfl, hp, hR⟩ hok hM
  exact ⟨Nat.le_of_ble_eq_true rfl, fun Z hZ => b_X6_told s w (hok _ (List.mem_of_getElem? (i := 1) rfl)) M Ret hp hR hM Z hZ⟩
def sp_X6_cell : SP := fun av M Ret => ∃ s : St, ∃ i : Int, av = [mr 0, mi i] ∧ (XR s M ∧ stOk s) ∧ (∀ M2 : Mem, (XR s M2 ∧ (∀ k, 73 ≤ k → M2 k = M k)) → Ret (some (mi (rCell s i))) M2)
theorem k_X6_cell {code : List Sem} {Z : KZ} {Ret : KR} {ls : List (Option MV)} {M : Mem} {r : List MV} (hZ : Sim code Z Ret) (ip np : Nat) {s : St} {i : Int} (hc : code[ip]? = some (I_callV 6 1 sp_X6_cell)) (hn : ip + 1 = np) (h3 : catS r ≤ 8)  (hp : XR s M ∧ stOk s) (kz : ∀ M2 : Mem, (XR s M2 ∧ (∀ k, 73 ≤ k → M2 k = M k)) → Z np ls (mi (rCell s i) :: r) M2) : Z ip ls (mi i :: mr 0 :: r) M := w_callV1 hZ ip np hc hn rfl rfl h3 ⟨_, _, rfl, hp, fun M2 h => kz M2 h⟩
def cd_X6_cell : List Sem := [I_iload 1, I_ifge 4, I_const (-1000000002), I_iret, I_aload 0, I_get 6 4, I_const (-1), I_callV 5 1 sp_X5_write, I_istore 2, I_iload 1, I_iload 2, I_cge 18, I_aload 0, I_get 6 4, I_get 5 0, I_iload 1, I_iald, I_goto 19, I_const (-1), I_iret]
def pc_X6_cell : List Nat := [0, 1, 4, 6, 7, 8, 11, 12, 15, 16, 17, 18, 21, 22, 25, 28, 29, 30, 33, 34]
set_option maxRecDepth 100000 in
set_option maxHeartbeats 4000000 in
theorem b_X6_cell (s : St) (i : Int) (i_i : InR i) (M : Mem) (Ret : KR) (hp : XR s M ∧ stOk s) (hR : ∀ M2 : Mem, (XR s M2 ∧ (∀ k, 73 ≤ k → M2 k = M k)) → Ret (some (mi (rCell s i))) M2) (hM : MOk M) (Z : KZ) (hZ : Sim cd_X6_cell Z Ret) : Z 0 [some (mr 0), some (mi i), none] [] M := by
  obtain ⟨hx, hv⟩ := hp
  have hB := hx.bx hv
  have hvo := hx.vo hv
  have h240 : (evN (sB s) (-1)).length ≤ 240 := aEv_240 hv.1 (-1) (i := 0) (Int.le_refl _)
  have h241 : (aEv (sB s) (-1) 0).length ≤ 240 := h240
  have fin : ∀ (x : Int) (M2 : Mem), rCell s i = x → XR s M2 → (∀ k, 73 ≤ k → M2 k = M k) → Ret (some (mi x)) M2 := by
    intro x M2 e h h2; subst e; exact hR M2 ⟨h, h2⟩
  have non : ∀ x : Int, rCell s i = x → Ret (some (mi x)) M := fun x q => fin x M q hx (fun _ _ => rfl)
  refine w_iload hZ 0 1 rfl rfl rfl ?_
  refine w_ifge hZ 1 2 rfl rfl (fun c1 => ?_) (fun c1 => ?_)
  · refine w_aload hZ 4 5 rfl rfl rfl ?_
    refine w_getr hZ 5 6 rfl rfl rfl rfl rfl ?_
    refine w_const hZ 6 7 rfl rfl  ?_
    refine k_X5_write hZ 7 8 rfl rfl (Nat.le_of_ble_eq_true rfl) hvo (fun M7 p7 => ?_)
    rw [hx.1] at p7 ⊢
    obtain ⟨w1, w2, w3, w4⟩ := p7
    have hx7 := hx.wr w4
    refine w_st3_2 hZ 8 9 rfl rfl rfl ?_
    refine w_iload hZ 9 10 rfl rfl rfl ?_
    refine w_iload hZ 10 11 rfl rfl rfl ?_
    refine w_cge hZ 11 12 rfl rfl (fun c11 => ?_) (fun c11 => ?_)
    · refine w_const hZ 18 19 rfl rfl  ?_
      refine w_iret hZ 19 rfl ?_
      refine fin _ _ ?_ hx7 (fun k hk => w4 k (by omega))
      unfold rCell
      rw [if_neg (by omega), ← w1.sg]
      first
        | exact sgn_in (by omega) (by omega)
        | exact sgn_hi (by omega)
    · refine w_aload hZ 12 13 rfl rfl rfl ?_
      refine w_getr hZ 13 14 rfl rfl rfl rfl rfl ?_
      refine w_getr hZ 14 15 rfl rfl rfl rfl rfl ?_
      refine w_iload hZ 15 16 rfl rfl rfl ?_
      refine w_iald hZ 16 17 rfl rfl rfl (by omega) (by omega) ?_
      refine w_goto hZ 17 19 rfl ?_
      refine w_iret hZ 19 rfl ?_
      refine fin _ _ ?_ hx7 (fun k hk => w4 k (by omega))
      unfold rCell
      rw [if_neg (by omega), ← w1.sg]
      first
        | exact sgn_in (by omega) (by omega)
        | exact sgn_hi (by omega)
  · refine w_const hZ 2 3 rfl rfl  ?_
    refine w_iret hZ 3 rfl ?_
    exact non _ (by unfold rCell; rw [if_pos (by omega)])
set_option maxRecDepth 100000 in
set_option maxHeartbeats 4000000 in
theorem ao_X6_cell : AllOk yX6_cell.cls cX6_cell 3 5 120 (some .int) none pc_X6_cell 0 cd_X6_cell := ⟨s_iload_n (k := 1) (by decide +kernel) rfl rfl, ⟨s_ifge (off := (6)) (by decide +kernel) rfl rfl, ⟨s_ldc (v := (-1000000002)) tw_2_2 (by decide +kernel) rfl ⟨by decide, by decide⟩ (by decide +kernel), ⟨s_iret rfl (by decide +kernel), ⟨s_aload_n (k := 0) (by decide +kernel) rfl rfl, ⟨s_get (C := RX6) (T := TX6) (N := 10) rfl inT6 (by decide) tw_1_201 (by decide +kernel) rfl, ⟨s_iconst (by decide +kernel) rfl ⟨by decide, by decide⟩, ⟨s_callV (C := RX5) (T := TX5) (N := 12) rfl ct_X5_write (by decide) (by decide) ⟨rfl, by decide +kernel, by decide +kernel, by decide +kernel⟩ tw_2_134 tw_2_135 tw_2_136 tw_1_4 tw_2_137 (by decide +kernel) rfl, ⟨s_istore_n (k := 2) (by decide +kernel) rfl rfl, ⟨s_iload_n (k := 1) (by decide +kernel) rfl rfl, ⟨s_iload_n (k := 2) (by decide +kernel) rfl rfl, ⟨s_cge (off := (15)) (by decide +kernel) rfl rfl, ⟨s_aload_n (k := 0) (by decide +kernel) rfl rfl, ⟨s_get (C := RX6) (T := TX6) (N := 10) rfl inT6 (by decide) tw_1_201 (by decide +kernel) rfl, ⟨s_get (C := RX5) (T := TX5) (N := 12) rfl inT5 (by decide) tw_1_90 (by decide +kernel) rfl, ⟨s_iload_n (k := 1) (by decide +kernel) rfl rfl, ⟨s_iald (by decide +kernel) rfl, ⟨s_goto (off := (4)) (by decide +kernel) rfl, ⟨s_iconst (by decide +kernel) rfl ⟨by decide, by decide⟩, ⟨s_iret rfl (by decide +kernel), trivial⟩⟩⟩⟩⟩⟩⟩⟩⟩⟩⟩⟩⟩⟩⟩⟩⟩⟩⟩⟩
theorem ct_X6_cell : Ctr yX6_cell cX6_cell 3 (some .int) 5 120 sp_X6_cell := by
  refine ctr_of (by decide +kernel) ao_X6_cell rfl ?_
  rintro av M Ret ⟨s, i, rfl, hp, hR⟩ hok hM
  exact ⟨Nat.le_of_ble_eq_true rfl, fun Z hZ => b_X6_cell s i (hok _ (List.mem_of_getElem? (i := 1) rfl)) M Ret hp hR hM Z hZ⟩
def sp_X6_line : SP := fun av M Ret => ∃ s : St, ∃ l : Int, ∃ i : Int, av = [mr 0, mi l, mi i] ∧ (XR s M ∧ stOk s) ∧ (∀ M2 : Mem, (XR s M2 ∧ (∀ k, 73 ≤ k → M2 k = M k)) → Ret (some (mi (rLine s l i))) M2)
theorem k_X6_line {code : List Sem} {Z : KZ} {Ret : KR} {ls : List (Option MV)} {M : Mem} {r : List MV} (hZ : Sim code Z Ret) (ip np : Nat) {s : St} {l i : Int} (hc : code[ip]? = some (I_callV 6 2 sp_X6_line)) (hn : ip + 1 = np) (h3 : catS r ≤ 8)  (hp : XR s M ∧ stOk s) (kz : ∀ M2 : Mem, (XR s M2 ∧ (∀ k, 73 ≤ k → M2 k = M k)) → Z np ls (mi (rLine s l i) :: r) M2) : Z ip ls (mi i :: mi l :: mr 0 :: r) M := w_callV2 hZ ip np hc hn rfl rfl h3 ⟨_, _, _, rfl, hp, fun M2 h => kz M2 h⟩
def cd_X6_line : List Sem := [I_iload 1, I_iflt 4, I_iload 2, I_ifge 6, I_const (-1000000002), I_iret, I_aload 0, I_callV 6 0 sp_X6_layLines, I_pop, I_aload 0, I_get 6 5, I_iload 1, I_iload 2, I_callV 2 2 sp_X2_cellOf, I_iret]
def pc_X6_line : List Nat := [0, 1, 4, 5, 8, 10, 11, 12, 15, 16, 17, 20, 21, 22, 25]
set_option maxRecDepth 100000 in
set_option maxHeartbeats 4000000 in
theorem b_X6_line (s : St) (l : Int) (i_l : InR l) (i : Int) (i_i : InR i) (M : Mem) (Ret : KR) (hp : XR s M ∧ stOk s) (hR : ∀ M2 : Mem, (XR s M2 ∧ (∀ k, 73 ≤ k → M2 k = M k)) → Ret (some (mi (rLine s l i))) M2) (hM : MOk M) (Z : KZ) (hZ : Sim cd_X6_line Z Ret) : Z 0 [some (mr 0), some (mi l), some (mi i)] [] M := by
  obtain ⟨hx, hv⟩ := hp
  have hB := hx.bx hv
  have hvo := hx.vo hv
  have h240 : (evN (sB s) (-1)).length ≤ 240 := aEv_240 hv.1 (-1) (i := 0) (Int.le_refl _)
  have h241 : (aEv (sB s) (-1) 0).length ≤ 240 := h240
  have fin : ∀ (x : Int) (M2 : Mem), rLine s l i = x → XR s M2 → (∀ k, 73 ≤ k → M2 k = M k) → Ret (some (mi x)) M2 := by
    intro x M2 e h h2; subst e; exact hR M2 ⟨h, h2⟩
  have non : ∀ x : Int, rLine s l i = x → Ret (some (mi x)) M := fun x q => fin x M q hx (fun _ _ => rfl)
  refine w_iload hZ 0 1 rfl rfl rfl ?_
  refine w_iflt hZ 1 2 rfl rfl (fun c1 => ?_) (fun c1 => ?_)
  · refine w_const hZ 4 5 rfl rfl  ?_
    refine w_iret hZ 5 rfl ?_
    exact non _ (by unfold rLine; rw [if_pos (by omega)])
  · refine w_iload hZ 2 3 rfl rfl rfl ?_
    refine w_ifge hZ 3 4 rfl rfl (fun c3 => ?_) (fun c3 => ?_)
    · refine w_aload hZ 6 7 rfl rfl rfl ?_
      refine k_X6_layLines hZ 7 8 rfl rfl (Nat.le_of_ble_eq_true rfl) ⟨hx, hv⟩ (fun M7 p7 => ?_)
      refine w_pop hZ 8 9 rfl rfl rfl ?_
      refine w_aload hZ 9 10 rfl rfl rfl ?_
      refine w_getr hZ 10 11 rfl rfl rfl rfl rfl ?_
      refine w_iload hZ 11 12 rfl rfl rfl ?_
      refine w_iload hZ 12 13 rfl rfl rfl ?_
      refine k_X2_cellOf hZ 13 14 rfl rfl (Nat.le_of_ble_eq_true rfl) ⟨by rw [LXs_w p7.2.2.1]; exact p7.2.2.1, p7.2.2.2.2, by rw [LXs_w p7.2.2.1]; exact p7.2.2.2.1, by omega, by omega⟩ ?_
      refine w_iret hZ 14 rfl ?_
      exact fin _ _ (by unfold rLine; rw [if_neg (by omega)]) p7.1 p7.2.1
    · refine w_const hZ 4 5 rfl rfl  ?_
      refine w_iret hZ 5 rfl ?_
      exact non _ (by unfold rLine; rw [if_pos (by omega)])
set_option maxRecDepth 100000 in
set_option maxHeartbeats 4000000 in
theorem ao_X6_line : AllOk yX6_line.cls cX6_line 3 6 141 (some .int) none pc_X6_line 0 cd_X6_line := ⟨s_iload_n (k := 1) (by decide +kernel) rfl rfl, ⟨s_iflt (off := (7)) (by decide +kernel) rfl rfl, ⟨s_iload_n (k := 2) (by decide +kernel) rfl rfl, ⟨s_ifge (off := (6)) (by decide +kernel) rfl rfl, ⟨s_ldc (v := (-1000000002)) tw_2_2 (by decide +kernel) rfl ⟨by decide, by decide⟩ (by decide +kernel), ⟨s_iret rfl (by decide +kernel), ⟨s_aload_n (k := 0) (by decide +kernel) rfl rfl, ⟨s_callV (C := RX6) (T := TX6) (N := 10) rfl ct_X6_layLines (by decide) (by decide) ⟨rfl, by decide +kernel, by decide +kernel, by decide +kernel⟩ tw_2_218 tw_2_220 ts_1_15 tw_1_1 tw_2_221 (by decide +kernel) rfl, ⟨s_pop (by decide +kernel) rfl, ⟨s_aload_n (k := 0) (by decide +kernel) rfl rfl, ⟨s_get (C := RX6) (T := TX6) (N := 10) rfl inT6 (by decide) tw_1_202 (by decide +kernel) rfl, ⟨s_iload_n (k := 1) (by decide +kernel) rfl rfl, ⟨s_iload_n (k := 2) (by decide +kernel) rfl rfl, ⟨s_callV (C := RX2) (T := TX2) (N := 5) rfl ct_X2_cellOf (by decide) (by decide) ⟨rfl, by decide +kernel, by decide +kernel, by decide +kernel⟩ tw_3_20 tw_3_21 tw_3_22 tw_1_5 tw_3_23 (by decide +kernel) rfl, ⟨s_iret rfl (by decide +kernel), trivial⟩⟩⟩⟩⟩⟩⟩⟩⟩⟩⟩⟩⟩⟩⟩
theorem ct_X6_line : Ctr yX6_line cX6_line 3 (some .int) 6 141 sp_X6_line := by
  refine ctr_of (by decide +kernel) ao_X6_line rfl ?_
  rintro av M Ret ⟨s, l, i, rfl, hp, hR⟩ hok hM
  exact ⟨Nat.le_of_ble_eq_true rfl, fun Z hZ => b_X6_line s l (hok _ (List.mem_of_getElem? (i := 1) rfl)) i (hok _ (List.mem_of_getElem? (i := 2) rfl)) M Ret hp hR hM Z hZ⟩
def sp_X6_ofRule : SP := fun av M Ret => ∃ s : St, ∃ k : Int, ∃ w : Int, av = [mr 0, mi k, mi w] ∧ (XR s M ∧ stOk s) ∧ (∀ M2 : Mem, (XR s M2 ∧ (∀ k, 73 ≤ k → M2 k = M k)) → Ret (some (mi (rRule s k w))) M2)
theorem k_X6_ofRule {code : List Sem} {Z : KZ} {Ret : KR} {ls : List (Option MV)} {M : Mem} {r : List MV} (hZ : Sim code Z Ret) (ip np : Nat) {s : St} {k w : Int} (hc : code[ip]? = some (I_callV 6 2 sp_X6_ofRule)) (hn : ip + 1 = np) (h3 : catS r ≤ 8)  (hp : XR s M ∧ stOk s) (kz : ∀ M2 : Mem, (XR s M2 ∧ (∀ k, 73 ≤ k → M2 k = M k)) → Z np ls (mi (rRule s k w) :: r) M2) : Z ip ls (mi w :: mi k :: mr 0 :: r) M := w_callV2 hZ ip np hc hn rfl rfl h3 ⟨_, _, _, rfl, hp, fun M2 h => kz M2 h⟩
def cd_X6_ofRule : List Sem := [I_aload 0, I_get 6 0, I_iload 1, I_callV 0 1 sp_X0_hasRule, I_ifne 7, I_const (-1000000001), I_iret, I_iload 2, I_tsw (0) [9, 15, 21, 27, 38, 43] 54, I_aload 0, I_get 6 0, I_get 0 0, I_iload 1, I_iald, I_iret, I_aload 0, I_get 6 0, I_get 0 1, I_iload 1, I_iald, I_iret, I_aload 0, I_get 6 0, I_get 0 2, I_iload 1, I_iald, I_iret, I_aload 0, I_get 6 4, I_const (-1), I_callV 5 1 sp_X5_write, I_pop, I_aload 0, I_get 6 4, I_get 5 1, I_iload 1, I_iald, I_iret, I_aload 0, I_get 6 4, I_iload 1, I_callV 5 1 sp_X5_write, I_iret, I_aload 0, I_get 6 4, I_const (-1), I_callV 5 1 sp_X5_write, I_pop, I_aload 0, I_get 6 4, I_get 5 2, I_iload 1, I_iald, I_iret, I_const (-1000000002), I_iret]
def pc_X6_ofRule : List Nat := [0, 1, 4, 5, 8, 11, 13, 14, 15, 52, 53, 56, 59, 60, 61, 62, 63, 66, 69, 70, 71, 72, 73, 76, 79, 80, 81, 82, 83, 86, 87, 90, 91, 92, 95, 98, 99, 100, 101, 102, 105, 106, 109, 110, 111, 114, 115, 118, 119, 120, 123, 126, 127, 128, 129, 131]
set_option maxRecDepth 100000 in
set_option maxHeartbeats 4000000 in
theorem b_X6_ofRule (s : St) (k : Int) (i_k : InR k) (w : Int) (i_w : InR w) (M : Mem) (Ret : KR) (hp : XR s M ∧ stOk s) (hR : ∀ M2 : Mem, (XR s M2 ∧ (∀ k, 73 ≤ k → M2 k = M k)) → Ret (some (mi (rRule s k w))) M2) (hM : MOk M) (Z : KZ) (hZ : Sim cd_X6_ofRule Z Ret) : Z 0 [some (mr 0), some (mi k), some (mi w)] [] M := by
  obtain ⟨hx, hv⟩ := hp
  have hB := hx.bx hv
  have hvo := hx.vo hv
  have h240 : (evN (sB s) (-1)).length ≤ 240 := aEv_240 hv.1 (-1) (i := 0) (Int.le_refl _)
  have h241 : (aEv (sB s) (-1) 0).length ≤ 240 := h240
  have fin : ∀ (x : Int) (M2 : Mem), rRule s k w = x → XR s M2 → (∀ k, 73 ≤ k → M2 k = M k) → Ret (some (mi x)) M2 := by
    intro x M2 e h h2; subst e; exact hR M2 ⟨h, h2⟩
  have non : ∀ x : Int, rRule s k w = x → Ret (some (mi x)) M := fun x q => fin x M q hx (fun _ _ => rfl)
  have h4 := hx.r4
  refine w_aload hZ 0 1 rfl rfl rfl ?_
  refine w_getr hZ 1 2 rfl rfl rfl rfl rfl ?_
  refine w_iload hZ 2 3 rfl rfl rfl ?_
  refine k_X0_hasRule hZ 3 4 rfl rfl (Nat.le_of_ble_eq_true rfl)  ?_
  refine w_ifne hZ 4 5 rfl rfl (fun c4 => ?_) (fun c4 => ?_)
  · have hk := b2i_e.mp c4
    have hkt : ((k.toNat : Nat) : Int) < M 1 4 := by omega
    refine w_iload hZ 7 8 rfl rfl rfl ?_
    refine w_tsw6 hZ 8 rfl (fun c8 => ?_) (fun c8 => ?_) (fun c8 => ?_) (fun c8 => ?_) (fun c8 => ?_) (fun c8 => ?_) (fun c8 => ?_)
    · refine w_aload hZ 9 10 rfl rfl rfl ?_
      refine w_getr hZ 10 11 rfl rfl rfl rfl rfl ?_
      refine w_getr hZ 11 12 rfl rfl rfl rfl rfl ?_
      refine w_iload hZ 12 13 rfl rfl rfl ?_
      refine w_iald hZ 13 14 rfl rfl rfl (by omega) (by omega) ?_
      refine w_iret hZ 14 rfl ?_
      exact non _ (by unfold rRule; rw [if_neg (fun z => z ⟨hk.1, by omega⟩), if_pos (by omega)]; rw [← hx.1]; exact cut_in hkt)
    · refine w_aload hZ 15 16 rfl rfl rfl ?_
      refine w_getr hZ 16 17 rfl rfl rfl rfl rfl ?_
      refine w_getr hZ 17 18 rfl rfl rfl rfl rfl ?_
      refine w_iload hZ 18 19 rfl rfl rfl ?_
      refine w_iald hZ 19 20 rfl rfl rfl (by omega) (by omega) ?_
      refine w_iret hZ 20 rfl ?_
      exact non _ (by unfold rRule; rw [if_neg (fun z => z ⟨hk.1, by omega⟩), if_neg (by omega), if_pos (by omega)]; rw [← hx.1]; exact cut_in hkt)
    · refine w_aload hZ 21 22 rfl rfl rfl ?_
      refine w_getr hZ 22 23 rfl rfl rfl rfl rfl ?_
      refine w_getr hZ 23 24 rfl rfl rfl rfl rfl ?_
      refine w_iload hZ 24 25 rfl rfl rfl ?_
      refine w_iald hZ 25 26 rfl rfl rfl (by omega) (by omega) ?_
      refine w_iret hZ 26 rfl ?_
      exact non _ (by unfold rRule; rw [if_neg (fun z => z ⟨hk.1, by omega⟩), if_neg (by omega), if_neg (by omega), if_pos (by omega)]; rw [← hx.1]; exact cut_in hkt)
    · refine w_aload hZ 27 28 rfl rfl rfl ?_
      refine w_getr hZ 28 29 rfl rfl rfl rfl rfl ?_
      refine w_const hZ 29 30 rfl rfl  ?_
      refine k_X5_write hZ 30 31 rfl rfl (Nat.le_of_ble_eq_true rfl) hvo (fun M30 p30 => ?_)
      rw [hx.1] at p30
      obtain ⟨w1, w2, w3, w4⟩ := p30
      refine w_pop hZ 31 32 rfl rfl rfl ?_
      refine w_aload hZ 32 33 rfl rfl rfl ?_
      refine w_getr hZ 33 34 rfl rfl rfl rfl rfl ?_
      refine w_getr hZ 34 35 rfl rfl rfl rfl rfl ?_
      refine w_iload hZ 35 36 rfl rfl rfl ?_
      refine w_iald hZ 36 37 rfl rfl rfl (by omega) (by omega) ?_
      refine w_iret hZ 37 rfl ?_
      refine fin _ _ ?_ (hx.wr w4) (fun k hk => w4 k (by omega))
      unfold rRule; rw [if_neg (fun z => z ⟨hk.1, by omega⟩), if_neg (by omega), if_neg (by omega), if_neg (by omega), if_pos (by omega)]
      rw [(w1.2.2 k.toNat (by omega)).1, show ((k.toNat : Nat) : Int) = k by omega]
    · refine w_aload hZ 38 39 rfl rfl rfl ?_
      refine w_getr hZ 39 40 rfl rfl rfl rfl rfl ?_
      refine w_iload hZ 40 41 rfl rfl rfl ?_
      refine k_X5_write hZ 41 42 rfl rfl (Nat.le_of_ble_eq_true rfl) hvo (fun M41 p41 => ?_)
      refine w_iret hZ 42 rfl ?_
      rw [hx.1] at p41 ⊢
      exact fin _ _ (by unfold rRule; rw [if_neg (fun z => z ⟨hk.1, by omega⟩), if_neg (by omega), if_neg (by omega), if_neg (by omega), if_neg (by omega), if_pos (by omega)]) (hx.wr p41.2.2.2) (fun k hk => p41.2.2.2 k (by omega))
    · refine w_aload hZ 43 44 rfl rfl rfl ?_
      refine w_getr hZ 44 45 rfl rfl rfl rfl rfl ?_
      refine w_const hZ 45 46 rfl rfl  ?_
      refine k_X5_write hZ 46 47 rfl rfl (Nat.le_of_ble_eq_true rfl) hvo (fun M46 p46 => ?_)
      rw [hx.1] at p46
      obtain ⟨w1, w2, w3, w4⟩ := p46
      refine w_pop hZ 47 48 rfl rfl rfl ?_
      refine w_aload hZ 48 49 rfl rfl rfl ?_
      refine w_getr hZ 49 50 rfl rfl rfl rfl rfl ?_
      refine w_getr hZ 50 51 rfl rfl rfl rfl rfl ?_
      refine w_iload hZ 51 52 rfl rfl rfl ?_
      refine w_iald hZ 52 53 rfl rfl rfl (by omega) (by omega) ?_
      refine w_iret hZ 53 rfl ?_
      refine fin _ _ ?_ (hx.wr w4) (fun k hk => w4 k (by omega))
      unfold rRule; rw [if_neg (fun z => z ⟨hk.1, by omega⟩), if_neg (by omega), if_neg (by omega), if_neg (by omega), if_neg (by omega), if_neg (by omega), if_pos (by omega)]
      rw [(w1.2.2 k.toNat (by omega)).2, show ((k.toNat : Nat) : Int) = k by omega]
    · refine w_const hZ 54 55 rfl rfl  ?_
      refine w_iret hZ 55 rfl ?_
      exact non _ (by unfold rRule; rw [if_neg (fun z => z ⟨hk.1, by omega⟩), if_neg (by omega), if_neg (by omega), if_neg (by omega), if_neg (by omega), if_neg (by omega), if_neg (by omega)])
  · refine w_const hZ 5 6 rfl rfl  ?_
    refine w_iret hZ 6 rfl ?_
    exact non _ (by unfold rRule; rw [if_pos (fun z => (b2i_z.mp c4) ⟨z.1, by omega⟩)])
set_option maxRecDepth 100000 in
set_option maxHeartbeats 4000000 in
theorem ao_X6_ofRule : AllOk yX6_ofRule.cls cX6_ofRule 3 5 120 (some .int) none pc_X6_ofRule 0 cd_X6_ofRule := ⟨s_aload_n (k := 0) (by decide +kernel) rfl rfl, ⟨s_get (C := RX6) (T := TX6) (N := 10) rfl inT6 (by decide) tw_1_197 (by decide +kernel) rfl, ⟨s_iload_n (k := 1) (by decide +kernel) rfl rfl, ⟨s_callV (C := RX0) (T := TX0) (N := 8) rfl ct_X0_hasRule (by decide) (by decide) ⟨rfl, by decide +kernel, by decide +kernel, by decide +kernel⟩ tw_2_39 tw_2_40 tw_2_41 tw_1_2 tw_2_42 (by decide +kernel) rfl, ⟨s_ifne (off := (6)) (by decide +kernel) rfl rfl, ⟨s_ldc (v := (-1000000001)) tw_2_43 (by decide +kernel) rfl ⟨by decide, by decide⟩ (by decide +kernel), ⟨s_iret rfl (by decide +kernel), ⟨s_iload_n (k := 2) (by decide +kernel) rfl rfl, ⟨s_tsw (dfl := 114) (hi0 := 5) (offs := #[37, 47, 57, 67, 86, 95]) (len := 37) (by decide +kernel) rfl rfl rfl, ⟨s_aload_n (k := 0) (by decide +kernel) rfl rfl, ⟨s_get (C := RX6) (T := TX6) (N := 10) rfl inT6 (by decide) tw_1_197 (by decide +kernel) rfl, ⟨s_get (C := RX0) (T := TX0) (N := 8) rfl inT0 (by decide) tw_1_28 (by decide +kernel) rfl, ⟨s_iload_n (k := 1) (by decide +kernel) rfl rfl, ⟨s_iald (by decide +kernel) rfl, ⟨s_iret rfl (by decide +kernel), ⟨s_aload_n (k := 0) (by decide +kernel) rfl rfl, ⟨s_get (C := RX6) (T := TX6) (N := 10) rfl inT6 (by decide) tw_1_197 (by decide +kernel) rfl, ⟨s_get (C := RX0) (T := TX0) (N := 8) rfl inT0 (by decide) tw_1_31 (by decide +kernel) rfl, ⟨s_iload_n (k := 1) (by decide +kernel) rfl rfl, ⟨s_iald (by decide +kernel) rfl, ⟨s_iret rfl (by decide +kernel), ⟨s_aload_n (k := 0) (by decide +kernel) rfl rfl, ⟨s_get (C := RX6) (T := TX6) (N := 10) rfl inT6 (by decide) tw_1_197 (by decide +kernel) rfl, ⟨s_get (C := RX0) (T := TX0) (N := 8) rfl inT0 (by decide) tw_1_33 (by decide +kernel) rfl, ⟨s_iload_n (k := 1) (by decide +kernel) rfl rfl, ⟨s_iald (by decide +kernel) rfl, ⟨s_iret rfl (by decide +kernel), ⟨s_aload_n (k := 0) (by decide +kernel) rfl rfl, ⟨s_get (C := RX6) (T := TX6) (N := 10) rfl inT6 (by decide) tw_1_201 (by decide +kernel) rfl, ⟨s_iconst (by decide +kernel) rfl ⟨by decide, by decide⟩, ⟨s_callV (C := RX5) (T := TX5) (N := 12) rfl ct_X5_write (by decide) (by decide) ⟨rfl, by decide +kernel, by decide +kernel, by decide +kernel⟩ tw_2_134 tw_2_135 tw_2_136 tw_1_4 tw_2_137 (by decide +kernel) rfl, ⟨s_pop (by decide +kernel) rfl, ⟨s_aload_n (k := 0) (by decide +kernel) rfl rfl, ⟨s_get (C := RX6) (T := TX6) (N := 10) rfl inT6 (by decide) tw_1_201 (by decide +kernel) rfl, ⟨s_get (C := RX5) (T := TX5) (N := 12) rfl inT5 (by decide) tw_1_92 (by decide +kernel) rfl, ⟨s_iload_n (k := 1) (by decide +kernel) rfl rfl, ⟨s_iald (by decide +kernel) rfl, ⟨s_iret rfl (by decide +kernel), ⟨s_aload_n (k := 0) (by decide +kernel) rfl rfl, ⟨s_get (C := RX6) (T := TX6) (N := 10) rfl inT6 (by decide) tw_1_201 (by decide +kernel) rfl, ⟨s_iload_n (k := 1) (by decide +kernel) rfl rfl, ⟨s_callV (C := RX5) (T := TX5) (N := 12) rfl ct_X5_write (by decide) (by decide) ⟨rfl, by decide +kernel, by decide +kernel, by decide +kernel⟩ tw_2_134 tw_2_135 tw_2_136 tw_1_4 tw_2_137 (by decide +kernel) rfl, ⟨s_iret rfl (by decide +kernel), ⟨s_aload_n (k := 0) (by decide +kernel) rfl rfl, ⟨s_get (C := RX6) (T := TX6) (N := 10) rfl inT6 (by decide) tw_1_201 (by decide +kernel) rfl, ⟨s_iconst (by decide +kernel) rfl ⟨by decide, by decide⟩, ⟨s_callV (C := RX5) (T := TX5) (N := 12) rfl ct_X5_write (by decide) (by decide) ⟨rfl, by decide +kernel, by decide +kernel, by decide +kernel⟩ tw_2_134 tw_2_135 tw_2_136 tw_1_4 tw_2_137 (by decide +kernel) rfl, ⟨s_pop (by decide +kernel) rfl, ⟨s_aload_n (k := 0) (by decide +kernel) rfl rfl, ⟨s_get (C := RX6) (T := TX6) (N := 10) rfl inT6 (by decide) tw_1_201 (by decide +kernel) rfl, ⟨s_get (C := RX5) (T := TX5) (N := 12) rfl inT5 (by decide) tw_1_94 (by decide +kernel) rfl, ⟨s_iload_n (k := 1) (by decide +kernel) rfl rfl, ⟨s_iald (by decide +kernel) rfl, ⟨s_iret rfl (by decide +kernel), ⟨s_ldc (v := (-1000000002)) tw_2_2 (by decide +kernel) rfl ⟨by decide, by decide⟩ (by decide +kernel), ⟨s_iret rfl (by decide +kernel), trivial⟩⟩⟩⟩⟩⟩⟩⟩⟩⟩⟩⟩⟩⟩⟩⟩⟩⟩⟩⟩⟩⟩⟩⟩⟩⟩⟩⟩⟩⟩⟩⟩⟩⟩⟩⟩⟩⟩⟩⟩⟩⟩⟩⟩⟩⟩⟩⟩⟩⟩⟩⟩⟩⟩⟩⟩
theorem ct_X6_ofRule : Ctr yX6_ofRule cX6_ofRule 3 (some .int) 5 120 sp_X6_ofRule := by
  refine ctr_of (by decide +kernel) ao_X6_ofRule rfl ?_
  rintro av M Ret ⟨s, k, w, rfl, hp, hR⟩ hok hM
  exact ⟨Nat.le_of_ble_eq_true rfl, fun Z hZ => b_X6_ofRule s k (hok _ (List.mem_of_getElem? (i := 1) rfl)) w (hok _ (List.mem_of_getElem? (i := 2) rfl)) M Ret hp hR hM Z hZ⟩
def sp_X6_by : SP := fun av M Ret => ∃ s : St, ∃ c : Int, av = [mr 0, mi c] ∧ (XR s M ∧ stOk s) ∧ (∀ M2 : Mem, (XR s M2 ∧ (∀ k, 73 ≤ k → M2 k = M k)) → Ret (some (mi (rBy s c))) M2)
theorem k_X6_by {code : List Sem} {Z : KZ} {Ret : KR} {ls : List (Option MV)} {M : Mem} {r : List MV} (hZ : Sim code Z Ret) (ip np : Nat) {s : St} {c : Int} (hc : code[ip]? = some (I_callV 6 1 sp_X6_by)) (hn : ip + 1 = np) (h3 : catS r ≤ 8)  (hp : XR s M ∧ stOk s) (kz : ∀ M2 : Mem, (XR s M2 ∧ (∀ k, 73 ≤ k → M2 k = M k)) → Z np ls (mi (rBy s c) :: r) M2) : Z ip ls (mi c :: mr 0 :: r) M := w_callV1 hZ ip np hc hn rfl rfl h3 ⟨_, _, rfl, hp, fun M2 h => kz M2 h⟩
def cd_X6_by : List Sem := [I_iload 1, I_callS 1 sp_X6_isCell, I_ifeq 8, I_aload 0, I_get 6 0, I_iload 1, I_callV 0 1 sp_X0_ruleOfCell, I_goto 9, I_const (-1000000002), I_iret]
def pc_X6_by : List Nat := [0, 1, 4, 7, 8, 11, 12, 15, 18, 20]
set_option maxRecDepth 100000 in
set_option maxHeartbeats 4000000 in
theorem b_X6_by (s : St) (c : Int) (i_c : InR c) (M : Mem) (Ret : KR) (hp : XR s M ∧ stOk s) (hR : ∀ M2 : Mem, (XR s M2 ∧ (∀ k, 73 ≤ k → M2 k = M k)) → Ret (some (mi (rBy s c))) M2) (hM : MOk M) (Z : KZ) (hZ : Sim cd_X6_by Z Ret) : Z 0 [some (mr 0), some (mi c)] [] M := by
  obtain ⟨hx, hv⟩ := hp
  have hB := hx.bx hv
  have hvo := hx.vo hv
  have h240 : (evN (sB s) (-1)).length ≤ 240 := aEv_240 hv.1 (-1) (i := 0) (Int.le_refl _)
  have h241 : (aEv (sB s) (-1) 0).length ≤ 240 := h240
  have fin : ∀ (x : Int) (M2 : Mem), rBy s c = x → XR s M2 → (∀ k, 73 ≤ k → M2 k = M k) → Ret (some (mi x)) M2 := by
    intro x M2 e h h2; subst e; exact hR M2 ⟨h, h2⟩
  have non : ∀ x : Int, rBy s c = x → Ret (some (mi x)) M := fun x q => fin x M q hx (fun _ _ => rfl)
  refine w_iload hZ 0 1 rfl rfl rfl ?_
  refine k_X6_isCell hZ 1 2 rfl rfl (Nat.le_of_ble_eq_true rfl)  ?_
  refine w_ifeq hZ 2 3 rfl rfl (fun c2 => ?_) (fun c2 => ?_)
  · refine w_const hZ 8 9 rfl rfl  ?_
    refine w_iret hZ 9 rfl ?_
    first
      | exact non _ (by unfold rBy; rw [if_neg (b2i_z.mp c2)])
      | exact non _ (by unfold rBy; rw [if_pos (b2i_e.mp c2), ← hx.1, rOf_bX hB])
  · refine w_aload hZ 3 4 rfl rfl rfl ?_
    refine w_getr hZ 4 5 rfl rfl rfl rfl rfl ?_
    refine w_iload hZ 5 6 rfl rfl rfl ?_
    refine k_X0_ruleOfCell hZ 6 7 rfl rfl (Nat.le_of_ble_eq_true rfl) hB ?_
    refine w_goto hZ 7 9 rfl ?_
    refine w_iret hZ 9 rfl ?_
    first
      | exact non _ (by unfold rBy; rw [if_neg (b2i_z.mp c2)])
      | exact non _ (by unfold rBy; rw [if_pos (b2i_e.mp c2), ← hx.1, rOf_bX hB])
set_option maxRecDepth 100000 in
set_option maxHeartbeats 4000000 in
theorem ao_X6_by : AllOk yX6_by.cls cX6_by 2 1 22 (some .int) none pc_X6_by 0 cd_X6_by := ⟨s_iload_n (k := 1) (by decide +kernel) rfl rfl, ⟨s_callS ct_X6_isCell (by decide) (by decide) ⟨by decide +kernel, by decide +kernel, by decide +kernel⟩ tw_3_32 tw_3_33 tw_1_1 tw_3_34 (by decide +kernel) rfl, ⟨s_ifeq (off := (14)) (by decide +kernel) rfl rfl, ⟨s_aload_n (k := 0) (by decide +kernel) rfl rfl, ⟨s_get (C := RX6) (T := TX6) (N := 10) rfl inT6 (by decide) tw_1_197 (by decide +kernel) rfl, ⟨s_iload_n (k := 1) (by decide +kernel) rfl rfl, ⟨s_callV (C := RX0) (T := TX0) (N := 8) rfl ct_X0_ruleOfCell (by decide) (by decide) ⟨rfl, by decide +kernel, by decide +kernel, by decide +kernel⟩ tw_3_35 tw_2_12 tw_2_13 tw_1_2 tw_2_14 (by decide +kernel) rfl, ⟨s_goto (off := (5)) (by decide +kernel) rfl, ⟨s_ldc (v := (-1000000002)) tw_2_2 (by decide +kernel) rfl ⟨by decide, by decide⟩ (by decide +kernel), ⟨s_iret rfl (by decide +kernel), trivial⟩⟩⟩⟩⟩⟩⟩⟩⟩⟩
theorem ct_X6_by : Ctr yX6_by cX6_by 2 (some .int) 1 22 sp_X6_by := by
  refine ctr_of (by decide +kernel) ao_X6_by rfl ?_
  rintro av M Ret ⟨s, c, rfl, hp, hR⟩ hok hM
  exact ⟨Nat.le_of_ble_eq_true rfl, fun Z hZ => b_X6_by s c (hok _ (List.mem_of_getElem? (i := 1) rfl)) M Ret hp hR hM Z hZ⟩
def sp_X6_read : SP := fun av M Ret => ∃ s : St, av = [mr 0] ∧ (XR s M ∧ stOk s) ∧ (∀ M2 : Mem, (XR s M2 ∧ (∀ k, 73 ≤ k → M2 k = M k)) → Ret (some (mi (rRead s))) M2)
theorem k_X6_read {code : List Sem} {Z : KZ} {Ret : KR} {ls : List (Option MV)} {M : Mem} {r : List MV} (hZ : Sim code Z Ret) (ip np : Nat) {s : St}  (hc : code[ip]? = some (I_callV 6 0 sp_X6_read)) (hn : ip + 1 = np) (h3 : catS r ≤ 8)  (hp : XR s M ∧ stOk s) (kz : ∀ M2 : Mem, (XR s M2 ∧ (∀ k, 73 ≤ k → M2 k = M k)) → Z np ls (mi (rRead s) :: r) M2) : Z ip ls (mr 0 :: r) M := w_callV0 hZ ip np hc hn rfl rfl h3 ⟨_, rfl, hp, fun M2 h => kz M2 h⟩
def cd_X6_read : List Sem := [I_aload 0, I_get 6 8, I_aload 0, I_get 6 7, I_callV 4 1 sp_X4_readBack, I_aload 0, I_get 6 8, I_get 4 2, I_ifne 13, I_aload 0, I_get 6 8, I_get 4 1, I_goto 18, I_const (-10), I_aload 0, I_get 6 8, I_get 4 2, I_sub, I_iret]
def pc_X6_read : List Nat := [0, 1, 4, 5, 8, 11, 12, 15, 18, 21, 22, 25, 28, 31, 33, 34, 37, 40, 41]
set_option maxRecDepth 100000 in
set_option maxHeartbeats 4000000 in
theorem b_X6_read (s : St)  (M : Mem) (Ret : KR) (hp : XR s M ∧ stOk s) (hR : ∀ M2 : Mem, (XR s M2 ∧ (∀ k, 73 ≤ k → M2 k = M k)) → Ret (some (mi (rRead s))) M2) (hM : MOk M) (Z : KZ) (hZ : Sim cd_X6_read Z Ret) : Z 0 [some (mr 0)] [] M := by
  obtain ⟨hx, hv⟩ := hp
  have hB := hx.bx hv
  have hvo := hx.vo hv
  have h240 : (evN (sB s) (-1)).length ≤ 240 := aEv_240 hv.1 (-1) (i := 0) (Int.le_refl _)
  have h241 : (aEv (sB s) (-1) 0).length ≤ 240 := h240
  have fin : ∀ (x : Int) (M2 : Mem), rRead s = x → XR s M2 → (∀ k, 73 ≤ k → M2 k = M k) → Ret (some (mi x)) M2 := by
    intro x M2 e h h2; subst e; exact hR M2 ⟨h, h2⟩
  have non : ∀ x : Int, rRead s = x → Ret (some (mi x)) M := fun x q => fin x M q hx (fun _ _ => rfl)
  have hks : 0 ≤ (rdS s).1 ∧ (rdS s).1 ≤ 2 := rd_kind _ _ _ _ _
  refine w_aload hZ 0 1 rfl rfl rfl ?_
  refine w_getr hZ 1 2 rfl rfl rfl rfl rfl ?_
  refine w_aload hZ 2 3 rfl rfl rfl ?_
  refine w_geti hZ 3 4 rfl rfl rfl rfl rfl ?_
  refine k_X4_readBack hZ 4 5 rfl rfl (Nat.le_of_ble_eq_true rfl) ⟨hvo, by rw [hx.2.2.2.2.2.1]; exact hv.2.2.2.2.1, by rw [hx.2.2.2.2.2.1]; exact hv.2.2.2.2.2.1⟩ (fun M4 p4 => ?_)
  rw [hx.1, hx.2.2.2.2.2.1, hx.2.2.2.2.2.2] at p4
  have hxr : XR s M4 := hx.same (fun k hk => p4.2.2.2.2.2 k (by omega) (by omega))
  have hfr : ∀ k, 73 ≤ k → M4 k = M k := fun k hk => p4.2.2.2.2.2 k (by omega) (by omega)
  change RdP (rdS s) M M4 at p4
  obtain ⟨r1, r2, r3, r4, r5, r6⟩ := p4
  refine w_aload hZ 5 6 rfl rfl rfl ?_
  refine w_getr hZ 6 7 rfl rfl rfl rfl rfl ?_
  refine w_geti hZ 7 8 rfl rfl rfl rfl rfl ?_
  refine w_ifne hZ 8 9 rfl rfl (fun c8 => ?_) (fun c8 => ?_)
  · refine w_const hZ 13 14 rfl rfl  ?_
    refine w_aload hZ 14 15 rfl rfl rfl ?_
    refine w_getr hZ 15 16 rfl rfl rfl rfl rfl ?_
    refine w_geti hZ 16 17 rfl rfl rfl rfl rfl ?_
    refine w_sub hZ 17 18 rfl rfl (by unfold InR; omega) ?_
    refine w_iret hZ 18 rfl ?_
    first
      | exact fin _ _ (by unfold rRead; rw [if_pos (by rw [← r1]; exact c8)]; exact r3.symm) hxr hfr
      | exact fin _ _ (by unfold rRead; rw [if_neg (by rw [← r1]; exact c8)]; rw [r1]) hxr hfr
  · refine w_aload hZ 9 10 rfl rfl rfl ?_
    refine w_getr hZ 10 11 rfl rfl rfl rfl rfl ?_
    refine w_geti hZ 11 12 rfl rfl rfl rfl rfl ?_
    refine w_goto hZ 12 18 rfl ?_
    refine w_iret hZ 18 rfl ?_
    first
      | exact fin _ _ (by unfold rRead; rw [if_pos (by rw [← r1]; exact c8)]; exact r3.symm) hxr hfr
      | exact fin _ _ (by unfold rRead; rw [if_neg (by rw [← r1]; exact c8)]; rw [r1]) hxr hfr
set_option maxRecDepth 100000 in
set_option maxHeartbeats 4000000 in
theorem ao_X6_read : AllOk yX6_read.cls cX6_read 1 6 132 (some .int) none pc_X6_read 0 cd_X6_read := ⟨s_aload_n (k := 0) (by decide +kernel) rfl rfl, ⟨s_get (C := RX6) (T := TX6) (N := 10) rfl inT6 (by decide) tw_1_205 (by decide +kernel) rfl, ⟨s_aload_n (k := 0) (by decide +kernel) rfl rfl, ⟨s_get (C := RX6) (T := TX6) (N := 10) rfl inT6 (by decide) tw_1_204 (by decide +kernel) rfl, ⟨s_callV (C := RX4) (T := TX4) (N := 8) rfl ct_X4_readBack (by decide) (by decide) ⟨rfl, by decide +kernel, by decide +kernel, by decide +kernel⟩ tw_3_49 tw_3_50 tw_3_51 tw_1_6 tw_3_52 (by decide +kernel) rfl, ⟨s_aload_n (k := 0) (by decide +kernel) rfl rfl, ⟨s_get (C := RX6) (T := TX6) (N := 10) rfl inT6 (by decide) tw_1_205 (by decide +kernel) rfl, ⟨s_get (C := RX4) (T := TX4) (N := 8) rfl inT4 (by decide) tw_1_163 (by decide +kernel) rfl, ⟨s_ifne (off := (13)) (by decide +kernel) rfl rfl, ⟨s_aload_n (k := 0) (by decide +kernel) rfl rfl, ⟨s_get (C := RX6) (T := TX6) (N := 10) rfl inT6 (by decide) tw_1_205 (by decide +kernel) rfl, ⟨s_get (C := RX4) (T := TX4) (N := 8) rfl inT4 (by decide) tw_1_161 (by decide +kernel) rfl, ⟨s_goto (off := (13)) (by decide +kernel) rfl, ⟨s_bipush (by decide +kernel) rfl ⟨by decide, by decide⟩ (by decide +kernel), ⟨s_aload_n (k := 0) (by decide +kernel) rfl rfl, ⟨s_get (C := RX6) (T := TX6) (N := 10) rfl inT6 (by decide) tw_1_205 (by decide +kernel) rfl, ⟨s_get (C := RX4) (T := TX4) (N := 8) rfl inT4 (by decide) tw_1_163 (by decide +kernel) rfl, ⟨s_sub (by decide +kernel) rfl, ⟨s_iret rfl (by decide +kernel), trivial⟩⟩⟩⟩⟩⟩⟩⟩⟩⟩⟩⟩⟩⟩⟩⟩⟩⟩⟩
theorem ct_X6_read : Ctr yX6_read cX6_read 1 (some .int) 6 132 sp_X6_read := by
  refine ctr_of (by decide +kernel) ao_X6_read rfl ?_
  rintro av M Ret ⟨s, rfl, hp, hR⟩ hok hM
  exact ⟨Nat.le_of_ble_eq_true rfl, fun Z hZ => b_X6_read s  M Ret hp hR hM Z hZ⟩
def sp_X6_fault : SP := fun av M Ret => ∃ s : St, av = [mr 0] ∧ (XR s M ∧ stOk s) ∧ (∀ M2 : Mem, (XR s M2 ∧ (∀ k, 73 ≤ k → M2 k = M k)) → Ret (some (mi (rFault s))) M2)
theorem k_X6_fault {code : List Sem} {Z : KZ} {Ret : KR} {ls : List (Option MV)} {M : Mem} {r : List MV} (hZ : Sim code Z Ret) (ip np : Nat) {s : St}  (hc : code[ip]? = some (I_callV 6 0 sp_X6_fault)) (hn : ip + 1 = np) (h3 : catS r ≤ 8)  (hp : XR s M ∧ stOk s) (kz : ∀ M2 : Mem, (XR s M2 ∧ (∀ k, 73 ≤ k → M2 k = M k)) → Z np ls (mi (rFault s) :: r) M2) : Z ip ls (mr 0 :: r) M := w_callV0 hZ ip np hc hn rfl rfl h3 ⟨_, rfl, hp, fun M2 h => kz M2 h⟩
def cd_X6_fault : List Sem := [I_aload 0, I_get 6 8, I_aload 0, I_get 6 7, I_callV 4 1 sp_X4_readBack, I_aload 0, I_get 6 8, I_get 4 3, I_iret]
def pc_X6_fault : List Nat := [0, 1, 4, 5, 8, 11, 12, 15, 18]
set_option maxRecDepth 100000 in
set_option maxHeartbeats 4000000 in
theorem b_X6_fault (s : St)  (M : Mem) (Ret : KR) (hp : XR s M ∧ stOk s) (hR : ∀ M2 : Mem, (XR s M2 ∧ (∀ k, 73 ≤ k → M2 k = M k)) → Ret (some (mi (rFault s))) M2) (hM : MOk M) (Z : KZ) (hZ : Sim cd_X6_fault Z Ret) : Z 0 [some (mr 0)] [] M := by
  obtain ⟨hx, hv⟩ := hp
  have hB := hx.bx hv
  have hvo := hx.vo hv
  have h240 : (evN (sB s) (-1)).length ≤ 240 := aEv_240 hv.1 (-1) (i := 0) (Int.le_refl _)
  have h241 : (aEv (sB s) (-1) 0).length ≤ 240 := h240
  have fin : ∀ (x : Int) (M2 : Mem), rFault s = x → XR s M2 → (∀ k, 73 ≤ k → M2 k = M k) → Ret (some (mi x)) M2 := by
    intro x M2 e h h2; subst e; exact hR M2 ⟨h, h2⟩
  have non : ∀ x : Int, rFault s = x → Ret (some (mi x)) M := fun x q => fin x M q hx (fun _ _ => rfl)
  refine w_aload hZ 0 1 rfl rfl rfl ?_
  refine w_getr hZ 1 2 rfl rfl rfl rfl rfl ?_
  refine w_aload hZ 2 3 rfl rfl rfl ?_
  refine w_geti hZ 3 4 rfl rfl rfl rfl rfl ?_
  refine k_X4_readBack hZ 4 5 rfl rfl (Nat.le_of_ble_eq_true rfl) ⟨hvo, by rw [hx.2.2.2.2.2.1]; exact hv.2.2.2.2.1, by rw [hx.2.2.2.2.2.1]; exact hv.2.2.2.2.2.1⟩ (fun M4 p4 => ?_)
  rw [hx.1, hx.2.2.2.2.2.1, hx.2.2.2.2.2.2] at p4
  have hxr : XR s M4 := hx.same (fun k hk => p4.2.2.2.2.2 k (by omega) (by omega))
  have hfr : ∀ k, 73 ≤ k → M4 k = M k := fun k hk => p4.2.2.2.2.2 k (by omega) (by omega)
  change RdP (rdS s) M M4 at p4
  obtain ⟨r1, r2, r3, r4, r5, r6⟩ := p4
  refine w_aload hZ 5 6 rfl rfl rfl ?_
  refine w_getr hZ 6 7 rfl rfl rfl rfl rfl ?_
  refine w_geti hZ 7 8 rfl rfl rfl rfl rfl ?_
  refine w_iret hZ 8 rfl ?_
  exact fin _ _ r2.symm hxr hfr
set_option maxRecDepth 100000 in
set_option maxHeartbeats 4000000 in
theorem ao_X6_fault : AllOk yX6_fault.cls cX6_fault 1 6 132 (some .int) none pc_X6_fault 0 cd_X6_fault := ⟨s_aload_n (k := 0) (by decide +kernel) rfl rfl, ⟨s_get (C := RX6) (T := TX6) (N := 10) rfl inT6 (by decide) tw_1_205 (by decide +kernel) rfl, ⟨s_aload_n (k := 0) (by decide +kernel) rfl rfl, ⟨s_get (C := RX6) (T := TX6) (N := 10) rfl inT6 (by decide) tw_1_204 (by decide +kernel) rfl, ⟨s_callV (C := RX4) (T := TX4) (N := 8) rfl ct_X4_readBack (by decide) (by decide) ⟨rfl, by decide +kernel, by decide +kernel, by decide +kernel⟩ tw_3_49 tw_3_50 tw_3_51 tw_1_6 tw_3_52 (by decide +kernel) rfl, ⟨s_aload_n (k := 0) (by decide +kernel) rfl rfl, ⟨s_get (C := RX6) (T := TX6) (N := 10) rfl inT6 (by decide) tw_1_205 (by decide +kernel) rfl, ⟨s_get (C := RX4) (T := TX4) (N := 8) rfl inT4 (by decide) tw_1_165 (by decide +kernel) rfl, ⟨s_iret rfl (by decide +kernel), trivial⟩⟩⟩⟩⟩⟩⟩⟩⟩
theorem ct_X6_fault : Ctr yX6_fault cX6_fault 1 (some .int) 6 132 sp_X6_fault := by
  refine ctr_of (by decide +kernel) ao_X6_fault rfl ?_
  rintro av M Ret ⟨s, rfl, hp, hR⟩ hok hM
  exact ⟨Nat.le_of_ble_eq_true rfl, fun Z hZ => b_X6_fault s  M Ret hp hR hM Z hZ⟩
def sp_X6_sign : SP := fun av M Ret => ∃ s : St, ∃ i : Int, av = [mr 0, mi i] ∧ (XR s M ∧ stOk s) ∧ (∀ M2 : Mem, (XR s M2 ∧ (∀ k, 73 ≤ k → M2 k = M k)) → Ret (some (mi (rSign s i))) M2)
theorem k_X6_sign {code : List Sem} {Z : KZ} {Ret : KR} {ls : List (Option MV)} {M : Mem} {r : List MV} (hZ : Sim code Z Ret) (ip np : Nat) {s : St} {i : Int} (hc : code[ip]? = some (I_callV 6 1 sp_X6_sign)) (hn : ip + 1 = np) (h3 : catS r ≤ 8)  (hp : XR s M ∧ stOk s) (kz : ∀ M2 : Mem, (XR s M2 ∧ (∀ k, 73 ≤ k → M2 k = M k)) → Z np ls (mi (rSign s i) :: r) M2) : Z ip ls (mi i :: mr 0 :: r) M := w_callV1 hZ ip np hc hn rfl rfl h3 ⟨_, _, rfl, hp, fun M2 h => kz M2 h⟩
def cd_X6_sign : List Sem := [I_iload 1, I_ifge 4, I_const (-1000000002), I_iret, I_aload 0, I_get 6 8, I_aload 0, I_get 6 7, I_callV 4 1 sp_X4_readBack, I_aload 0, I_get 6 8, I_get 4 2, I_ifne 24, I_iload 1, I_aload 0, I_get 6 8, I_get 4 1, I_cge 24, I_aload 0, I_get 6 8, I_get 4 0, I_iload 1, I_iald, I_goto 25, I_const (-1), I_iret]
def pc_X6_sign : List Nat := [0, 1, 4, 6, 7, 8, 11, 12, 15, 18, 19, 22, 25, 28, 29, 30, 33, 36, 39, 40, 43, 46, 47, 48, 51, 52]
set_option maxRecDepth 100000 in
set_option maxHeartbeats 4000000 in
theorem b_X6_sign (s : St) (i : Int) (i_i : InR i) (M : Mem) (Ret : KR) (hp : XR s M ∧ stOk s) (hR : ∀ M2 : Mem, (XR s M2 ∧ (∀ k, 73 ≤ k → M2 k = M k)) → Ret (some (mi (rSign s i))) M2) (hM : MOk M) (Z : KZ) (hZ : Sim cd_X6_sign Z Ret) : Z 0 [some (mr 0), some (mi i)] [] M := by
  obtain ⟨hx, hv⟩ := hp
  have hB := hx.bx hv
  have hvo := hx.vo hv
  have h240 : (evN (sB s) (-1)).length ≤ 240 := aEv_240 hv.1 (-1) (i := 0) (Int.le_refl _)
  have h241 : (aEv (sB s) (-1) 0).length ≤ 240 := h240
  have fin : ∀ (x : Int) (M2 : Mem), rSign s i = x → XR s M2 → (∀ k, 73 ≤ k → M2 k = M k) → Ret (some (mi x)) M2 := by
    intro x M2 e h h2; subst e; exact hR M2 ⟨h, h2⟩
  have non : ∀ x : Int, rSign s i = x → Ret (some (mi x)) M := fun x q => fin x M q hx (fun _ _ => rfl)
  refine w_iload hZ 0 1 rfl rfl rfl ?_
  refine w_ifge hZ 1 2 rfl rfl (fun c1 => ?_) (fun c1 => ?_)
  · refine w_aload hZ 4 5 rfl rfl rfl ?_
    refine w_getr hZ 5 6 rfl rfl rfl rfl rfl ?_
    refine w_aload hZ 6 7 rfl rfl rfl ?_
    refine w_geti hZ 7 8 rfl rfl rfl rfl rfl ?_
    refine k_X4_readBack hZ 8 9 rfl rfl (Nat.le_of_ble_eq_true rfl) ⟨hvo, by rw [hx.2.2.2.2.2.1]; exact hv.2.2.2.2.1, by rw [hx.2.2.2.2.2.1]; exact hv.2.2.2.2.2.1⟩ (fun M8 p8 => ?_)
    rw [hx.1, hx.2.2.2.2.2.1, hx.2.2.2.2.2.2] at p8
    have hxr : XR s M8 := hx.same (fun k hk => p8.2.2.2.2.2 k (by omega) (by omega))
    have hfr : ∀ k, 73 ≤ k → M8 k = M k := fun k hk => p8.2.2.2.2.2 k (by omega) (by omega)
    change RdP (rdS s) M M8 at p8
    obtain ⟨r1, r2, r3, r4, r5, r6⟩ := p8
    refine w_aload hZ 9 10 rfl rfl rfl ?_
    refine w_getr hZ 10 11 rfl rfl rfl rfl rfl ?_
    refine w_geti hZ 11 12 rfl rfl rfl rfl rfl ?_
    refine w_ifne hZ 12 13 rfl rfl (fun c12 => ?_) (fun c12 => ?_)
    · refine w_const hZ 24 25 rfl rfl  ?_
      refine w_iret hZ 25 rfl ?_
      first
        | exact fin _ _ (by unfold rSign; rw [if_neg (by omega), if_neg (fun z => c12 (by rw [r1]; exact z.1))]) hxr hfr
        | exact fin _ _ (by unfold rSign; rw [if_neg (by omega), if_neg (fun z => by omega)]) hxr hfr
        | exact fin _ _ (by unfold rSign; rw [if_neg (by omega), if_pos ⟨by rw [← r1]; exact c12, by omega⟩]; exact (r5 i.toNat (by omega)).symm) hxr hfr
    · refine w_iload hZ 13 14 rfl rfl rfl ?_
      refine w_aload hZ 14 15 rfl rfl rfl ?_
      refine w_getr hZ 15 16 rfl rfl rfl rfl rfl ?_
      refine w_geti hZ 16 17 rfl rfl rfl rfl rfl ?_
      refine w_cge hZ 17 18 rfl rfl (fun c17 => ?_) (fun c17 => ?_)
      · refine w_const hZ 24 25 rfl rfl  ?_
        refine w_iret hZ 25 rfl ?_
        first
          | exact fin _ _ (by unfold rSign; rw [if_neg (by omega), if_neg (fun z => c12 (by rw [r1]; exact z.1))]) hxr hfr
          | exact fin _ _ (by unfold rSign; rw [if_neg (by omega), if_neg (fun z => by omega)]) hxr hfr
          | exact fin _ _ (by unfold rSign; rw [if_neg (by omega), if_pos ⟨by rw [← r1]; exact c12, by omega⟩]; exact (r5 i.toNat (by omega)).symm) hxr hfr
      · refine w_aload hZ 18 19 rfl rfl rfl ?_
        refine w_getr hZ 19 20 rfl rfl rfl rfl rfl ?_
        refine w_getr hZ 20 21 rfl rfl rfl rfl rfl ?_
        refine w_iload hZ 21 22 rfl rfl rfl ?_
        refine w_iald hZ 22 23 rfl rfl rfl (by omega) (by omega) ?_
        refine w_goto hZ 23 25 rfl ?_
        refine w_iret hZ 25 rfl ?_
        first
          | exact fin _ _ (by unfold rSign; rw [if_neg (by omega), if_neg (fun z => c12 (by rw [r1]; exact z.1))]) hxr hfr
          | exact fin _ _ (by unfold rSign; rw [if_neg (by omega), if_neg (fun z => by omega)]) hxr hfr
          | exact fin _ _ (by unfold rSign; rw [if_neg (by omega), if_pos ⟨by rw [← r1]; exact c12, by omega⟩]; exact (r5 i.toNat (by omega)).symm) hxr hfr
  · refine w_const hZ 2 3 rfl rfl  ?_
    refine w_iret hZ 3 rfl ?_
    exact non _ (by unfold rSign; rw [if_pos (by omega)])
set_option maxRecDepth 100000 in
set_option maxHeartbeats 4000000 in
theorem ao_X6_sign : AllOk yX6_sign.cls cX6_sign 2 6 132 (some .int) none pc_X6_sign 0 cd_X6_sign := ⟨s_iload_n (k := 1) (by decide +kernel) rfl rfl, ⟨s_ifge (off := (6)) (by decide +kernel) rfl rfl, ⟨s_ldc (v := (-1000000002)) tw_2_2 (by decide +kernel) rfl ⟨by decide, by decide⟩ (by decide +kernel), ⟨s_iret rfl (by decide +kernel), ⟨s_aload_n (k := 0) (by decide +kernel) rfl rfl, ⟨s_get (C := RX6) (T := TX6) (N := 10) rfl inT6 (by decide) tw_1_205 (by decide +kernel) rfl, ⟨s_aload_n (k := 0) (by decide +kernel) rfl rfl, ⟨s_get (C := RX6) (T := TX6) (N := 10) rfl inT6 (by decide) tw_1_204 (by decide +kernel) rfl, ⟨s_callV (C := RX4) (T := TX4) (N := 8) rfl ct_X4_readBack (by decide) (by decide) ⟨rfl, by decide +kernel, by decide +kernel, by decide +kernel⟩ tw_3_49 tw_3_50 tw_3_51 tw_1_6 tw_3_52 (by decide +kernel) rfl, ⟨s_aload_n (k := 0) (by decide +kernel) rfl rfl, ⟨s_get (C := RX6) (T := TX6) (N := 10) rfl inT6 (by decide) tw_1_205 (by decide +kernel) rfl, ⟨s_get (C := RX4) (T := TX4) (N := 8) rfl inT4 (by decide) tw_1_163 (by decide +kernel) rfl, ⟨s_ifne (off := (26)) (by decide +kernel) rfl rfl, ⟨s_iload_n (k := 1) (by decide +kernel) rfl rfl, ⟨s_aload_n (k := 0) (by decide +kernel) rfl rfl, ⟨s_get (C := RX6) (T := TX6) (N := 10) rfl inT6 (by decide) tw_1_205 (by decide +kernel) rfl, ⟨s_get (C := RX4) (T := TX4) (N := 8) rfl inT4 (by decide) tw_1_161 (by decide +kernel) rfl, ⟨s_cge (off := (15)) (by decide +kernel) rfl rfl, ⟨s_aload_n (k := 0) (by decide +kernel) rfl rfl, ⟨s_get (C := RX6) (T := TX6) (N := 10) rfl inT6 (by decide) tw_1_205 (by decide +kernel) rfl, ⟨s_get (C := RX4) (T := TX4) (N := 8) rfl inT4 (by decide) tw_1_159 (by decide +kernel) rfl, ⟨s_iload_n (k := 1) (by decide +kernel) rfl rfl, ⟨s_iald (by decide +kernel) rfl, ⟨s_goto (off := (4)) (by decide +kernel) rfl, ⟨s_iconst (by decide +kernel) rfl ⟨by decide, by decide⟩, ⟨s_iret rfl (by decide +kernel), trivial⟩⟩⟩⟩⟩⟩⟩⟩⟩⟩⟩⟩⟩⟩⟩⟩⟩⟩⟩⟩⟩⟩⟩⟩⟩⟩
theorem ct_X6_sign : Ctr yX6_sign cX6_sign 2 (some .int) 6 132 sp_X6_sign := by
  refine ctr_of (by decide +kernel) ao_X6_sign rfl ?_
  rintro av M Ret ⟨s, i, rfl, hp, hR⟩ hok hM
  exact ⟨Nat.le_of_ble_eq_true rfl, fun Z hZ => b_X6_sign s i (hok _ (List.mem_of_getElem? (i := 1) rfl)) M Ret hp hR hM Z hZ⟩
