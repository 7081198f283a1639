/-! Writer: what it writes -/
abbrev Sn (M : Mem) : Prop := ∀ k : Nat, k < 12 → 0 ≤ M 12 k ∧ M 12 k ≤ M 10 4
theorem leE_rule (V : BV) (g : Bool) (i : Int) : ∀ e ∈ leE V g i, e.2.1 = -1 := by
  unfold leE; split <;> simp
theorem smV_0 {V : BV} {g : Bool} {i : Int} : leE V g i = if smV V g i = 0 then [(60, -1, i, 1), (ltN (vS V i), -1, i, 1)] else [(ltN (vS V i), -1, i, 1)] := rfl
theorem ApE_rule {M : Mem} (h0 : 0 ≤ M 10 4) {k : Nat} (hk : k < 12) (i c : Int) (hs : 0 ≤ M 12 k) : ApE [(c, (k : Int), i, 1)] M (mup (if M 12 k = 0 then mup (addCl M c) 13 k i else addCl M c) 12 k (M 12 k + 1)) := by
  have hA := ApE_cell h0 (c, -1, i, 1) rfl
  obtain ⟨a1, a2, a3, a4, a5, a6⟩ := hA
  have hn : ∀ j : Nat, cntE [(c, (-1 : Int), i, (1 : Int))] j = 0 := fun j => by rw [cntE_1, if_neg (by show ¬ (-1 : Int) = j; omega)]
  have e2 : ∀ (o j : Nat), mup (if M 12 k = 0 then mup (addCl M c) 13 k i else addCl M c) 12 k (M 12 k + 1) o j = if o = 12 ∧ j = k then M 12 k + 1 else if o = 13 ∧ j = k ∧ M 12 k = 0 then i else addCl M c o j := by
    intro o j
    rw [mup_at]
    by_cases q1 : o = 12 ∧ j = k
    · rw [if_pos q1, if_pos q1]
    · rw [if_neg q1, if_neg q1]
      by_cases q2 : M 12 k = 0
      · rw [if_pos q2, mup_at]
        by_cases q3 : o = 13 ∧ j = k
        · rw [if_pos q3, if_pos ⟨q3.1, q3.2, q2⟩]
        · rw [if_neg q3, if_neg (fun z => q3 ⟨z.1, z.2.1⟩)]
      · rw [if_neg q2, if_neg (fun z => q2 z.2.2)]
  have e : ∀ (o j : Nat), ¬ o = 12 → ¬ o = 13 → mup (if M 12 k = 0 then mup (addCl M c) 13 k i else addCl M c) 12 k (M 12 k + 1) o j = addCl M c o j := by
    intro o j h1 h2
    rw [e2, if_neg (fun z => h1 z.1), if_neg (fun z => h2 z.1)]
  refine ⟨by rw [e 10 4 (by omega) (by omega)]; exact a1, fun j hj => by rw [e 11 j (by omega) (by omega)]; exact a2 j hj, fun j hj => by rw [e 11 _ (by omega) (by omega)]; exact a3 j hj, fun j hj => ⟨?_, ?_⟩, fun f hf => by rw [e 10 f (by omega) (by omega)]; exact a5 f hf, fun o ho => ?_⟩
  · have q := (a4 j hj).1
    rw [hn j] at q
    rw [e2]
    by_cases z : j = k
    · subst z
      have hz : cntE [(c, (j : Int), i, (1 : Int))] (j : Int) = 1 := by rw [cntE_1]; exact if_pos rfl
      rw [hz, if_pos ⟨rfl, rfl⟩]
    · have hz : cntE [(c, (k : Int), i, (1 : Int))] (j : Int) = 0 := by rw [cntE_1]; exact if_neg (by show ¬ (k : Int) = j; omega)
      rw [hz, if_neg (fun y => z y.2), if_neg (fun y => z y.2.1)]
      exact q
  · have q := (a4 j hj).2
    rw [hn j] at q
    rw [if_neg (by simp)] at q
    rw [e2, if_neg (fun y => absurd y.1 (by decide))]
    by_cases z : j = k
    · subst z
      have hz : cntE [(c, (j : Int), i, (1 : Int))] (j : Int) = 1 := by rw [cntE_1]; exact if_pos rfl
      have hz2 : fstE [(c, (j : Int), i, (1 : Int))] (j : Int) = i := by rw [fstE_1]; exact if_pos rfl
      rw [hz, hz2]
      by_cases z2 : M 12 j = 0
      · rw [if_pos ⟨rfl, rfl, z2⟩, if_pos ⟨z2, by omega⟩]
      · rw [if_neg (fun y => z2 y.2.2), if_neg (fun y => z2 y.1)]; exact q
    · have hz : cntE [(c, (k : Int), i, (1 : Int))] (j : Int) = 0 := by rw [cntE_1]; exact if_neg (by show ¬ (k : Int) = j; omega)
      rw [hz, if_neg (fun y => z y.2.1), if_neg (fun y => y.2 rfl)]
      exact q
  · funext j
    rw [e o j (by omega) (by omega), a6 o ho]
def sp_X5_writeLetter : SP := fun av M Ret => ∃ i : Int, av = [mr 10, mi i] ∧ (vOk (bX M 1) ∧ En M ∧ M 10 7 ≤ i ∧ i < M 10 8 ∧ 0 ≤ M 10 4 ∧ M 10 4 + (leE (bX M 1) (gM M) i).length ≤ 240 ∧ Sn M) ∧ (∀ M2 : Mem, (ApE (leE (bX M 1) (gM M) i) M M2) → Ret (some (mi (1))) M2)
theorem k_X5_writeLetter {code : List Sem} {Z : KZ} {Ret : KR} {ls : List (Option MV)} {M : Mem} {r : List MV} (hZ : Sim code Z Ret) (ip np : Nat) {i : Int} (hc : code[ip]? = some (I_callV 5 1 sp_X5_writeLetter)) (hn : ip + 1 = np) (h3 : catS r ≤ 8)  (hp : vOk (bX M 1) ∧ En M ∧ M 10 7 ≤ i ∧ i < M 10 8 ∧ 0 ≤ M 10 4 ∧ M 10 4 + (leE (bX M 1) (gM M) i).length ≤ 240 ∧ Sn M) (kz : ∀ M2 : Mem, (ApE (leE (bX M 1) (gM M) i) M M2) → Z np ls (mi (1) :: r) M2) : Z ip ls (mi i :: mr 10 :: r) M := w_callV1 hZ ip np hc hn rfl rfl h3 ⟨_, rfl, hp, fun M2 h => kz M2 h⟩
def cd_X5_writeLetter : List Sem := [I_aload 0, I_get 5 10, I_iload 1, I_iald, I_ifne 8, I_aload 0, I_const (60), I_callV 5 1 sp_X5_addCell, I_aload 0, I_aload 0, I_get 5 3, I_iload 1, I_callV 0 1 sp_X0_signAt, I_callS 1 sp_X6_letterOf, I_callV 5 1 sp_X5_addCell, I_const (1), I_iret]
def pc_X5_writeLetter : List Nat := [0, 1, 4, 5, 6, 9, 10, 12, 15, 16, 17, 20, 21, 24, 27, 30, 31]
set_option maxRecDepth 100000 in
set_option maxHeartbeats 4000000 in
theorem b_X5_writeLetter (i : Int) (i_i : InR i) (M : Mem) (Ret : KR) (hp : vOk (bX M 1) ∧ En M ∧ M 10 7 ≤ i ∧ i < M 10 8 ∧ 0 ≤ M 10 4 ∧ M 10 4 + (leE (bX M 1) (gM M) i).length ≤ 240 ∧ Sn M) (hR : ∀ M2 : Mem, (ApE (leE (bX M 1) (gM M) i) M M2) → Ret (some (mi (1))) M2) (hM : MOk M) (Z : KZ) (hZ : Sim cd_X5_writeLetter Z Ret) : Z 0 [some (mr 10), some (mi i)] [] M := by
  obtain ⟨hv, he, hi0, hi1, hc0, hc1, hsn⟩ := hp
  have hb := hv.bx
  have hee := he
  obtain ⟨e1, e2, e3, e4⟩ := hee
  have hbb := hb
  obtain ⟨b1, b2, b3, b4⟩ := hbb
  have hl := (e4 i hi0 hi1).1
  have hlr := ltN_rng hl
  have hsl : InR (vS (bX M 1) i - 65) ∧ InR (vS (bX M 1) i - 97) := by
    unfold InR; simp only [isLt, isSm, isCp] at hl; omega
  have fin : ∀ (A : List Ev) (N : Mem), ApE A M N → leE (bX M 1) (gM M) i = A ++ [(ltN (vS (bX M 1) i), -1, i, 1)] → Z 8 [some (mr 10), some (mi i)] [] N := by
    intro A N hA hE
    have hbN : bX N 1 = bX M 1 := hA.bx
    have hs2 : SX N i = vS (bX M 1) i := by show vS (bX N 1) i = _; rw [hbN]
    have hlen : (leE (bX M 1) (gM M) i).length = A.length + 1 := by rw [hE]; simp
    have hBN : Bx N := (hbN ▸ hv : vOk (bX N 1)).bx
    have ha1 := hA.1
    refine w_aload hZ 8 9 rfl rfl rfl ?_
    refine w_aload hZ 9 10 rfl rfl rfl ?_
    refine w_getr hZ 10 11 rfl rfl rfl rfl rfl ?_
    refine w_iload hZ 11 12 rfl rfl rfl ?_
    refine k_X0_signAt hZ 12 13 rfl rfl (Nat.le_of_ble_eq_true rfl) hBN ?_
    rw [hs2]
    refine k_X6_letterOf hZ 13 14 rfl rfl (Nat.le_of_ble_eq_true rfl) hsl ?_
    refine k_X5_addCell hZ 14 15 rfl rfl (Nat.le_of_ble_eq_true rfl) ⟨by omega, by omega⟩ (fun M14 p14 => ?_)
    refine w_const hZ 15 16 rfl rfl  ?_
    refine w_iret hZ 16 rfl ?_
    subst p14
    refine hR _ ?_
    rw [hE]
    exact hA.trans (ApE_cell (by omega) (ltN (vS (bX M 1) i), -1, i, 1) rfl) hc0 (fun k hk => (hsn k hk).1)
  refine w_aload hZ 0 1 rfl rfl rfl ?_
  refine w_getr hZ 1 2 rfl rfl rfl rfl rfl ?_
  refine w_iload hZ 2 3 rfl rfl rfl ?_
  refine w_ialdv hZ 3 4 rfl rfl rfl (by omega) (by omega) (v := smV (bX M 1) (gM M) i) (e4 i hi0 hi1).2 ?_
  refine w_ifne hZ 4 5 rfl rfl (fun c4 => ?_) (fun c4 => ?_)
  · first
      | (subst p7; refine fin _ _ (ApE_cell hc0 (60, -1, i, 1) rfl) ?_; rw [smV_0, if_pos c4]; rfl)
      | (refine fin [] M (ApE_nil M) ?_; rw [smV_0, if_neg c4]; rfl)
  · have hlen : (leE (bX M 1) (gM M) i).length = 2 := by rw [smV_0, if_pos c4]; rfl
    refine w_aload hZ 5 6 rfl rfl rfl ?_
    refine w_const hZ 6 7 rfl rfl  ?_
    refine k_X5_addCell hZ 7 8 rfl rfl (Nat.le_of_ble_eq_true rfl) (by omega) (fun M7 p7 => ?_)
    first
      | (subst p7; refine fin _ _ (ApE_cell hc0 (60, -1, i, 1) rfl) ?_; rw [smV_0, if_pos c4]; rfl)
      | (refine fin [] M (ApE_nil M) ?_; rw [smV_0, if_neg c4]; rfl)
set_option maxRecDepth 100000 in
set_option maxHeartbeats 4000000 in
theorem ao_X5_writeLetter : AllOk yX5_writeLetter.cls cX5_writeLetter 2 2 40 (some .int) none pc_X5_writeLetter 0 cd_X5_writeLetter := ⟨s_aload_n (k := 0) (by decide +kernel) rfl rfl, ⟨s_get (C := RX5) (T := TX5) (N := 12) rfl inT5 (by decide) tw_1_102 (by decide +kernel) rfl, ⟨s_iload_n (k := 1) (by decide +kernel) rfl rfl, ⟨s_iald (by decide +kernel) rfl, ⟨s_ifne (off := (9)) (by decide +kernel) rfl rfl, ⟨s_aload_n (k := 0) (by decide +kernel) rfl rfl, ⟨s_bipush (by decide +kernel) rfl ⟨by decide, by decide⟩ (by decide +kernel), ⟨s_callV (C := RX5) (T := TX5) (N := 12) rfl ct_X5_addCell (by decide) (by decide) ⟨rfl, by decide +kernel, by decide +kernel, by decide +kernel⟩ tw_2_171 tw_2_173 ts_1_7 tw_1_4 tw_2_174 (by decide +kernel) rfl, ⟨s_aload_n (k := 0) (by decide +kernel) rfl rfl, ⟨s_aload_n (k := 0) (by decide +kernel) rfl rfl, ⟨s_get (C := RX5) (T := TX5) (N := 12) rfl inT5 (by decide) tw_1_95 (by decide +kernel) rfl, ⟨s_iload_n (k := 1) (by decide +kernel) rfl rfl, ⟨s_callV (C := RX0) (T := TX0) (N := 8) rfl ct_X0_signAt (by decide) (by decide) ⟨rfl, by decide +kernel, by decide +kernel, by decide +kernel⟩ tw_2_142 tw_2_130 tw_2_131 tw_1_2 tw_2_132 (by decide +kernel) rfl, ⟨s_callN ct_X6_letterOf (by decide) (by decide) ⟨by decide +kernel, by decide +kernel, by decide +kernel⟩ ni_7 tw_2_155 tw_1_1 tw_2_156 (by decide +kernel) rfl, ⟨s_callV (C := RX5) (T := TX5) (N := 12) rfl ct_X5_addCell (by decide) (by decide) ⟨rfl, by decide +kernel, by decide +kernel, by decide +kernel⟩ tw_2_171 tw_2_173 ts_1_7 tw_1_4 tw_2_174 (by decide +kernel) rfl, ⟨s_iconst (by decide +kernel) rfl ⟨by decide, by decide⟩, ⟨s_iret rfl (by decide +kernel), trivial⟩⟩⟩⟩⟩⟩⟩⟩⟩⟩⟩⟩⟩⟩⟩⟩⟩
theorem ct_X5_writeLetter : Ctr yX5_writeLetter cX5_writeLetter 2 (some .int) 2 40 sp_X5_writeLetter := by
  refine ctr_of (by decide +kernel) ao_X5_writeLetter rfl ?_
  rintro av M Ret ⟨i, rfl, hp, hR⟩ hok hM
  exact ⟨Nat.le_of_ble_eq_true rfl, fun Z hZ => b_X5_writeLetter  i (hok _ (List.mem_of_getElem? (i := 1) rfl)) M Ret hp hR hM Z hZ⟩
def sp_X5_writeRule : SP := fun av M Ret => ∃ k : Int, ∃ i : Int, av = [mr 10, mi k, mi i] ∧ (vOk (bX M 1) ∧ 0 ≤ k ∧ k < M 1 4 ∧ 0 ≤ M 10 4 ∧ M 10 4 + 1 ≤ 240 ∧ Sn M) ∧ (∀ M2 : Mem, (ApE [(vE (bX M 1) k.toNat, k, i, 1)] M M2) → Ret (some (mi (lnC (vC' (bX M 1) k.toNat)))) M2)
theorem k_X5_writeRule {code : List Sem} {Z : KZ} {Ret : KR} {ls : List (Option MV)} {M : Mem} {r : List MV} (hZ : Sim code Z Ret) (ip np : Nat) {k i : Int} (hc : code[ip]? = some (I_callV 5 2 sp_X5_writeRule)) (hn : ip + 1 = np) (h3 : catS r ≤ 8)  (hp : vOk (bX M 1) ∧ 0 ≤ k ∧ k < M 1 4 ∧ 0 ≤ M 10 4 ∧ M 10 4 + 1 ≤ 240 ∧ Sn M) (kz : ∀ M2 : Mem, (ApE [(vE (bX M 1) k.toNat, k, i, 1)] M M2) → Z np ls (mi (lnC (vC' (bX M 1) k.toNat)) :: r) M2) : Z ip ls (mi i :: mi k :: mr 10 :: r) M := w_callV2 hZ ip np hc hn rfl rfl h3 ⟨_, _, rfl, hp, fun M2 h => kz M2 h⟩
def cd_X5_writeRule : List Sem := [I_aload 0, I_aload 0, I_get 5 3, I_get 0 1, I_iload 1, I_iald, I_callV 5 1 sp_X5_addCell, I_aload 0, I_get 5 1, I_iload 1, I_iald, I_ifne 17, I_aload 0, I_get 5 2, I_iload 1, I_iload 2, I_iast, I_aload 0, I_get 5 1, I_iload 1, I_dup2, I_iald, I_const (1), I_add, I_iast, I_aload 0, I_get 5 3, I_get 0 0, I_iload 1, I_iald, I_callS 1 sp_X6_lettersOf, I_iret]
def pc_X5_writeRule : List Nat := [0, 1, 2, 5, 8, 9, 10, 13, 14, 17, 18, 19, 22, 23, 26, 27, 28, 29, 30, 33, 34, 35, 36, 37, 38, 39, 40, 43, 46, 47, 48, 51]
set_option maxRecDepth 100000 in
set_option maxHeartbeats 4000000 in
theorem b_X5_writeRule (k : Int) (i_k : InR k) (i : Int) (i_i : InR i) (M : Mem) (Ret : KR) (hp : vOk (bX M 1) ∧ 0 ≤ k ∧ k < M 1 4 ∧ 0 ≤ M 10 4 ∧ M 10 4 + 1 ≤ 240 ∧ Sn M) (hR : ∀ M2 : Mem, (ApE [(vE (bX M 1) k.toNat, k, i, 1)] M M2) → Ret (some (mi (lnC (vC' (bX M 1) k.toNat)))) M2) (hM : MOk M) (Z : KZ) (hZ : Sim cd_X5_writeRule Z Ret) : Z 0 [some (mr 10), some (mi k), some (mi i)] [] M := by
  obtain ⟨hv, hk0, hk1, hc0, hc1, hsn⟩ := hp
  have hb := hv.bx
  obtain ⟨b1, b2, b3, b4⟩ := hb
  have hE : vE (bX M 1) k.toNat = M 3 k.toNat := cut_in (by omega)
  have hC : vC' (bX M 1) k.toNat = M 2 k.toNat := cut_in (by omega)
  have hvc := (hv.2.2.2.2.2.2.1 k.toNat (by show ((k.toNat : Nat) : Int) < M 1 4; omega)).1
  rw [hC] at hvc
  have hs := hsn k.toNat (by omega)
  have hf := ApE_rule (M := M) hc0 (k := k.toNat) (by omega) i (M 3 k.toNat) hs.1
  rw [Int.toNat_of_nonneg hk0] at hf
  refine w_aload hZ 0 1 rfl rfl rfl ?_
  refine w_aload hZ 1 2 rfl rfl rfl ?_
  refine w_getr hZ 2 3 rfl rfl rfl rfl rfl ?_
  refine w_getr hZ 3 4 rfl rfl rfl rfl rfl ?_
  refine w_iload hZ 4 5 rfl rfl rfl ?_
  refine w_iald hZ 5 6 rfl rfl rfl (by omega) (by omega) ?_
  refine k_X5_addCell hZ 6 7 rfl rfl (Nat.le_of_ble_eq_true rfl) (by omega) (fun M6 p6 => ?_)
  subst p6
  refine w_aload hZ 7 8 rfl rfl rfl ?_
  refine w_getr hZ 8 9 rfl rfl rfl rfl rfl ?_
  refine w_iload hZ 9 10 rfl rfl rfl ?_
  refine w_ialdv hZ 10 11 rfl rfl rfl (by omega) (by omega) (v := M 12 k.toNat) rfl ?_
  refine w_ifne hZ 11 12 rfl rfl (fun c11 => ?_) (fun c11 => ?_)
  · refine w_aload hZ 17 18 rfl rfl rfl ?_
    refine w_getr hZ 18 19 rfl rfl rfl rfl rfl ?_
    refine w_iload hZ 19 20 rfl rfl rfl ?_
    refine w_dup2 hZ 20 21 rfl rfl rfl rfl ?_
    refine w_ialdv hZ 21 22 rfl rfl rfl (by omega) (by omega) (v := M 12 k.toNat) rfl ?_
    refine w_const hZ 22 23 rfl rfl  ?_
    refine w_add hZ 23 24 rfl rfl (by unfold InR; omega) ?_
    refine w_iast hZ 24 25 rfl rfl rfl (by omega) (by omega) ?_
    refine w_aload hZ 25 26 rfl rfl rfl ?_
    refine w_getr hZ 26 27 rfl rfl rfl rfl rfl ?_
    refine w_getr hZ 27 28 rfl rfl rfl rfl rfl ?_
    refine w_iload hZ 28 29 rfl rfl rfl ?_
    refine w_ialdv hZ 29 30 rfl rfl rfl (by omega) (by omega) (v := M 2 k.toNat) rfl ?_
    refine k_X6_lettersOf hZ 30 31 rfl rfl (Nat.le_of_ble_eq_true rfl) hvc.2.1 ?_
    refine w_iret hZ 31 rfl ?_
    first
      | (rw [if_neg c11] at hf; rw [hC] at hR; refine hR _ ?_; rw [hE]; exact hf)
      | (rw [if_pos c11] at hf; rw [hC] at hR; refine hR _ ?_; rw [hE]; exact hf)
  · refine w_aload hZ 12 13 rfl rfl rfl ?_
    refine w_getr hZ 13 14 rfl rfl rfl rfl rfl ?_
    refine w_iload hZ 14 15 rfl rfl rfl ?_
    refine w_iload hZ 15 16 rfl rfl rfl ?_
    refine w_iast hZ 16 17 rfl rfl rfl (by omega) (by omega) ?_
    refine w_aload hZ 17 18 rfl rfl rfl ?_
    refine w_getr hZ 18 19 rfl rfl rfl rfl rfl ?_
    refine w_iload hZ 19 20 rfl rfl rfl ?_
    refine w_dup2 hZ 20 21 rfl rfl rfl rfl ?_
    refine w_ialdv hZ 21 22 rfl rfl rfl (by omega) (by omega) (v := M 12 k.toNat) rfl ?_
    refine w_const hZ 22 23 rfl rfl  ?_
    refine w_add hZ 23 24 rfl rfl (by unfold InR; omega) ?_
    refine w_iast hZ 24 25 rfl rfl rfl (by omega) (by omega) ?_
    refine w_aload hZ 25 26 rfl rfl rfl ?_
    refine w_getr hZ 26 27 rfl rfl rfl rfl rfl ?_
    refine w_getr hZ 27 28 rfl rfl rfl rfl rfl ?_
    refine w_iload hZ 28 29 rfl rfl rfl ?_
    refine w_ialdv hZ 29 30 rfl rfl rfl (by omega) (by omega) (v := M 2 k.toNat) rfl ?_
    refine k_X6_lettersOf hZ 30 31 rfl rfl (Nat.le_of_ble_eq_true rfl) hvc.2.1 ?_
    refine w_iret hZ 31 rfl ?_
    first
      | (rw [if_neg c11] at hf; rw [hC] at hR; refine hR _ ?_; rw [hE]; exact hf)
      | (rw [if_pos c11] at hf; rw [hC] at hR; refine hR _ ?_; rw [hE]; exact hf)
set_option maxRecDepth 100000 in
set_option maxHeartbeats 4000000 in
theorem ao_X5_writeRule : AllOk yX5_writeRule.cls cX5_writeRule 3 1 23 (some .int) none pc_X5_writeRule 0 cd_X5_writeRule := ⟨s_aload_n (k := 0) (by decide +kernel) rfl rfl, ⟨s_aload_n (k := 0) (by decide +kernel) rfl rfl, ⟨s_get (C := RX5) (T := TX5) (N := 12) rfl inT5 (by decide) tw_1_95 (by decide +kernel) rfl, ⟨s_get (C := RX0) (T := TX0) (N := 8) rfl inT0 (by decide) tw_1_30 (by decide +kernel) rfl, ⟨s_iload_n (k := 1) (by decide +kernel) rfl rfl, ⟨s_iald (by decide +kernel) rfl, ⟨s_callV (C := RX5) (T := TX5) (N := 12) rfl ct_X5_addCell (by decide) (by decide) ⟨rfl, by decide +kernel, by decide +kernel, by decide +kernel⟩ tw_2_171 tw_2_173 ts_1_7 tw_1_4 tw_2_174 (by decide +kernel) rfl, ⟨s_aload_n (k := 0) (by decide +kernel) rfl rfl, ⟨s_get (C := RX5) (T := TX5) (N := 12) rfl inT5 (by decide) tw_1_91 (by decide +kernel) rfl, ⟨s_iload_n (k := 1) (by decide +kernel) rfl rfl, ⟨s_iald (by decide +kernel) rfl, ⟨s_ifne (off := (10)) (by decide +kernel) rfl rfl, ⟨s_aload_n (k := 0) (by decide +kernel) rfl rfl, ⟨s_get (C := RX5) (T := TX5) (N := 12) rfl inT5 (by decide) tw_1_93 (by decide +kernel) rfl, ⟨s_iload_n (k := 1) (by decide +kernel) rfl rfl, ⟨s_iload_n (k := 2) (by decide +kernel) rfl rfl, ⟨s_iast (by decide +kernel) rfl, ⟨s_aload_n (k := 0) (by decide +kernel) rfl rfl, ⟨s_get (C := RX5) (T := TX5) (N := 12) rfl inT5 (by decide) tw_1_91 (by decide +kernel) rfl, ⟨s_iload_n (k := 1) (by decide +kernel) rfl rfl, ⟨s_dup2 (by decide +kernel) rfl, ⟨s_iald (by decide +kernel) rfl, ⟨s_iconst (by decide +kernel) rfl ⟨by decide, by decide⟩, ⟨s_add (by decide +kernel) rfl, ⟨s_iast (by decide +kernel) rfl, ⟨s_aload_n (k := 0) (by decide +kernel) rfl rfl, ⟨s_get (C := RX5) (T := TX5) (N := 12) rfl inT5 (by decide) tw_1_95 (by decide +kernel) rfl, ⟨s_get (C := RX0) (T := TX0) (N := 8) rfl inT0 (by decide) tw_1_27 (by decide +kernel) rfl, ⟨s_iload_n (k := 1) (by decide +kernel) rfl rfl, ⟨s_iald (by decide +kernel) rfl, ⟨s_callN ct_X6_lettersOf (by decide) (by decide) ⟨by decide +kernel, by decide +kernel, by decide +kernel⟩ ni_10 tw_1_237 tw_1_1 tw_1_238 (by decide +kernel) rfl, ⟨s_iret rfl (by decide +kernel), trivial⟩⟩⟩⟩⟩⟩⟩⟩⟩⟩⟩⟩⟩⟩⟩⟩⟩⟩⟩⟩⟩⟩⟩⟩⟩⟩⟩⟩⟩⟩⟩⟩
theorem ct_X5_writeRule : Ctr yX5_writeRule cX5_writeRule 3 (some .int) 1 23 sp_X5_writeRule := by
  refine ctr_of (by decide +kernel) ao_X5_writeRule rfl ?_
  rintro av M Ret ⟨k, i, rfl, hp, hR⟩ hok hM
  exact ⟨Nat.le_of_ble_eq_true rfl, fun Z hZ => b_X5_writeRule  k (hok _ (List.mem_of_getElem? (i := 1) rfl)) i (hok _ (List.mem_of_getElem? (i := 2) rfl)) M Ret hp hR hM Z hZ⟩
def sp_X5_writeFigure : SP := fun av M Ret => ∃ i : Int, ∃ s : Int, av = [mr 10, mi i, mi s] ∧ (vOk (bX M 1) ∧ 0 ≤ i ∧ i < M 1 5 ∧ s = vS (bX M 1) i ∧ isFg s ∧ 0 ≤ M 10 4 ∧ M 10 4 + (sgE (bX M 1) i).length ≤ 240 ∧ Sn M) ∧ (∀ M2 : Mem, (ApE (sgE (bX M 1) i) M M2) → Ret none M2)
theorem k_X5_writeFigure {code : List Sem} {Z : KZ} {Ret : KR} {ls : List (Option MV)} {M : Mem} {r : List MV} (hZ : Sim code Z Ret) (ip np : Nat) {i s : Int} (hc : code[ip]? = some (I_callV 5 2 sp_X5_writeFigure)) (hn : ip + 1 = np) (h3 : catS r ≤ 8)  (hp : vOk (bX M 1) ∧ 0 ≤ i ∧ i < M 1 5 ∧ s = vS (bX M 1) i ∧ isFg s ∧ 0 ≤ M 10 4 ∧ M 10 4 + (sgE (bX M 1) i).length ≤ 240 ∧ Sn M) (kz : ∀ M2 : Mem, (ApE (sgE (bX M 1) i) M M2) → Z np ls r M2) : Z ip ls (mi s :: mi i :: mr 10 :: r) M := w_callV2 hZ ip np hc hn rfl rfl h3 ⟨_, _, rfl, hp, fun M2 h => kz M2 h⟩
def cd_X5_writeFigure : List Sem := [I_aload 0, I_get 5 3, I_iload 1, I_callV 0 1 sp_X0_isBehindFigures, I_ifne 8, I_aload 0, I_const (61), I_callV 5 1 sp_X5_addCell, I_aload 0, I_iload 2, I_callS 1 sp_X6_cellOfFigure, I_callV 5 1 sp_X5_addCell, I_vret]
def pc_X5_writeFigure : List Nat := [0, 1, 4, 5, 8, 11, 12, 14, 17, 18, 19, 22, 25]
set_option maxRecDepth 100000 in
set_option maxHeartbeats 4000000 in
theorem b_X5_writeFigure (i : Int) (i_i : InR i) (s : Int) (i_s : InR s) (M : Mem) (Ret : KR) (hp : vOk (bX M 1) ∧ 0 ≤ i ∧ i < M 1 5 ∧ s = vS (bX M 1) i ∧ isFg s ∧ 0 ≤ M 10 4 ∧ M 10 4 + (sgE (bX M 1) i).length ≤ 240 ∧ Sn M) (hR : ∀ M2 : Mem, (ApE (sgE (bX M 1) i) M M2) → Ret none M2) (hM : MOk M) (Z : KZ) (hZ : Sim cd_X5_writeFigure Z Ret) : Z 0 [some (mr 10), some (mi i), some (mi s)] [] M := by
  obtain ⟨hv, hi0, hi1, hs, hf, hc0, hc1, hsn⟩ := hp
  have hb := hv.bx
  have hbb := hb
  obtain ⟨b1, b2, b3, b4⟩ := hbb
  have hff := hf
  rw [hs] at hff
  have hE : sgE (bX M 1) i = (if isBh (SX M) i then [] else [(61, -1, i, 0)]) ++ [(fgC s, -1, i, 0)] := by
    have q : sgE (bX M 1) i = (if isBh (vS (bX M 1)) i then [] else [(61, -1, i, 0)]) ++ [(fgC s, -1, i, 0)] := by
      unfold sgE; rw [if_pos hff, hs]
    exact q
  have fin : ∀ (A : List Ev) (N : Mem), ApE A M N → sgE (bX M 1) i = A ++ [(fgC s, -1, i, 0)] → Z 8 [some (mr 10), some (mi i), some (mi s)] [] N := by
    intro A N hA hE2
    have hlen : (sgE (bX M 1) i).length = A.length + 1 := by rw [hE2]; simp
    have ha1 := hA.1
    refine w_aload hZ 8 9 rfl rfl rfl ?_
    refine w_iload hZ 9 10 rfl rfl rfl ?_
    refine k_X6_cellOfFigure hZ 10 11 rfl rfl (Nat.le_of_ble_eq_true rfl) ⟨by omega, by omega⟩ ?_
    refine k_X5_addCell hZ 11 12 rfl rfl (Nat.le_of_ble_eq_true rfl) ⟨by omega, by omega⟩ (fun M11 p11 => ?_)
    refine w_vret hZ 12 rfl ?_
    subst p11
    refine hR _ ?_
    rw [hE2]
    exact hA.trans (ApE_cell (by omega) (fgC s, -1, i, 0) rfl) hc0 (fun k hk => (hsn k hk).1)
  refine w_aload hZ 0 1 rfl rfl rfl ?_
  refine w_getr hZ 1 2 rfl rfl rfl rfl rfl ?_
  refine w_iload hZ 2 3 rfl rfl rfl ?_
  refine k_X0_isBehindFigures hZ 3 4 rfl rfl (Nat.le_of_ble_eq_true rfl) ⟨hb, by unfold InR; omega, by unfold InR; omega⟩ ?_
  refine w_ifne hZ 4 5 rfl rfl (fun c4 => ?_) (fun c4 => ?_)
  · first
      | (subst p7; refine fin _ _ (ApE_cell hc0 (61, -1, i, 0) rfl) ?_; rw [hE, if_neg (b2i_z.mp c4)])
      | (refine fin [] M (ApE_nil M) ?_; rw [hE, if_pos (b2i_e.mp c4)])
  · have hlen : (sgE (bX M 1) i).length = 2 := by rw [hE, if_neg (b2i_z.mp c4)]; rfl
    refine w_aload hZ 5 6 rfl rfl rfl ?_
    refine w_const hZ 6 7 rfl rfl  ?_
    refine k_X5_addCell hZ 7 8 rfl rfl (Nat.le_of_ble_eq_true rfl) (by omega) (fun M7 p7 => ?_)
    first
      | (subst p7; refine fin _ _ (ApE_cell hc0 (61, -1, i, 0) rfl) ?_; rw [hE, if_neg (b2i_z.mp c4)])
      | (refine fin [] M (ApE_nil M) ?_; rw [hE, if_pos (b2i_e.mp c4)])
set_option maxRecDepth 100000 in
set_option maxHeartbeats 4000000 in
theorem ao_X5_writeFigure : AllOk yX5_writeFigure.cls cX5_writeFigure 3 2 42 none none pc_X5_writeFigure 0 cd_X5_writeFigure := ⟨s_aload_n (k := 0) (by decide +kernel) rfl rfl, ⟨s_get (C := RX5) (T := TX5) (N := 12) rfl inT5 (by decide) tw_1_95 (by decide +kernel) rfl, ⟨s_iload_n (k := 1) (by decide +kernel) rfl rfl, ⟨s_callV (C := RX0) (T := TX0) (N := 8) rfl ct_X0_isBehindFigures (by decide) (by decide) ⟨rfl, by decide +kernel, by decide +kernel, by decide +kernel⟩ tw_2_165 tw_2_166 tw_2_167 tw_1_2 tw_2_168 (by decide +kernel) rfl, ⟨s_ifne (off := (9)) (by decide +kernel) rfl rfl, ⟨s_aload_n (k := 0) (by decide +kernel) rfl rfl, ⟨s_bipush (by decide +kernel) rfl ⟨by decide, by decide⟩ (by decide +kernel), ⟨s_callV (C := RX5) (T := TX5) (N := 12) rfl ct_X5_addCell (by decide) (by decide) ⟨rfl, by decide +kernel, by decide +kernel, by decide +kernel⟩ tw_2_171 tw_2_173 ts_1_7 tw_1_4 tw_2_174 (by decide +kernel) rfl, ⟨s_aload_n (k := 0) (by decide +kernel) rfl rfl, ⟨s_iload_n (k := 2) (by decide +kernel) rfl rfl, ⟨s_callN ct_X6_cellOfFigure (by decide) (by decide) ⟨by decide +kernel, by decide +kernel, by decide +kernel⟩ ni_12 tw_2_203 tw_1_1 tw_2_204 (by decide +kernel) rfl, ⟨s_callV (C := RX5) (T := TX5) (N := 12) rfl ct_X5_addCell (by decide) (by decide) ⟨rfl, by decide +kernel, by decide +kernel, by decide +kernel⟩ tw_2_171 tw_2_173 ts_1_7 tw_1_4 tw_2_174 (by decide +kernel) rfl, ⟨s_vret rfl (by decide +kernel), trivial⟩⟩⟩⟩⟩⟩⟩⟩⟩⟩⟩⟩⟩
theorem ct_X5_writeFigure : Ctr yX5_writeFigure cX5_writeFigure 3 none 2 42 sp_X5_writeFigure := by
  refine ctr_of (by decide +kernel) ao_X5_writeFigure rfl ?_
  rintro av M Ret ⟨i, s, rfl, hp, hR⟩ hok hM
  exact ⟨Nat.le_of_ble_eq_true rfl, fun Z hZ => b_X5_writeFigure  i (hok _ (List.mem_of_getElem? (i := 1) rfl)) s (hok _ (List.mem_of_getElem? (i := 2) rfl)) M Ret hp hR hM Z hZ⟩
