/-! THE REFERENCE: its acts -/
theorem YR.undo {s : St} {M N : Mem} (h : YR s M) (hv : stOk s) {V : BV} {t : List BV} (hh : sH s = V :: t) (e : ∀ o, ¬ o = 73 → ¬ o = 74 → N o = M o) (e2 : N 73 2 = M 73 2 - 1) (e3 : N 73 16 = M 73 16) (e4 : ∀ j : Nat, j < 160 → N 74 j = M 75 (160 * t.length + j)) : YR (V, t, sI s, sC s, sL s) N := by
  obtain ⟨a1, a2, a3, a4, a5, a6⟩ := h
  rw [hh] at a2 a3
  have h3 := hv.2.2.1
  rw [hh] at h3
  have hV : YV N = V := by
    have q := a3 0 (by simp)
    have q2 : bY (M 75) (160 * t.length) = V := by
      rw [show 160 * ((V :: t).length - 1 - 0) = 160 * t.length by simp] at q; exact q
    have hvv : vOk (bY (M 75) (160 * t.length)) := by rw [q2]; exact h3 V List.mem_cons_self
    have hvv := hvv.ylim
    rw [← q2]
    refine (bY_congr (fun j hj => ?_) hvv.1 hvv.2).symm
    rw [Nat.zero_add, e4 j hj]
  refine ⟨hV, by rw [e2, a2]; simp, fun j hj => ?_, by rw [e 76 (by omega) (by omega), e 77 (by omega) (by omega)]; exact a4, by rw [e3]; exact a5, by rw [e 82 (by omega) (by omega)]; exact a6⟩
  replace hj : j < t.length := hj
  show bY (N 75) (160 * (t.length - 1 - j)) = t.getD j V
  have q := a3 (j + 1) (by simp; omega)
  rw [show 160 * ((V :: t).length - 1 - (j + 1)) = 160 * (t.length - 1 - j) by simp; omega, gD_in _ _ (by simp; omega)] at q
  rw [e 75 (by omega) (by omega), q, gD_in _ _ hj]
  rfl
theorem YR.keep {s : St} {M N : Mem} (h : YR s M) (hv : stOk s) {k : Nat} (hk : k < 2) (e : ∀ o, ¬ o = 73 → ¬ o = 76 → ¬ o = 77 → N o = M o) (e1 : ∀ j : Nat, j < 160 → N 76 (160 * k + j) = M 74 j) (e2 : ∀ j : Nat, j < 160 * k ∨ 160 * k + 160 ≤ j → N 76 j = M 76 j) (e3 : ∀ j : Nat, N 77 j = if j = k then 1 else M 77 j) (e4 : N 73 2 = 0) (e5 : N 73 16 = M 73 16) : YR (sB s, [], upI (sI s) k (sB s), sC s, sL s) N := by
  have hvo := (h.vo hv).ylim
  obtain ⟨a1, a2, a3, a4, a5, a6⟩ := h
  refine ⟨by unfold YV; rw [e 74 (by omega) (by omega) (by omega)]; exact a1, by rw [e4]; rfl, fun j hj => absurd hj (Nat.not_lt_zero _), fun j hj => ?_, by rw [e5]; exact a5, by rw [e 82 (by omega) (by omega) (by omega)]; exact a6⟩
  show (N 77 j = 0 ∧ (if (j : Int) = (k : Int) then some (sB s) else sI s j) = none) ∨ (N 77 j = 1 ∧ (if (j : Int) = (k : Int) then some (sB s) else sI s j) = some (bY (N 76) (160 * j)))
  rw [e3]
  by_cases q : j = k
  · subst q
    rw [if_pos rfl, if_pos rfl]
    refine Or.inr ⟨rfl, ?_⟩
    rw [← a1]
    refine congrArg some (bY_congr (fun i hi => ?_) hvo.1 hvo.2)
    rw [Nat.zero_add, e1 i hi]
  · rw [if_neg q, if_neg (by omega)]
    rcases a4 j hj with z | ⟨z1, z2⟩
    · exact Or.inl z
    · refine Or.inr ⟨z1, ?_⟩
      rw [z2]
      have hvi := (hv.2.2.2.1 _ _ z2).ylim
      refine congrArg some (bY_congr (fun i hi => ?_) hvi.1 hvi.2)
      rw [e2 _ (by omega)]
theorem YR.back {s : St} {M N : Mem} (h : YR s M) (hv : stOk s) {k : Nat} {V : BV} (hV : sI s k = some V) (hk : k < 2) (e : ∀ o, ¬ o = 73 → ¬ o = 74 → N o = M o) (e1 : ∀ j : Nat, j < 160 → N 74 j = M 76 (160 * k + j)) (e4 : N 73 2 = 0) (e5 : N 73 16 = M 73 16) : YR (V, [], sI s, sC s, sL s) N := by
  obtain ⟨a1, a2, a3, a4, a5, a6⟩ := h
  have hb : V = bY (M 76) (160 * k) := by
    rcases a4 k hk with ⟨_, z⟩ | ⟨_, z⟩
    · rw [hV] at z; exact absurd z (by simp)
    · rw [hV] at z; exact Option.some.inj z
  have hvi := hv.2.2.2.1 _ _ hV
  rw [hb] at hvi
  have hvi := hvi.ylim
  refine ⟨?_, by rw [e4]; rfl, fun j hj => absurd hj (Nat.not_lt_zero _), by rw [e 76 (by omega) (by omega), e 77 (by omega) (by omega)]; exact a4, by rw [e5]; exact a5, by rw [e 82 (by omega) (by omega)]; exact a6⟩
  show bY (N 74) 0 = V
  rw [hb]
  refine (bY_congr (fun j hj => ?_) hvi.1 hvi.2).symm
  rw [Nat.zero_add, e1 j hj]
theorem YR.felt {s : St} {M N : Mem} (h : YR s M) {m : Int} {F : Int → Int} (e : ∀ o, ¬ o = 73 → ¬ o = 78 → ¬ o = 79 → ¬ o = 80 → ¬ o = 82 → N o = M o) (e2 : N 73 2 = M 73 2) (e3 : N 73 16 = m) (e4 : sgn m (N 82) = F) : YR (sB s, sH s, sI s, m, F) N := by
  obtain ⟨a1, a2, a3, a4, a5, a6⟩ := h
  refine ⟨by unfold YV; rw [e 74 (by omega) (by omega) (by omega) (by omega) (by omega)]; exact a1, by rw [e2]; exact a2, fun j hj => ?_, by rw [e 76 (by omega) (by omega) (by omega) (by omega) (by omega), e 77 (by omega) (by omega) (by omega) (by omega) (by omega)]; exact a4, e3, e4⟩
  rw [e 75 (by omega) (by omega) (by omega) (by omega) (by omega)]; exact a3 j hj
def sp_X7_rule : SP := fun av M Ret => ∃ s : St, ∃ c : Int, ∃ e : Int, ∃ k : Int, av = [mr 73, mi c, mi e, mi k] ∧ (YR s M ∧ stOk s) ∧ (∀ M2 : Mem, (YR (oRule s c e k).2 M2 ∧ ∀ k, k < 73 → M2 k = M k) → Ret (some (mi ((oRule s c e k).1))) M2)
theorem k_X7_rule {code : List Sem} {Z : KZ} {Ret : KR} {ls : List (Option MV)} {M : Mem} {r : List MV} (hZ : Sim code Z Ret) (ip np : Nat) {s : St} {c e k : Int} (hc : code[ip]? = some (I_callV 7 3 sp_X7_rule)) (hn : ip + 1 = np) (h3 : catS r ≤ 8)  (hp : YR s M ∧ stOk s) (kz : ∀ M2 : Mem, (YR (oRule s c e k).2 M2 ∧ ∀ k, k < 73 → M2 k = M k) → Z np ls (mi ((oRule s c e k).1) :: r) M2) : Z ip ls (mi k :: mi e :: mi c :: mr 73 :: r) M := w_callV3 hZ ip np hc hn rfl rfl h3 ⟨_, _, _, _, rfl, hp, fun M2 h => kz M2 h⟩
def cd_X7_rule : List Sem := [I_iload 1, I_callS 1 sp_X7_isCode, I_ifeq 15, I_iload 2, I_i2l, I_lconst (30), I_lconst (59), I_callS 3 sp_X7_in, I_ifeq 15, I_iload 3, I_i2l, I_lconst (0), I_lconst (4), I_callS 3 sp_X7_in, I_ifne 17, I_const (-1000000002), I_iret, I_aload 0, I_iload 1, I_iload 2, I_callV 7 2 sp_X7_isTaken, I_ifeq 24, I_const (-1000000003), I_iret, I_aload 0, I_get 7 0, I_const (0), I_iald, I_const (12), I_cne 32, I_const (-1000000004), I_iret, I_aload 0, I_callV 7 0 sp_X7_note, I_aload 0, I_iload 1, I_iload 2, I_iload 3, I_callV 7 3 sp_X7_addRule, I_aload 0, I_get 7 0, I_const (0), I_iald, I_const (1), I_sub, I_iret]
def pc_X7_rule : List Nat := [0, 1, 4, 7, 8, 9, 12, 15, 18, 21, 22, 23, 24, 27, 30, 33, 35, 36, 37, 38, 39, 42, 45, 47, 48, 49, 52, 53, 54, 56, 59, 61, 62, 63, 66, 67, 68, 69, 70, 73, 74, 77, 78, 79, 80, 81]
set_option maxRecDepth 100000 in
set_option maxHeartbeats 4000000 in
theorem b_X7_rule (s : St) (c : Int) (i_c : InR c) (e : Int) (i_e : InR e) (k : Int) (i_k : InR k) (M : Mem) (Ret : KR) (hp : YR s M ∧ stOk s) (hR : ∀ M2 : Mem, (YR (oRule s c e k).2 M2 ∧ ∀ k, k < 73 → M2 k = M k) → Ret (some (mi ((oRule s c e k).1))) M2) (hM : MOk M) (Z : KZ) (hZ : Sim cd_X7_rule Z Ret) : Z 0 [some (mr 73), some (mi c), some (mi e), some (mi k)] [] M := by
  obtain ⟨hx, hv⟩ := hp
  have hB := hx.yb hv
  have hvo := hx.vo hv
  have hU : 0 ≤ M 73 2 ∧ M 73 2 ≤ 8 := ⟨by rw [hx.2.1]; omega, by rw [hx.2.1]; have := hv.2.1; omega⟩
  have fin : ∀ r : Int × St, (oRule s c e k) = r → ∀ (x : Int) (M2 : Mem), x = r.1 → (YR r.2 M2 ∧ ∀ k, k < 73 → M2 k = M k) → Ret (some (mi x)) M2 := by
    intro r q x M2 e h; subst e; subst q; exact hR M2 h
  have non : ∀ x : Int, (oRule s c e k) = (x, s) → Ret (some (mi x)) M := fun x q => fin _ q x M rfl ⟨hx, fun _ _ => rfl⟩
  have h0 := hx.r0
  refine w_iload hZ 0 1 rfl rfl rfl ?_
  refine k_X7_isCode hZ 1 2 rfl rfl (Nat.le_of_ble_eq_true rfl)  ?_
  refine w_ifeq hZ 2 3 rfl rfl (fun c2 => ?_) (fun c2 => ?_)
  · refine w_const hZ 15 16 rfl rfl  ?_
    refine w_iret hZ 16 rfl ?_
    first
      | exact non _ (by unfold oRule; rw [if_pos (fun z => (b2i_z.mp c2) z.1)])
      | exact non _ (by unfold oRule; rw [if_pos (fun z => (b2i_z.mp c8) z.2.1)])
      | exact non _ (by unfold oRule; rw [if_pos (fun z => (b2i_z.mp c14) z.2.2)])
  · refine w_iload hZ 3 4 rfl rfl rfl ?_
    refine w_i2l hZ 4 5 rfl rfl  ?_
    refine w_lconst hZ 5 6 rfl rfl  ?_
    refine w_lconst hZ 6 7 rfl rfl  ?_
    refine k_X7_in hZ 7 8 rfl rfl (Nat.le_of_ble_eq_true rfl)  ?_
    refine w_ifeq hZ 8 9 rfl rfl (fun c8 => ?_) (fun c8 => ?_)
    · refine w_const hZ 15 16 rfl rfl  ?_
      refine w_iret hZ 16 rfl ?_
      first
        | exact non _ (by unfold oRule; rw [if_pos (fun z => (b2i_z.mp c2) z.1)])
        | exact non _ (by unfold oRule; rw [if_pos (fun z => (b2i_z.mp c8) z.2.1)])
        | exact non _ (by unfold oRule; rw [if_pos (fun z => (b2i_z.mp c14) z.2.2)])
    · refine w_iload hZ 9 10 rfl rfl rfl ?_
      refine w_i2l hZ 10 11 rfl rfl  ?_
      refine w_lconst hZ 11 12 rfl rfl  ?_
      refine w_lconst hZ 12 13 rfl rfl  ?_
      refine k_X7_in hZ 13 14 rfl rfl (Nat.le_of_ble_eq_true rfl)  ?_
      refine w_ifne hZ 14 15 rfl rfl (fun c14 => ?_) (fun c14 => ?_)
      · have hq : vC c ∧ isRC e ∧ 0 ≤ k ∧ k ≤ 4 := ⟨b2i_e.mp c2, b2i_e.mp c8, b2i_e.mp c14⟩
        refine w_aload hZ 17 18 rfl rfl rfl ?_
        refine w_iload hZ 18 19 rfl rfl rfl ?_
        refine w_iload hZ 19 20 rfl rfl rfl ?_
        refine k_X7_isTaken hZ 20 21 rfl rfl (Nat.le_of_ble_eq_true rfl) hB ?_
        rw [hx.1]
        refine w_ifeq hZ 21 22 rfl rfl (fun c21 => ?_) (fun c21 => ?_)
        · refine w_aload hZ 24 25 rfl rfl rfl ?_
          refine w_getr hZ 25 26 rfl rfl rfl rfl rfl ?_
          refine w_const hZ 26 27 rfl rfl  ?_
          refine w_ialdk hZ 27 28 0 rfl rfl rfl rfl (by decide) ?_
          refine w_const hZ 28 29 rfl rfl  ?_
          refine w_cne hZ 29 30 rfl rfl (fun c29 => ?_) (fun c29 => ?_)
          · refine w_aload hZ 32 33 rfl rfl rfl ?_
            refine k_X7_note hZ 33 34 rfl rfl (Nat.le_of_ble_eq_true rfl) hU (fun M33 p33 => ?_)
            have hx2 := hx.note hv p33
            have hB2 := hx2.yb (nx_ok hv hv.1)
            have h02 : M33 74 0 = vR (sB s) := hx2.r0
            refine w_aload hZ 34 35 rfl rfl rfl ?_
            refine w_iload hZ 35 36 rfl rfl rfl ?_
            refine w_iload hZ 36 37 rfl rfl rfl ?_
            refine w_iload hZ 37 38 rfl rfl rfl ?_
            refine k_X7_addRule hZ 38 39 rfl rfl (Nat.le_of_ble_eq_true rfl) ⟨hB2, by omega⟩ (fun M38 p38 => ?_)
            have hz := hx.nx hv p33 (M2 := M38) p38.2 p38.1
            rw [hx2.1] at hz
            have h43 : M38 74 0 = vR (sB s) + 1 := by rw [hz.1.r0]; rfl
            refine w_aload hZ 39 40 rfl rfl rfl ?_
            refine w_getr hZ 40 41 rfl rfl rfl rfl rfl ?_
            refine w_const hZ 41 42 rfl rfl  ?_
            refine w_ialdk hZ 42 43 0 rfl rfl rfl rfl (by decide) ?_
            refine w_const hZ 43 44 rfl rfl  ?_
            refine w_sub hZ 44 45 rfl rfl (by unfold InR; omega) ?_
            refine w_iret hZ 45 rfl ?_
            exact fin _ (by unfold oRule; rw [if_neg (fun z => z hq), if_neg (b2i_z.mp c21), if_neg (by omega)]) _ _ (by show M38 74 0 - 1 = _; omega) hz
          · refine w_const hZ 30 31 rfl rfl  ?_
            refine w_iret hZ 31 rfl ?_
            exact non _ (by unfold oRule; rw [if_neg (fun z => z hq), if_neg (b2i_z.mp c21), if_pos (by omega)])
        · refine w_const hZ 22 23 rfl rfl  ?_
          refine w_iret hZ 23 rfl ?_
          exact non _ (by unfold oRule; rw [if_neg (fun z => z hq), if_pos (b2i_e.mp c21)])
      · refine w_const hZ 15 16 rfl rfl  ?_
        refine w_iret hZ 16 rfl ?_
        first
          | exact non _ (by unfold oRule; rw [if_pos (fun z => (b2i_z.mp c2) z.1)])
          | exact non _ (by unfold oRule; rw [if_pos (fun z => (b2i_z.mp c8) z.2.1)])
          | exact non _ (by unfold oRule; rw [if_pos (fun z => (b2i_z.mp c14) z.2.2)])
set_option maxRecDepth 100000 in
set_option maxHeartbeats 4000000 in
theorem ao_X7_rule : AllOk yX7_rule.cls cX7_rule 4 3 67 (some .int) none pc_X7_rule 0 cd_X7_rule := ⟨s_iload_n (k := 1) (by decide +kernel) rfl rfl, ⟨s_callS ct_X7_isCode (by decide) (by decide) ⟨by decide +kernel, by decide +kernel, by decide +kernel⟩ tw_3_230 tw_3_231 tw_1_8 tw_3_232 (by decide +kernel) rfl, ⟨s_ifeq (off := (29)) (by decide +kernel) rfl rfl, ⟨s_iload_n (k := 2) (by decide +kernel) rfl rfl, ⟨s_i2l (by decide +kernel) rfl, ⟨s_ldc2 (v := (30)) tw_4_5 (by decide +kernel) rfl ⟨by decide, by decide⟩ (by decide +kernel), ⟨s_ldc2 (v := (59)) tw_4_6 (by decide +kernel) rfl ⟨by decide, by decide⟩ (by decide +kernel), ⟨s_callS ct_X7_in (by decide) (by decide) ⟨by decide +kernel, by decide +kernel, by decide +kernel⟩ tw_3_234 tw_3_235 tw_1_8 tw_3_236 (by decide +kernel) rfl, ⟨s_ifeq (off := (15)) (by decide +kernel) rfl rfl, ⟨s_iload_n (k := 3) (by decide +kernel) rfl rfl, ⟨s_i2l (by decide +kernel) rfl, ⟨s_lconst (k := 0) (by decide +kernel) rfl ⟨by decide, by decide⟩ (by decide +kernel), ⟨s_ldc2 (v := (4)) tw_4_1 (by decide +kernel) rfl ⟨by decide, by decide⟩ (by decide +kernel), ⟨s_callS ct_X7_in (by decide) (by decide) ⟨by decide +kernel, by decide +kernel, by decide +kernel⟩ tw_3_234 tw_3_235 tw_1_8 tw_3_236 (by decide +kernel) rfl, ⟨s_ifne (off := (6)) (by decide +kernel) rfl rfl, ⟨s_ldc (v := (-1000000002)) tw_4_7 (by decide +kernel) rfl ⟨by decide, by decide⟩ (by decide +kernel), ⟨s_iret rfl (by decide +kernel), ⟨s_aload_n (k := 0) (by decide +kernel) rfl rfl, ⟨s_iload_n (k := 1) (by decide +kernel) rfl rfl, ⟨s_iload_n (k := 2) (by decide +kernel) rfl rfl, ⟨s_callV (C := RX7) (T := TX7) (N := 22) rfl ct_X7_isTaken (by decide) (by decide) ⟨rfl, by decide +kernel, by decide +kernel, by decide +kernel⟩ tw_4_8 tw_4_10 ts_3_3 tw_1_8 tw_4_11 (by decide +kernel) rfl, ⟨s_ifeq (off := (6)) (by decide +kernel) rfl rfl, ⟨s_ldc (v := (-1000000003)) tw_4_12 (by decide +kernel) rfl ⟨by decide, by decide⟩ (by decide +kernel), ⟨s_iret rfl (by decide +kernel), ⟨s_aload_n (k := 0) (by decide +kernel) rfl rfl, ⟨s_get (C := RX7) (T := TX7) (N := 22) rfl inT7 (by decide) tw_3_159 (by decide +kernel) rfl, ⟨s_iconst (by decide +kernel) rfl ⟨by decide, by decide⟩, ⟨s_iald (by decide +kernel) rfl, ⟨s_bipush (by decide +kernel) rfl ⟨by decide, by decide⟩ (by decide +kernel), ⟨s_cne (off := (6)) (by decide +kernel) rfl rfl, ⟨s_ldc (v := (-1000000004)) tw_4_13 (by decide +kernel) rfl ⟨by decide, by decide⟩ (by decide +kernel), ⟨s_iret rfl (by decide +kernel), ⟨s_aload_n (k := 0) (by decide +kernel) rfl rfl, ⟨s_callV (C := RX7) (T := TX7) (N := 22) rfl ct_X7_note (by decide) (by decide) ⟨rfl, by decide +kernel, by decide +kernel, by decide +kernel⟩ tw_4_14 tw_4_16 ts_3_4 tw_1_8 tw_4_17 (by decide +kernel) rfl, ⟨s_aload_n (k := 0) (by decide +kernel) rfl rfl, ⟨s_iload_n (k := 1) (by decide +kernel) rfl rfl, ⟨s_iload_n (k := 2) (by decide +kernel) rfl rfl, ⟨s_iload_n (k := 3) (by decide +kernel) rfl rfl, ⟨s_callV (C := RX7) (T := TX7) (N := 22) rfl ct_X7_addRule (by decide) (by decide) ⟨rfl, by decide +kernel, by decide +kernel, by decide +kernel⟩ tw_4_18 tw_4_20 ts_3_5 tw_1_8 tw_4_21 (by decide +kernel) rfl, ⟨s_aload_n (k := 0) (by decide +kernel) rfl rfl, ⟨s_get (C := RX7) (T := TX7) (N := 22) rfl inT7 (by decide) tw_3_159 (by decide +kernel) rfl, ⟨s_iconst (by decide +kernel) rfl ⟨by decide, by decide⟩, ⟨s_iald (by decide +kernel) rfl, ⟨s_iconst (by decide +kernel) rfl ⟨by decide, by decide⟩, ⟨s_sub (by decide +kernel) rfl, ⟨s_iret rfl (by decide +kernel), trivial⟩⟩⟩⟩⟩⟩⟩⟩⟩⟩⟩⟩⟩⟩⟩⟩⟩⟩⟩⟩⟩⟩⟩⟩⟩⟩⟩⟩⟩⟩⟩⟩⟩⟩⟩⟩⟩⟩⟩⟩⟩⟩⟩⟩⟩⟩
theorem ct_X7_rule : Ctr yX7_rule cX7_rule 4 (some .int) 3 67 sp_X7_rule := by
  refine ctr_of (by decide +kernel) ao_X7_rule rfl ?_
  rintro av M Ret ⟨s, c, e, k, rfl, hp, hR⟩ hok hM
  exact ⟨Nat.le_of_ble_eq_true rfl, fun Z hZ => b_X7_rule s c (hok _ (List.mem_of_getElem? (i := 1) rfl)) e (hok _ (List.mem_of_getElem? (i := 2) rfl)) k (hok _ (List.mem_of_getElem? (i := 3) rfl)) M Ret hp hR hM Z hZ⟩
def sp_X7_drop : SP := fun av M Ret => ∃ s : St, ∃ k : Int, av = [mr 73, mi k] ∧ (YR s M ∧ stOk s) ∧ (∀ M2 : Mem, (YR (oDrop s k).2 M2 ∧ ∀ k, k < 73 → M2 k = M k) → Ret (some (mi ((oDrop s k).1))) M2)
theorem k_X7_drop {code : List Sem} {Z : KZ} {Ret : KR} {ls : List (Option MV)} {M : Mem} {r : List MV} (hZ : Sim code Z Ret) (ip np : Nat) {s : St} {k : Int} (hc : code[ip]? = some (I_callV 7 1 sp_X7_drop)) (hn : ip + 1 = np) (h3 : catS r ≤ 8)  (hp : YR s M ∧ stOk s) (kz : ∀ M2 : Mem, (YR (oDrop s k).2 M2 ∧ ∀ k, k < 73 → M2 k = M k) → Z np ls (mi ((oDrop s k).1) :: r) M2) : Z ip ls (mi k :: mr 73 :: r) M := w_callV1 hZ ip np hc hn rfl rfl h3 ⟨_, _, rfl, hp, fun M2 h => kz M2 h⟩
def cd_X7_drop : List Sem := [I_aload 0, I_iload 1, I_callV 7 1 sp_X7_isRule, I_ifne 6, I_const (-1000000001), I_iret, I_aload 0, I_callV 7 0 sp_X7_note, I_aload 0, I_get 7 0, I_const (0), I_dup2, I_iald, I_const (1), I_sub, I_iast, I_iload 1, I_istore 2, I_iload 2, I_const (12), I_cge 87, I_iload 2, I_aload 0, I_get 7 0, I_const (0), I_iald, I_cge 29, I_const (1), I_goto 30, I_const (0), I_istore 3, I_aload 0, I_get 7 0, I_const (1), I_iload 2, I_add, I_iload 3, I_ifeq 47, I_aload 0, I_get 7 0, I_const (1), I_iload 2, I_add, I_const (1), I_add, I_iald, I_goto 48, I_const (0), I_iast, I_aload 0, I_get 7 0, I_const (13), I_iload 2, I_add, I_iload 3, I_ifeq 65, I_aload 0, I_get 7 0, I_const (13), I_iload 2, I_add, I_const (1), I_add, I_iald, I_goto 66, I_const (0), I_iast, I_aload 0, I_get 7 0, I_const (25), I_iload 2, I_add, I_iload 3, I_ifeq 83, I_aload 0, I_get 7 0, I_const (25), I_iload 2, I_add, I_const (1), I_add, I_iald, I_goto 84, I_const (0), I_iast, I_iinc 2 (1), I_goto 18, I_aload 0, I_get 7 0, I_const (0), I_iald, I_iret]
def pc_X7_drop : List Nat := [0, 1, 2, 5, 8, 10, 11, 12, 15, 16, 19, 20, 21, 22, 23, 24, 25, 26, 27, 28, 30, 33, 34, 35, 38, 39, 40, 43, 44, 47, 48, 49, 50, 53, 54, 55, 56, 57, 60, 61, 64, 65, 66, 67, 68, 69, 70, 73, 74, 75, 76, 79, 81, 82, 83, 84, 87, 88, 91, 93, 94, 95, 96, 97, 98, 101, 102, 103, 104, 107, 109, 110, 111, 112, 115, 116, 119, 121, 122, 123, 124, 125, 126, 129, 130, 131, 134, 137, 138, 141, 142, 143]
set_option maxRecDepth 100000 in
set_option maxHeartbeats 4000000 in
theorem b_X7_drop (s : St) (k : Int) (i_k : InR k) (M : Mem) (Ret : KR) (hp : YR s M ∧ stOk s) (hR : ∀ M2 : Mem, (YR (oDrop s k).2 M2 ∧ ∀ k, k < 73 → M2 k = M k) → Ret (some (mi ((oDrop s k).1))) M2) (hM : MOk M) (Z : KZ) (hZ : Sim cd_X7_drop Z Ret) : Z 0 [some (mr 73), some (mi k), none, none] [] M := by
  obtain ⟨hx, hv⟩ := hp
  have hB := hx.yb hv
  have hvo := hx.vo hv
  have hU : 0 ≤ M 73 2 ∧ M 73 2 ≤ 8 := ⟨by rw [hx.2.1]; omega, by rw [hx.2.1]; have := hv.2.1; omega⟩
  have fin : ∀ r : Int × St, (oDrop s k) = r → ∀ (x : Int) (M2 : Mem), x = r.1 → (YR r.2 M2 ∧ ∀ k, k < 73 → M2 k = M k) → Ret (some (mi x)) M2 := by
    intro r q x M2 e h; subst e; subst q; exact hR M2 h
  have non : ∀ x : Int, (oDrop s k) = (x, s) → Ret (some (mi x)) M := fun x q => fin _ q x M rfl ⟨hx, fun _ _ => rfl⟩
  have h0 := hx.r0
  have loop : ∀ P : Mem, ntB M P → YV P = sB s → P 74 0 = vR (sB s) → 0 ≤ k → k < vR (sB s) → ∀ (d : Nat) (i : Int) (N : Mem), d = (12 - i).toNat → k ≤ i → i ≤ 12 → (∀ o, ¬ o = 74 → N o = P o) → N 74 0 = vR (sB s) - 1 → Hid (∀ j : Nat, 37 ≤ j → N 74 j = P 74 j) → Hid (∀ o : Nat, o = 1 ∨ o = 13 ∨ o = 25 → ∀ j : Nat, j < 12 → N 74 (o + j) = if k ≤ (j : Int) ∧ (j : Int) < i then (if (j : Int) < vR (sB s) - 1 then P 74 (o + j + 1) else 0) else P 74 (o + j)) → Z 18 [some (mr 73), some (mi k), some (mi i), none] [] N := by
    intro P hP hPs hP0 k0 k1 d
    have r12 := hv.1.2.2.2.1
    induction d using Nat.strongRecOn with
    | ind d ih =>
      intro i N hd i0 i1 n1 n2 n3 n4
      have st : i < 12 → ∀ (x y1 y2 y3 : Int), (∀ o y, (o = 1 ∧ y = y1) ∨ (o = 13 ∧ y = y2) ∨ (o = 25 ∧ y = y3) → y = if i < vR (sB s) - 1 then P 74 (o + i.toNat + 1) else 0) → Z 85 [some (mr 73), some (mi k), some (mi i), some (mi x)] [] (mup (mup (mup N 74 (1 + i).toNat y1) 74 (13 + i).toNat y2) 74 (25 + i).toNat y3) := by
        intro hi x y1 y2 y3 hy
        refine w_in4_2 hZ 85 86 rfl rfl rfl (by unfold InR; omega) ?_
        refine w_goto hZ 86 18 rfl ?_
        refine w_fg4_3 hZ ?_
        refine ih (12 - (i + 1)).toNat (by omega) (i + 1) _ rfl (by omega) (by omega) (fun o ho => ?_) ?_ (fun j hj => ?_) (fun o ho j hj => ?_)
        · rw [← n1 o ho]; funext q; simp [mup_at, ho]
        · rw [mup_at, if_neg (by omega), mup_at, if_neg (by omega), mup_at, if_neg (by omega)]; exact n2
        · rw [mup_at, if_neg (by omega), mup_at, if_neg (by omega), mup_at, if_neg (by omega)]; exact n3.u j hj
        · have q := n4.u o ho j hj
          by_cases hj2 : (j : Int) = i
          · rw [if_pos ⟨by omega, by omega⟩]
            have hy1 := hy o (if o = 1 then y1 else if o = 13 then y2 else y3) (by rcases ho with rfl | rfl | rfl <;> simp)
            rw [show i.toNat = j by omega, ← hj2] at hy1
            rw [← hy1]
            rcases ho with rfl | rfl | rfl
            · rw [mup_at, if_neg (by omega), mup_at, if_neg (by omega), mup_at, if_pos (by omega)]; rfl
            · rw [mup_at, if_neg (by omega), mup_at, if_pos (by omega)]; rfl
            · rw [mup_at, if_pos (by omega)]; rfl
          · rw [mup_at, if_neg (by omega), mup_at, if_neg (by omega), mup_at, if_neg (by omega), q]
            by_cases z : k ≤ (j : Int) ∧ (j : Int) < i
            · rw [if_pos z]; exact (if_pos (show k ≤ (j : Int) ∧ (j : Int) < i + 1 from ⟨z.1, by omega⟩)).symm
            · rw [if_neg z]; exact (if_neg (show ¬ (k ≤ (j : Int) ∧ (j : Int) < i + 1) from fun z2 => z ⟨z2.1, by omega⟩)).symm
      have rdN : ∀ o : Nat, o = 1 ∨ o = 13 ∨ o = 25 → i < vR (sB s) - 1 → ∀ n : Nat, n = o + i.toNat + 1 → N 74 n = P 74 (o + i.toNat + 1) := by
        intro o ho hi n hn
        rw [hn]
        have q := n4.u o ho (i.toNat + 1) (by omega)
        rw [if_neg (fun z => absurd z.2 (by omega))] at q
        exact q
      have one : i < vR (sB s) - 1 → Z 31 [some (mr 73), some (mi k), some (mi i), some (mi 1)] [] N := by
        intro hi
        refine w_aload hZ 31 32 rfl rfl rfl ?_
        refine w_getr hZ 32 33 rfl rfl rfl rfl rfl ?_
        refine w_const hZ 33 34 rfl rfl  ?_
        refine w_iload hZ 34 35 rfl rfl rfl ?_
        refine w_add hZ 35 36 rfl rfl (by unfold InR; omega) ?_
        refine w_iload hZ 36 37 rfl rfl rfl ?_
        refine w_ifeq hZ 37 38 rfl rfl (fun c37 => absurd c37 (by omega)) (fun c37 => ?_)
        refine w_aload hZ 38 39 rfl rfl rfl ?_
        refine w_getr hZ 39 40 rfl rfl rfl rfl rfl ?_
        refine w_const hZ 40 41 rfl rfl  ?_
        refine w_iload hZ 41 42 rfl rfl rfl ?_
        refine w_add hZ 42 43 rfl rfl (by unfold InR; omega) ?_
        refine w_const hZ 43 44 rfl rfl  ?_
        refine w_add hZ 44 45 rfl rfl (by unfold InR; omega) ?_
        refine w_ialdv hZ 45 46 rfl rfl rfl (by omega) (by omega) (v := P 74 (1 + i.toNat + 1)) (rdN 1 (by omega) hi _ (by omega)) ?_
        refine w_goto hZ 46 48 rfl ?_
        refine w_iast hZ 48 49 rfl rfl rfl (by omega) (by omega) ?_
        refine w_aload hZ 49 50 rfl rfl rfl ?_
        refine w_getr hZ 50 51 rfl rfl rfl rfl rfl ?_
        refine w_const hZ 51 52 rfl rfl  ?_
        refine w_iload hZ 52 53 rfl rfl rfl ?_
        refine w_add hZ 53 54 rfl rfl (by unfold InR; omega) ?_
        refine w_iload hZ 54 55 rfl rfl rfl ?_
        refine w_ifeq hZ 55 56 rfl rfl (fun c55 => absurd c55 (by omega)) (fun c55 => ?_)
        refine w_aload hZ 56 57 rfl rfl rfl ?_
        refine w_getr hZ 57 58 rfl rfl rfl rfl rfl ?_
        refine w_const hZ 58 59 rfl rfl  ?_
        refine w_iload hZ 59 60 rfl rfl rfl ?_
        refine w_add hZ 60 61 rfl rfl (by unfold InR; omega) ?_
        refine w_const hZ 61 62 rfl rfl  ?_
        refine w_add hZ 62 63 rfl rfl (by unfold InR; omega) ?_
        refine w_ialdv hZ 63 64 rfl rfl rfl (by omega) (by omega) (v := P 74 (13 + i.toNat + 1)) (by rw [mup_at, if_neg (by omega)]; exact rdN 13 (by omega) hi _ (by omega)) ?_
        refine w_goto hZ 64 66 rfl ?_
        refine w_iast hZ 66 67 rfl rfl rfl (by omega) (by omega) ?_
        refine w_aload hZ 67 68 rfl rfl rfl ?_
        refine w_getr hZ 68 69 rfl rfl rfl rfl rfl ?_
        refine w_const hZ 69 70 rfl rfl  ?_
        refine w_iload hZ 70 71 rfl rfl rfl ?_
        refine w_add hZ 71 72 rfl rfl (by unfold InR; omega) ?_
        refine w_iload hZ 72 73 rfl rfl rfl ?_
        refine w_ifeq hZ 73 74 rfl rfl (fun c73 => absurd c73 (by omega)) (fun c73 => ?_)
        refine w_aload hZ 74 75 rfl rfl rfl ?_
        refine w_getr hZ 75 76 rfl rfl rfl rfl rfl ?_
        refine w_const hZ 76 77 rfl rfl  ?_
        refine w_iload hZ 77 78 rfl rfl rfl ?_
        refine w_add hZ 78 79 rfl rfl (by unfold InR; omega) ?_
        refine w_const hZ 79 80 rfl rfl  ?_
        refine w_add hZ 80 81 rfl rfl (by unfold InR; omega) ?_
        refine w_ialdv hZ 81 82 rfl rfl rfl (by omega) (by omega) (v := P 74 (25 + i.toNat + 1)) (by rw [mup_at, if_neg (by omega), mup_at, if_neg (by omega)]; exact rdN 25 (by omega) hi _ (by omega)) ?_
        refine w_goto hZ 82 84 rfl ?_
        refine w_iast hZ 84 85 rfl rfl rfl (by omega) (by omega) ?_
        refine st (by omega) _ _ _ _ (fun o y h => ?_)
        rw [if_pos hi]
        rcases h with ⟨rfl, rfl⟩ | ⟨rfl, rfl⟩ | ⟨rfl, rfl⟩ <;> rfl
      have two : i < 12 → ¬ i < vR (sB s) - 1 → Z 31 [some (mr 73), some (mi k), some (mi i), some (mi 0)] [] N := by
        intro hi2 hi
        refine w_aload hZ 31 32 rfl rfl rfl ?_
        refine w_getr hZ 32 33 rfl rfl rfl rfl rfl ?_
        refine w_const hZ 33 34 rfl rfl  ?_
        refine w_iload hZ 34 35 rfl rfl rfl ?_
        refine w_add hZ 35 36 rfl rfl (by unfold InR; omega) ?_
        refine w_iload hZ 36 37 rfl rfl rfl ?_
        refine w_ifeq hZ 37 38 rfl rfl (fun c37 => ?_) (fun c37 => absurd c37 (by omega))
        refine w_const hZ 47 48 rfl rfl  ?_
        refine w_iast hZ 48 49 rfl rfl rfl (by omega) (by omega) ?_
        refine w_aload hZ 49 50 rfl rfl rfl ?_
        refine w_getr hZ 50 51 rfl rfl rfl rfl rfl ?_
        refine w_const hZ 51 52 rfl rfl  ?_
        refine w_iload hZ 52 53 rfl rfl rfl ?_
        refine w_add hZ 53 54 rfl rfl (by unfold InR; omega) ?_
        refine w_iload hZ 54 55 rfl rfl rfl ?_
        refine w_ifeq hZ 55 56 rfl rfl (fun c55 => ?_) (fun c55 => absurd c55 (by omega))
        refine w_const hZ 65 66 rfl rfl  ?_
        refine w_iast hZ 66 67 rfl rfl rfl (by omega) (by omega) ?_
        refine w_aload hZ 67 68 rfl rfl rfl ?_
        refine w_getr hZ 68 69 rfl rfl rfl rfl rfl ?_
        refine w_const hZ 69 70 rfl rfl  ?_
        refine w_iload hZ 70 71 rfl rfl rfl ?_
        refine w_add hZ 71 72 rfl rfl (by unfold InR; omega) ?_
        refine w_iload hZ 72 73 rfl rfl rfl ?_
        refine w_ifeq hZ 73 74 rfl rfl (fun c73 => ?_) (fun c73 => absurd c73 (by omega))
        refine w_const hZ 83 84 rfl rfl  ?_
        refine w_iast hZ 84 85 rfl rfl rfl (by omega) (by omega) ?_
        refine st (by omega) _ _ _ _ (fun o y h => ?_)
        rw [if_neg hi]
        rcases h with ⟨rfl, rfl⟩ | ⟨rfl, rfl⟩ | ⟨rfl, rfl⟩ <;> rfl
      refine w_iload hZ 18 19 rfl rfl rfl ?_
      refine w_const hZ 19 20 rfl rfl  ?_
      refine w_cge hZ 20 21 rfl rfl (fun c20 => ?_) (fun c20 => ?_)
      · refine w_aload hZ 87 88 rfl rfl rfl ?_
        refine w_getr hZ 88 89 rfl rfl rfl rfl rfl ?_
        refine w_const hZ 89 90 rfl rfl  ?_
        refine w_ialdv hZ 90 91 rfl rfl rfl (by omega) (by omega) (v := vR (sB s) - 1) n2 ?_
        refine w_iret hZ 91 rfl ?_
        have hz := hx.nx hv hP (M2 := N) n1 (bY_d (k := k) (f := P 74) (by rw [hP0]; exact r12) (by rw [n2, hP0]) n3.u (fun o ho j hj => by
          rw [n4.u o ho j (by omega)]
          by_cases z : k ≤ (j : Int)
          · rw [if_pos ⟨z, by omega⟩, if_pos (by omega), if_pos z]
          · rw [if_neg (fun z2 => z z2.1), if_neg z]))
        rw [show bY (P 74) 0 = sB s from hPs] at hz
        exact fin _ (by unfold oDrop; rw [if_neg (fun z => z ⟨k0, k1⟩)]) _ _ rfl hz
      · refine w_iload hZ 21 22 rfl rfl rfl ?_
        refine w_aload hZ 22 23 rfl rfl rfl ?_
        refine w_getr hZ 23 24 rfl rfl rfl rfl rfl ?_
        refine w_const hZ 24 25 rfl rfl  ?_
        refine w_ialdv hZ 25 26 rfl rfl rfl (by omega) (by omega) (v := vR (sB s) - 1) n2 ?_
        refine w_cge hZ 26 27 rfl rfl (fun c26 => ?_) (fun c26 => ?_)
        · refine w_const hZ 29 30 rfl rfl  ?_
          refine w_st4_3 hZ 30 31 rfl rfl rfl ?_
          first
            | exact one (by omega)
            | exact two (by omega) (by omega)
        · refine w_const hZ 27 28 rfl rfl  ?_
          refine w_goto hZ 28 30 rfl ?_
          refine w_st4_3 hZ 30 31 rfl rfl rfl ?_
          first
            | exact one (by omega)
            | exact two (by omega) (by omega)
  refine w_aload hZ 0 1 rfl rfl rfl ?_
  refine w_iload hZ 1 2 rfl rfl rfl ?_
  refine k_X7_isRule hZ 2 3 rfl rfl (Nat.le_of_ble_eq_true rfl) hB ?_
  refine w_ifne hZ 3 4 rfl rfl (fun c3 => ?_) (fun c3 => ?_)
  · replace c3 := b2i_e.mp c3
    refine w_aload hZ 6 7 rfl rfl rfl ?_
    refine k_X7_note hZ 7 8 rfl rfl (Nat.le_of_ble_eq_true rfl) hU (fun M7 p7 => ?_)
    have hx2 := hx.note hv p7
    have h02 : M7 74 0 = vR (sB s) := hx2.r0
    have r0 := hv.1.2.2.1
    have r12 := hv.1.2.2.2.1
    refine w_aload hZ 8 9 rfl rfl rfl ?_
    refine w_getr hZ 9 10 rfl rfl rfl rfl rfl ?_
    refine w_const hZ 10 11 rfl rfl  ?_
    refine w_dup2 hZ 11 12 rfl rfl rfl rfl ?_
    refine w_ialdk hZ 12 13 0 rfl rfl rfl rfl (by decide) ?_
    refine w_const hZ 13 14 rfl rfl  ?_
    refine w_sub hZ 14 15 rfl rfl (by unfold InR; omega) ?_
    refine w_iastk hZ 15 16 0 rfl rfl rfl rfl (by decide) ?_
    refine w_iload hZ 16 17 rfl rfl rfl ?_
    refine w_st4_2 hZ 17 18 rfl rfl rfl ?_
    refine loop M7 p7 hx2.1 h02 c3.1 (by omega) _ k _ rfl (Int.le_refl _) (by omega) (fun o ho => ?_) ?_ (fun j hj => ?_) (fun o ho j hj => ?_)
    · funext q; simp [mup_at, ho]
    · rw [mup_at, if_pos ⟨rfl, rfl⟩, h02]
    · rw [mup_at, if_neg (by omega)]
    · rw [mup_at, if_neg (by omega), if_neg (by omega)]
  · refine w_const hZ 4 5 rfl rfl  ?_
    refine w_iret hZ 5 rfl ?_
    exact non _ (by unfold oDrop; rw [if_pos (fun z => (b2i_z.mp c3) ⟨z.1, by omega⟩)])
set_option maxRecDepth 100000 in
set_option maxHeartbeats 4000000 in
theorem ao_X7_drop : AllOk yX7_drop.cls cX7_drop 4 2 46 (some .int) none pc_X7_drop 0 cd_X7_drop := ⟨s_aload_n (k := 0) (by decide +kernel) rfl rfl, ⟨s_iload_n (k := 1) (by decide +kernel) rfl rfl, ⟨s_callV (C := RX7) (T := TX7) (N := 22) rfl ct_X7_isRule (by decide) (by decide) ⟨rfl, by decide +kernel, by decide +kernel, by decide +kernel⟩ tw_4_26 tw_4_28 ts_3_6 tw_1_8 tw_4_29 (by decide +kernel) rfl, ⟨s_ifne (off := (6)) (by decide +kernel) rfl rfl, ⟨s_ldc (v := (-1000000001)) tw_4_30 (by decide +kernel) rfl ⟨by decide, by decide⟩ (by decide +kernel), ⟨s_iret rfl (by decide +kernel), ⟨s_aload_n (k := 0) (by decide +kernel) rfl rfl, ⟨s_callV (C := RX7) (T := TX7) (N := 22) rfl ct_X7_note (by decide) (by decide) ⟨rfl, by decide +kernel, by decide +kernel, by decide +kernel⟩ tw_4_14 tw_4_16 ts_3_4 tw_1_8 tw_4_17 (by decide +kernel) rfl, ⟨s_aload_n (k := 0) (by decide +kernel) rfl rfl, ⟨s_get (C := RX7) (T := TX7) (N := 22) rfl inT7 (by decide) tw_3_159 (by decide +kernel) rfl, ⟨s_iconst (by decide +kernel) rfl ⟨by decide, by decide⟩, ⟨s_dup2 (by decide +kernel) rfl, ⟨s_iald (by decide +kernel) rfl, ⟨s_iconst (by decide +kernel) rfl ⟨by decide, by decide⟩, ⟨s_sub (by decide +kernel) rfl, ⟨s_iast (by decide +kernel) rfl, ⟨s_iload_n (k := 1) (by decide +kernel) rfl rfl, ⟨s_istore_n (k := 2) (by decide +kernel) rfl rfl, ⟨s_iload_n (k := 2) (by decide +kernel) rfl rfl, ⟨s_bipush (by decide +kernel) rfl ⟨by decide, by decide⟩ (by decide +kernel), ⟨s_cge (off := (107)) (by decide +kernel) rfl rfl, ⟨s_iload_n (k := 2) (by decide +kernel) rfl rfl, ⟨s_aload_n (k := 0) (by decide +kernel) rfl rfl, ⟨s_get (C := RX7) (T := TX7) (N := 22) rfl inT7 (by decide) tw_3_159 (by decide +kernel) rfl, ⟨s_iconst (by decide +kernel) rfl ⟨by decide, by decide⟩, ⟨s_iald (by decide +kernel) rfl, ⟨s_cge (off := (7)) (by decide +kernel) rfl rfl, ⟨s_iconst (by decide +kernel) rfl ⟨by decide, by decide⟩, ⟨s_goto (off := (4)) (by decide +kernel) rfl, ⟨s_iconst (by decide +kernel) rfl ⟨by decide, by decide⟩, ⟨s_istore_n (k := 3) (by decide +kernel) rfl rfl, ⟨s_aload_n (k := 0) (by decide +kernel) rfl rfl, ⟨s_get (C := RX7) (T := TX7) (N := 22) rfl inT7 (by decide) tw_3_159 (by decide +kernel) rfl, ⟨s_iconst (by decide +kernel) rfl ⟨by decide, by decide⟩, ⟨s_iload_n (k := 2) (by decide +kernel) rfl rfl, ⟨s_add (by decide +kernel) rfl, ⟨s_iload_n (k := 3) (by decide +kernel) rfl rfl, ⟨s_ifeq (off := (16)) (by decide +kernel) rfl rfl, ⟨s_aload_n (k := 0) (by decide +kernel) rfl rfl, ⟨s_get (C := RX7) (T := TX7) (N := 22) rfl inT7 (by decide) tw_3_159 (by decide +kernel) rfl, ⟨s_iconst (by decide +kernel) rfl ⟨by decide, by decide⟩, ⟨s_iload_n (k := 2) (by decide +kernel) rfl rfl, ⟨s_add (by decide +kernel) rfl, ⟨s_iconst (by decide +kernel) rfl ⟨by decide, by decide⟩, ⟨s_add (by decide +kernel) rfl, ⟨s_iald (by decide +kernel) rfl, ⟨s_goto (off := (4)) (by decide +kernel) rfl, ⟨s_iconst (by decide +kernel) rfl ⟨by decide, by decide⟩, ⟨s_iast (by decide +kernel) rfl, ⟨s_aload_n (k := 0) (by decide +kernel) rfl rfl, ⟨s_get (C := RX7) (T := TX7) (N := 22) rfl inT7 (by decide) tw_3_159 (by decide +kernel) rfl, ⟨s_bipush (by decide +kernel) rfl ⟨by decide, by decide⟩ (by decide +kernel), ⟨s_iload_n (k := 2) (by decide +kernel) rfl rfl, ⟨s_add (by decide +kernel) rfl, ⟨s_iload_n (k := 3) (by decide +kernel) rfl rfl, ⟨s_ifeq (off := (17)) (by decide +kernel) rfl rfl, ⟨s_aload_n (k := 0) (by decide +kernel) rfl rfl, ⟨s_get (C := RX7) (T := TX7) (N := 22) rfl inT7 (by decide) tw_3_159 (by decide +kernel) rfl, ⟨s_bipush (by decide +kernel) rfl ⟨by decide, by decide⟩ (by decide +kernel), ⟨s_iload_n (k := 2) (by decide +kernel) rfl rfl, ⟨s_add (by decide +kernel) rfl, ⟨s_iconst (by decide +kernel) rfl ⟨by decide, by decide⟩, ⟨s_add (by decide +kernel) rfl, ⟨s_iald (by decide +kernel) rfl, ⟨s_goto (off := (4)) (by decide +kernel) rfl, ⟨s_iconst (by decide +kernel) rfl ⟨by decide, by decide⟩, ⟨s_iast (by decide +kernel) rfl, ⟨s_aload_n (k := 0) (by decide +kernel) rfl rfl, ⟨s_get (C := RX7) (T := TX7) (N := 22) rfl inT7 (by decide) tw_3_159 (by decide +kernel) rfl, ⟨s_bipush (by decide +kernel) rfl ⟨by decide, by decide⟩ (by decide +kernel), ⟨s_iload_n (k := 2) (by decide +kernel) rfl rfl, ⟨s_add (by decide +kernel) rfl, ⟨s_iload_n (k := 3) (by decide +kernel) rfl rfl, ⟨s_ifeq (off := (17)) (by decide +kernel) rfl rfl, ⟨s_aload_n (k := 0) (by decide +kernel) rfl rfl, ⟨s_get (C := RX7) (T := TX7) (N := 22) rfl inT7 (by decide) tw_3_159 (by decide +kernel) rfl, ⟨s_bipush (by decide +kernel) rfl ⟨by decide, by decide⟩ (by decide +kernel), ⟨s_iload_n (k := 2) (by decide +kernel) rfl rfl, ⟨s_add (by decide +kernel) rfl, ⟨s_iconst (by decide +kernel) rfl ⟨by decide, by decide⟩, ⟨s_add (by decide +kernel) rfl, ⟨s_iald (by decide +kernel) rfl, ⟨s_goto (off := (4)) (by decide +kernel) rfl, ⟨s_iconst (by decide +kernel) rfl ⟨by decide, by decide⟩, ⟨s_iast (by decide +kernel) rfl, ⟨s_iinc (by decide +kernel) rfl, ⟨s_goto (off := (-107)) (by decide +kernel) rfl, ⟨s_aload_n (k := 0) (by decide +kernel) rfl rfl, ⟨s_get (C := RX7) (T := TX7) (N := 22) rfl inT7 (by decide) tw_3_159 (by decide +kernel) rfl, ⟨s_iconst (by decide +kernel) rfl ⟨by decide, by decide⟩, ⟨s_iald (by decide +kernel) rfl, ⟨s_iret rfl (by decide +kernel), trivial⟩⟩⟩⟩⟩⟩⟩⟩⟩⟩⟩⟩⟩⟩⟩⟩⟩⟩⟩⟩⟩⟩⟩⟩⟩⟩⟩⟩⟩⟩⟩⟩⟩⟩⟩⟩⟩⟩⟩⟩⟩⟩⟩⟩⟩⟩⟩⟩⟩⟩⟩⟩⟩⟩⟩⟩⟩⟩⟩⟩⟩⟩⟩⟩⟩⟩⟩⟩⟩⟩⟩⟩⟩⟩⟩⟩⟩⟩⟩⟩⟩⟩⟩⟩⟩⟩⟩⟩⟩⟩⟩⟩
theorem ct_X7_drop : Ctr yX7_drop cX7_drop 4 (some .int) 2 46 sp_X7_drop := by
  refine ctr_of (by decide +kernel) ao_X7_drop rfl ?_
  rintro av M Ret ⟨s, k, rfl, hp, hR⟩ hok hM
  exact ⟨Nat.le_of_ble_eq_true rfl, fun Z hZ => b_X7_drop s k (hok _ (List.mem_of_getElem? (i := 1) rfl)) M Ret hp hR hM Z hZ⟩
def sp_X7_set : SP := fun av M Ret => ∃ s : St, ∃ w : Int, ∃ v : Int, av = [mr 73, mi w, mi v] ∧ (YR s M ∧ stOk s) ∧ (∀ M2 : Mem, (YR (oSet s w v).2 M2 ∧ ∀ k, k < 73 → M2 k = M k) → Ret (some (mi ((oSet s w v).1))) M2)
theorem k_X7_set {code : List Sem} {Z : KZ} {Ret : KR} {ls : List (Option MV)} {M : Mem} {r : List MV} (hZ : Sim code Z Ret) (ip np : Nat) {s : St} {w v : Int} (hc : code[ip]? = some (I_callV 7 2 sp_X7_set)) (hn : ip + 1 = np) (h3 : catS r ≤ 8)  (hp : YR s M ∧ stOk s) (kz : ∀ M2 : Mem, (YR (oSet s w v).2 M2 ∧ ∀ k, k < 73 → M2 k = M k) → Z np ls (mi ((oSet s w v).1) :: r) M2) : Z ip ls (mi v :: mi w :: mr 73 :: r) M := w_callV2 hZ ip np hc hn rfl rfl h3 ⟨_, _, _, rfl, hp, fun M2 h => kz M2 h⟩
def cd_X7_set : List Sem := [I_iload 1, I_i2l, I_lconst (0), I_lconst (1), I_callS 3 sp_X7_in, I_ifeq 20, I_iload 2, I_i2l, I_iload 1, I_ifne 12, I_lconst (4), I_goto 13, I_lconst (1), I_iload 1, I_ifne 17, I_lconst (40), I_goto 18, I_lconst (20), I_callS 3 sp_X7_in, I_ifne 22, I_const (-1000000002), I_iret, I_aload 0, I_callV 7 0 sp_X7_note, I_aload 0, I_get 7 0, I_const (37), I_iload 1, I_add, I_iald, I_istore 3, I_aload 0, I_get 7 0, I_const (37), I_iload 1, I_add, I_iload 2, I_iast, I_iload 3, I_iret]
def pc_X7_set : List Nat := [0, 1, 2, 3, 4, 7, 10, 11, 12, 13, 16, 19, 22, 23, 24, 27, 30, 33, 36, 39, 42, 44, 45, 46, 49, 50, 53, 55, 56, 57, 58, 59, 60, 63, 65, 66, 67, 68, 69, 70]
set_option maxRecDepth 100000 in
set_option maxHeartbeats 4000000 in
theorem b_X7_set (s : St) (w : Int) (i_w : InR w) (v : Int) (i_v : InR v) (M : Mem) (Ret : KR) (hp : YR s M ∧ stOk s) (hR : ∀ M2 : Mem, (YR (oSet s w v).2 M2 ∧ ∀ k, k < 73 → M2 k = M k) → Ret (some (mi ((oSet s w v).1))) M2) (hM : MOk M) (Z : KZ) (hZ : Sim cd_X7_set Z Ret) : Z 0 [some (mr 73), some (mi w), some (mi v), none] [] M := by
  obtain ⟨hx, hv⟩ := hp
  have hB := hx.yb hv
  have hvo := hx.vo hv
  have hU : 0 ≤ M 73 2 ∧ M 73 2 ≤ 8 := ⟨by rw [hx.2.1]; omega, by rw [hx.2.1]; have := hv.2.1; omega⟩
  have fin : ∀ r : Int × St, (oSet s w v) = r → ∀ (x : Int) (M2 : Mem), x = r.1 → (YR r.2 M2 ∧ ∀ k, k < 73 → M2 k = M k) → Ret (some (mi x)) M2 := by
    intro r q x M2 e h; subst e; subst q; exact hR M2 h
  have non : ∀ x : Int, (oSet s w v) = (x, s) → Ret (some (mi x)) M := fun x q => fin _ q x M rfl ⟨hx, fun _ _ => rfl⟩
  have t0 : w = 0 → Z 6 [some (mr 73), some (mi w), some (mi v), none] [] M := by
    intro hw
    refine w_iload hZ 6 7 rfl rfl rfl ?_
    refine w_i2l hZ 7 8 rfl rfl  ?_
    refine w_iload hZ 8 9 rfl rfl rfl ?_
    refine w_ifne hZ 9 10 rfl rfl (fun c9 => absurd c9 (by omega)) (fun c9 => ?_)
    refine w_lconst hZ 10 11 rfl rfl  ?_
    refine w_goto hZ 11 13 rfl ?_
    refine w_iload hZ 13 14 rfl rfl rfl ?_
    refine w_ifne hZ 14 15 rfl rfl (fun c14 => absurd c14 (by omega)) (fun c14 => ?_)
    refine w_lconst hZ 15 16 rfl rfl  ?_
    refine w_goto hZ 16 18 rfl ?_
    refine k_X7_in hZ 18 19 rfl rfl (Nat.le_of_ble_eq_true rfl)  ?_
    refine w_ifne hZ 19 20 rfl rfl (fun c19 => ?_) (fun c19 => ?_)
    · refine w_aload hZ 22 23 rfl rfl rfl ?_
      refine k_X7_note hZ 23 24 rfl rfl (Nat.le_of_ble_eq_true rfl) hU (fun M23 p23 => ?_)
      have hx2 := hx.note hv p23
      replace c19 := b2i_e.mp c19
      have h12 := hv.1.2.2.2.1
      have h02 : M23 74 0 = vR (sB s) := hx2.r0
      refine w_aload hZ 24 25 rfl rfl rfl ?_
      refine w_getr hZ 25 26 rfl rfl rfl rfl rfl ?_
      refine w_const hZ 26 27 rfl rfl  ?_
      refine w_iload hZ 27 28 rfl rfl rfl ?_
      refine w_add hZ 28 29 rfl rfl (by unfold InR; omega) ?_
      refine w_ialdv hZ 29 30 rfl rfl rfl (by omega) (by omega) (v := vW (sB s)) (by rw [show (37 + w).toNat = 37 by omega]; exact hx2.r37) ?_
      refine w_st4_3 hZ 30 31 rfl rfl rfl ?_
      refine w_aload hZ 31 32 rfl rfl rfl ?_
      refine w_getr hZ 32 33 rfl rfl rfl rfl rfl ?_
      refine w_const hZ 33 34 rfl rfl  ?_
      refine w_iload hZ 34 35 rfl rfl rfl ?_
      refine w_add hZ 35 36 rfl rfl (by unfold InR; omega) ?_
      refine w_iload hZ 36 37 rfl rfl rfl ?_
      refine w_iast hZ 37 38 rfl rfl rfl (by omega) (by omega) ?_
      refine w_iload hZ 38 39 rfl rfl rfl ?_
      refine w_iret hZ 39 rfl ?_
      have hz := hx.nx hv p23 (M2 := mup M23 74 (37 + w).toNat v) (fun o ho => by funext q; simp [mup_at, ho]) (bY_w (f := M23 74) (v := v) (by omega) (fun q => by rw [mup_at, show (37 + w).toNat = 37 by omega]; simp))
      rw [show bY (M23 74) 0 = sB s from hx2.1] at hz
      exact fin (vW (sB s), nx s (sW (sB s) v)) (by unfold oSet; rw [if_pos hw]; unfold oSetW; rw [if_neg (by omega)]) _ _ rfl hz
    · refine w_const hZ 20 21 rfl rfl  ?_
      refine w_iret hZ 21 rfl ?_
      exact non _ (by unfold oSet; rw [if_pos hw]; unfold oSetW; rw [if_pos (Decidable.byContradiction fun z => (b2i_z.mp c19) ⟨by omega, by omega⟩)])
  have t1 : w = 1 → Z 6 [some (mr 73), some (mi w), some (mi v), none] [] M := by
    intro hw
    refine w_iload hZ 6 7 rfl rfl rfl ?_
    refine w_i2l hZ 7 8 rfl rfl  ?_
    refine w_iload hZ 8 9 rfl rfl rfl ?_
    refine w_ifne hZ 9 10 rfl rfl (fun c9 => ?_) (fun c9 => absurd c9 (by omega))
    refine w_lconst hZ 12 13 rfl rfl  ?_
    refine w_iload hZ 13 14 rfl rfl rfl ?_
    refine w_ifne hZ 14 15 rfl rfl (fun c14 => ?_) (fun c14 => absurd c14 (by omega))
    refine w_lconst hZ 17 18 rfl rfl  ?_
    refine k_X7_in hZ 18 19 rfl rfl (Nat.le_of_ble_eq_true rfl)  ?_
    refine w_ifne hZ 19 20 rfl rfl (fun c19 => ?_) (fun c19 => ?_)
    · refine w_aload hZ 22 23 rfl rfl rfl ?_
      refine k_X7_note hZ 23 24 rfl rfl (Nat.le_of_ble_eq_true rfl) hU (fun M23 p23 => ?_)
      have hx2 := hx.note hv p23
      replace c19 := b2i_e.mp c19
      have h12 := hv.1.2.2.2.1
      have h02 : M23 74 0 = vR (sB s) := hx2.r0
      refine w_aload hZ 24 25 rfl rfl rfl ?_
      refine w_getr hZ 25 26 rfl rfl rfl rfl rfl ?_
      refine w_const hZ 26 27 rfl rfl  ?_
      refine w_iload hZ 27 28 rfl rfl rfl ?_
      refine w_add hZ 28 29 rfl rfl (by unfold InR; omega) ?_
      refine w_ialdv hZ 29 30 rfl rfl rfl (by omega) (by omega) (v := vP (sB s)) (by rw [show (37 + w).toNat = 38 by omega]; exact hx2.r38) ?_
      refine w_st4_3 hZ 30 31 rfl rfl rfl ?_
      refine w_aload hZ 31 32 rfl rfl rfl ?_
      refine w_getr hZ 32 33 rfl rfl rfl rfl rfl ?_
      refine w_const hZ 33 34 rfl rfl  ?_
      refine w_iload hZ 34 35 rfl rfl rfl ?_
      refine w_add hZ 35 36 rfl rfl (by unfold InR; omega) ?_
      refine w_iload hZ 36 37 rfl rfl rfl ?_
      refine w_iast hZ 37 38 rfl rfl rfl (by omega) (by omega) ?_
      refine w_iload hZ 38 39 rfl rfl rfl ?_
      refine w_iret hZ 39 rfl ?_
      have hz := hx.nx hv p23 (M2 := mup M23 74 (37 + w).toNat v) (fun o ho => by funext q; simp [mup_at, ho]) (bY_p (f := M23 74) (v := v) (by omega) (fun q => by rw [mup_at, show (37 + w).toNat = 38 by omega]; simp))
      rw [show bY (M23 74) 0 = sB s from hx2.1] at hz
      exact fin (vP (sB s), nx s (sP (sB s) v)) (by unfold oSet; rw [if_neg (by omega), if_pos hw]; unfold oSetP; rw [if_neg (by omega)]) _ _ rfl hz
    · refine w_const hZ 20 21 rfl rfl  ?_
      refine w_iret hZ 21 rfl ?_
      exact non _ (by unfold oSet; rw [if_neg (by omega), if_pos hw]; unfold oSetP; rw [if_pos (Decidable.byContradiction fun z => (b2i_z.mp c19) ⟨by omega, by omega⟩)])
  refine w_iload hZ 0 1 rfl rfl rfl ?_
  refine w_i2l hZ 1 2 rfl rfl  ?_
  refine w_lconst hZ 2 3 rfl rfl  ?_
  refine w_lconst hZ 3 4 rfl rfl  ?_
  refine k_X7_in hZ 4 5 rfl rfl (Nat.le_of_ble_eq_true rfl)  ?_
  refine w_ifeq hZ 5 6 rfl rfl (fun c5 => ?_) (fun c5 => ?_)
  · refine w_const hZ 20 21 rfl rfl  ?_
    refine w_iret hZ 21 rfl ?_
    exact non _ (by unfold oSet; rw [if_neg (fun z => (b2i_z.mp c5) (by omega)), if_neg (fun z => (b2i_z.mp c5) (by omega))])
  · replace c5 := b2i_e.mp c5
    rcases (by omega : w = 0 ∨ w = 1) with q | q
    · exact t0 q
    · exact t1 q
set_option maxRecDepth 100000 in
set_option maxHeartbeats 4000000 in
theorem ao_X7_set : AllOk yX7_set.cls cX7_set 4 1 25 (some .int) none pc_X7_set 0 cd_X7_set := ⟨s_iload_n (k := 1) (by decide +kernel) rfl rfl, ⟨s_i2l (by decide +kernel) rfl, ⟨s_lconst (k := 0) (by decide +kernel) rfl ⟨by decide, by decide⟩ (by decide +kernel), ⟨s_lconst (k := 1) (by decide +kernel) rfl ⟨by decide, by decide⟩ (by decide +kernel), ⟨s_callS ct_X7_in (by decide) (by decide) ⟨by decide +kernel, by decide +kernel, by decide +kernel⟩ tw_3_234 tw_3_235 tw_1_8 tw_3_236 (by decide +kernel) rfl, ⟨s_ifeq (off := (35)) (by decide +kernel) rfl rfl, ⟨s_iload_n (k := 2) (by decide +kernel) rfl rfl, ⟨s_i2l (by decide +kernel) rfl, ⟨s_iload_n (k := 1) (by decide +kernel) rfl rfl, ⟨s_ifne (off := (9)) (by decide +kernel) rfl rfl, ⟨s_ldc2 (v := (4)) tw_4_1 (by decide +kernel) rfl ⟨by decide, by decide⟩ (by decide +kernel), ⟨s_goto (off := (4)) (by decide +kernel) rfl, ⟨s_lconst (k := 1) (by decide +kernel) rfl ⟨by decide, by decide⟩ (by decide +kernel), ⟨s_iload_n (k := 1) (by decide +kernel) rfl rfl, ⟨s_ifne (off := (9)) (by decide +kernel) rfl rfl, ⟨s_ldc2 (v := (40)) tw_4_35 (by decide +kernel) rfl ⟨by decide, by decide⟩ (by decide +kernel), ⟨s_goto (off := (6)) (by decide +kernel) rfl, ⟨s_ldc2 (v := (20)) tw_4_36 (by decide +kernel) rfl ⟨by decide, by decide⟩ (by decide +kernel), ⟨s_callS ct_X7_in (by decide) (by decide) ⟨by decide +kernel, by decide +kernel, by decide +kernel⟩ tw_3_234 tw_3_235 tw_1_8 tw_3_236 (by decide +kernel) rfl, ⟨s_ifne (off := (6)) (by decide +kernel) rfl rfl, ⟨s_ldc (v := (-1000000002)) tw_4_7 (by decide +kernel) rfl ⟨by decide, by decide⟩ (by decide +kernel), ⟨s_iret rfl (by decide +kernel), ⟨s_aload_n (k := 0) (by decide +kernel) rfl rfl, ⟨s_callV (C := RX7) (T := TX7) (N := 22) rfl ct_X7_note (by decide) (by decide) ⟨rfl, by decide +kernel, by decide +kernel, by decide +kernel⟩ tw_4_14 tw_4_16 ts_3_4 tw_1_8 tw_4_17 (by decide +kernel) rfl, ⟨s_aload_n (k := 0) (by decide +kernel) rfl rfl, ⟨s_get (C := RX7) (T := TX7) (N := 22) rfl inT7 (by decide) tw_3_159 (by decide +kernel) rfl, ⟨s_bipush (by decide +kernel) rfl ⟨by decide, by decide⟩ (by decide +kernel), ⟨s_iload_n (k := 1) (by decide +kernel) rfl rfl, ⟨s_add (by decide +kernel) rfl, ⟨s_iald (by decide +kernel) rfl, ⟨s_istore_n (k := 3) (by decide +kernel) rfl rfl, ⟨s_aload_n (k := 0) (by decide +kernel) rfl rfl, ⟨s_get (C := RX7) (T := TX7) (N := 22) rfl inT7 (by decide) tw_3_159 (by decide +kernel) rfl, ⟨s_bipush (by decide +kernel) rfl ⟨by decide, by decide⟩ (by decide +kernel), ⟨s_iload_n (k := 1) (by decide +kernel) rfl rfl, ⟨s_add (by decide +kernel) rfl, ⟨s_iload_n (k := 2) (by decide +kernel) rfl rfl, ⟨s_iast (by decide +kernel) rfl, ⟨s_iload_n (k := 3) (by decide +kernel) rfl rfl, ⟨s_iret rfl (by decide +kernel), trivial⟩⟩⟩⟩⟩⟩⟩⟩⟩⟩⟩⟩⟩⟩⟩⟩⟩⟩⟩⟩⟩⟩⟩⟩⟩⟩⟩⟩⟩⟩⟩⟩⟩⟩⟩⟩⟩⟩⟩⟩
theorem ct_X7_set : Ctr yX7_set cX7_set 4 (some .int) 1 25 sp_X7_set := by
  refine ctr_of (by decide +kernel) ao_X7_set rfl ?_
  rintro av M Ret ⟨s, w, v, rfl, hp, hR⟩ hok hM
  exact ⟨Nat.le_of_ble_eq_true rfl, fun Z hZ => b_X7_set s w (hok _ (List.mem_of_getElem? (i := 1) rfl)) v (hok _ (List.mem_of_getElem? (i := 2) rfl)) M Ret hp hR hM Z hZ⟩
def sp_X7_text : SP := fun av M Ret => ∃ s : St, ∃ g : Int, av = [mr 73, mi g] ∧ (YR s M ∧ stOk s) ∧ (∀ M2 : Mem, (YR (oText s g).2 M2 ∧ ∀ k, k < 73 → M2 k = M k) → Ret (some (mi ((oText s g).1))) M2)
theorem k_X7_text {code : List Sem} {Z : KZ} {Ret : KR} {ls : List (Option MV)} {M : Mem} {r : List MV} (hZ : Sim code Z Ret) (ip np : Nat) {s : St} {g : Int} (hc : code[ip]? = some (I_callV 7 1 sp_X7_text)) (hn : ip + 1 = np) (h3 : catS r ≤ 8)  (hp : YR s M ∧ stOk s) (kz : ∀ M2 : Mem, (YR (oText s g).2 M2 ∧ ∀ k, k < 73 → M2 k = M k) → Z np ls (mi ((oText s g).1) :: r) M2) : Z ip ls (mi g :: mr 73 :: r) M := w_callV1 hZ ip np hc hn rfl rfl h3 ⟨_, _, rfl, hp, fun M2 h => kz M2 h⟩
def cd_X7_text : List Sem := [I_iload 1, I_callS 1 sp_X7_isSign, I_ifne 5, I_const (-1000000002), I_iret, I_aload 0, I_get 7 0, I_const (39), I_iald, I_const (120), I_cne 13, I_const (-1000000004), I_iret, I_aload 0, I_callV 7 0 sp_X7_note, I_aload 0, I_get 7 0, I_const (40), I_aload 0, I_get 7 0, I_const (39), I_iald, I_add, I_iload 1, I_iast, I_aload 0, I_get 7 0, I_const (39), I_dup2, I_iald, I_const (1), I_add, I_iast, I_aload 0, I_get 7 0, I_const (39), I_iald, I_iret]
def pc_X7_text : List Nat := [0, 1, 4, 7, 9, 10, 11, 14, 16, 17, 19, 22, 24, 25, 26, 29, 30, 33, 35, 36, 39, 41, 42, 43, 44, 45, 46, 49, 51, 52, 53, 54, 55, 56, 57, 60, 62, 63]
set_option maxRecDepth 100000 in
set_option maxHeartbeats 4000000 in
theorem b_X7_text (s : St) (g : Int) (i_g : InR g) (M : Mem) (Ret : KR) (hp : YR s M ∧ stOk s) (hR : ∀ M2 : Mem, (YR (oText s g).2 M2 ∧ ∀ k, k < 73 → M2 k = M k) → Ret (some (mi ((oText s g).1))) M2) (hM : MOk M) (Z : KZ) (hZ : Sim cd_X7_text Z Ret) : Z 0 [some (mr 73), some (mi g)] [] M := by
  obtain ⟨hx, hv⟩ := hp
  have hB := hx.yb hv
  have hvo := hx.vo hv
  have hU : 0 ≤ M 73 2 ∧ M 73 2 ≤ 8 := ⟨by rw [hx.2.1]; omega, by rw [hx.2.1]; have := hv.2.1; omega⟩
  have fin : ∀ r : Int × St, (oText s g) = r → ∀ (x : Int) (M2 : Mem), x = r.1 → (YR r.2 M2 ∧ ∀ k, k < 73 → M2 k = M k) → Ret (some (mi x)) M2 := by
    intro r q x M2 e h; subst e; subst q; exact hR M2 h
  have non : ∀ x : Int, (oText s g) = (x, s) → Ret (some (mi x)) M := fun x q => fin _ q x M rfl ⟨hx, fun _ _ => rfl⟩
  have h9 := hx.r39
  refine w_iload hZ 0 1 rfl rfl rfl ?_
  refine k_X7_isSign hZ 1 2 rfl rfl (Nat.le_of_ble_eq_true rfl)  ?_
  refine w_ifne hZ 2 3 rfl rfl (fun c2 => ?_) (fun c2 => ?_)
  · refine w_aload hZ 5 6 rfl rfl rfl ?_
    refine w_getr hZ 6 7 rfl rfl rfl rfl rfl ?_
    refine w_const hZ 7 8 rfl rfl  ?_
    refine w_ialdk hZ 8 9 39 rfl rfl rfl rfl (by decide) ?_
    refine w_const hZ 9 10 rfl rfl  ?_
    refine w_cne hZ 10 11 rfl rfl (fun c10 => ?_) (fun c10 => ?_)
    · refine w_aload hZ 13 14 rfl rfl rfl ?_
      refine k_X7_note hZ 14 15 rfl rfl (Nat.le_of_ble_eq_true rfl) hU (fun M14 p14 => ?_)
      have hx2 := hx.note hv p14
      have h92 : M14 74 39 = vN (sB s) := hx2.r39
      have hn0 := hv.1.1
      have hn1 := hv.1.2.1
      have h02 : M14 74 0 = vR (sB s) := hx2.r0
      have hr := hv.1.2.2.2.1
      refine w_aload hZ 15 16 rfl rfl rfl ?_
      refine w_getr hZ 16 17 rfl rfl rfl rfl rfl ?_
      refine w_const hZ 17 18 rfl rfl  ?_
      refine w_aload hZ 18 19 rfl rfl rfl ?_
      refine w_getr hZ 19 20 rfl rfl rfl rfl rfl ?_
      refine w_const hZ 20 21 rfl rfl  ?_
      refine w_ialdk hZ 21 22 39 rfl rfl rfl rfl (by decide) ?_
      refine w_add hZ 22 23 rfl rfl (by unfold InR; omega) ?_
      refine w_iload hZ 23 24 rfl rfl rfl ?_
      refine w_iast hZ 24 25 rfl rfl rfl (by omega) (by omega) ?_
      refine w_aload hZ 25 26 rfl rfl rfl ?_
      refine w_getr hZ 26 27 rfl rfl rfl rfl rfl ?_
      refine w_const hZ 27 28 rfl rfl  ?_
      refine w_dup2 hZ 28 29 rfl rfl rfl rfl ?_
      refine w_ialdv hZ 29 30 rfl rfl rfl (by omega) (by omega) (v := M14 74 39) (by rw [mup_at, if_neg (by omega)]; rfl) ?_
      refine w_const hZ 30 31 rfl rfl  ?_
      refine w_add hZ 31 32 rfl rfl (by unfold InR; omega) ?_
      refine w_iastk hZ 32 33 39 rfl rfl rfl rfl (by decide) ?_
      refine w_aload hZ 33 34 rfl rfl rfl ?_
      refine w_getr hZ 34 35 rfl rfl rfl rfl rfl ?_
      refine w_const hZ 35 36 rfl rfl  ?_
      refine w_ialdv hZ 36 37 rfl rfl rfl (by omega) (by omega) (v := M14 74 39 + 1) (by simp [mup_at]) ?_
      refine w_iret hZ 37 rfl ?_
      have hz := hx.nx hv p14 (M2 := mup (mup M14 74 (40 + M14 74 39).toNat g) 74 39 (M14 74 39 + 1)) (fun o ho => by funext q; simp [mup_at, ho]) (bY_s (f := M14 74) (g := g) (by omega) (by omega) (by omega) (fun q => by simp only [mup_at, true_and]))
      rw [show bY (M14 74) 0 = sB s from hx2.1] at hz
      exact fin _ (by unfold oText; rw [if_neg (fun z => z (b2i_e.mp c2)), if_neg (by omega)]) _ _ (by show M14 74 39 + 1 = _; omega) hz
    · refine w_const hZ 11 12 rfl rfl  ?_
      refine w_iret hZ 12 rfl ?_
      exact non _ (by unfold oText; rw [if_neg (fun z => z (b2i_e.mp c2)), if_pos (by omega)])
  · refine w_const hZ 3 4 rfl rfl  ?_
    refine w_iret hZ 4 rfl ?_
    exact non _ (by unfold oText; rw [if_pos (b2i_z.mp c2)])
set_option maxRecDepth 100000 in
set_option maxHeartbeats 4000000 in
theorem ao_X7_text : AllOk yX7_text.cls cX7_text 2 4 85 (some .int) none pc_X7_text 0 cd_X7_text := ⟨s_iload_n (k := 1) (by decide +kernel) rfl rfl, ⟨s_callS ct_X7_isSign (by decide) (by decide) ⟨by decide +kernel, by decide +kernel, by decide +kernel⟩ tw_4_53 tw_4_54 tw_1_8 tw_4_55 (by decide +kernel) rfl, ⟨s_ifne (off := (6)) (by decide +kernel) rfl rfl, ⟨s_ldc (v := (-1000000002)) tw_4_7 (by decide +kernel) rfl ⟨by decide, by decide⟩ (by decide +kernel), ⟨s_iret rfl (by decide +kernel), ⟨s_aload_n (k := 0) (by decide +kernel) rfl rfl, ⟨s_get (C := RX7) (T := TX7) (N := 22) rfl inT7 (by decide) tw_3_159 (by decide +kernel) rfl, ⟨s_bipush (by decide +kernel) rfl ⟨by decide, by decide⟩ (by decide +kernel), ⟨s_iald (by decide +kernel) rfl, ⟨s_bipush (by decide +kernel) rfl ⟨by decide, by decide⟩ (by decide +kernel), ⟨s_cne (off := (6)) (by decide +kernel) rfl rfl, ⟨s_ldc (v := (-1000000004)) tw_4_13 (by decide +kernel) rfl ⟨by decide, by decide⟩ (by decide +kernel), ⟨s_iret rfl (by decide +kernel), ⟨s_aload_n (k := 0) (by decide +kernel) rfl rfl, ⟨s_callV (C := RX7) (T := TX7) (N := 22) rfl ct_X7_note (by decide) (by decide) ⟨rfl, by decide +kernel, by decide +kernel, by decide +kernel⟩ tw_4_14 tw_4_16 ts_3_4 tw_1_8 tw_4_17 (by decide +kernel) rfl, ⟨s_aload_n (k := 0) (by decide +kernel) rfl rfl, ⟨s_get (C := RX7) (T := TX7) (N := 22) rfl inT7 (by decide) tw_3_159 (by decide +kernel) rfl, ⟨s_bipush (by decide +kernel) rfl ⟨by decide, by decide⟩ (by decide +kernel), ⟨s_aload_n (k := 0) (by decide +kernel) rfl rfl, ⟨s_get (C := RX7) (T := TX7) (N := 22) rfl inT7 (by decide) tw_3_159 (by decide +kernel) rfl, ⟨s_bipush (by decide +kernel) rfl ⟨by decide, by decide⟩ (by decide +kernel), ⟨s_iald (by decide +kernel) rfl, ⟨s_add (by decide +kernel) rfl, ⟨s_iload_n (k := 1) (by decide +kernel) rfl rfl, ⟨s_iast (by decide +kernel) rfl, ⟨s_aload_n (k := 0) (by decide +kernel) rfl rfl, ⟨s_get (C := RX7) (T := TX7) (N := 22) rfl inT7 (by decide) tw_3_159 (by decide +kernel) rfl, ⟨s_bipush (by decide +kernel) rfl ⟨by decide, by decide⟩ (by decide +kernel), ⟨s_dup2 (by decide +kernel) rfl, ⟨s_iald (by decide +kernel) rfl, ⟨s_iconst (by decide +kernel) rfl ⟨by decide, by decide⟩, ⟨s_add (by decide +kernel) rfl, ⟨s_iast (by decide +kernel) rfl, ⟨s_aload_n (k := 0) (by decide +kernel) rfl rfl, ⟨s_get (C := RX7) (T := TX7) (N := 22) rfl inT7 (by decide) tw_3_159 (by decide +kernel) rfl, ⟨s_bipush (by decide +kernel) rfl ⟨by decide, by decide⟩ (by decide +kernel), ⟨s_iald (by decide +kernel) rfl, ⟨s_iret rfl (by decide +kernel), trivial⟩⟩⟩⟩⟩⟩⟩⟩⟩⟩⟩⟩⟩⟩⟩⟩⟩⟩⟩⟩⟩⟩⟩⟩⟩⟩⟩⟩⟩⟩⟩⟩⟩⟩⟩⟩⟩⟩
theorem ct_X7_text : Ctr yX7_text cX7_text 2 (some .int) 4 85 sp_X7_text := by
  refine ctr_of (by decide +kernel) ao_X7_text rfl ?_
  rintro av M Ret ⟨s, g, rfl, hp, hR⟩ hok hM
  exact ⟨Nat.le_of_ble_eq_true rfl, fun Z hZ => b_X7_text s g (hok _ (List.mem_of_getElem? (i := 1) rfl)) M Ret hp hR hM Z hZ⟩
def sp_X7_wipe : SP := fun av M Ret => ∃ s : St, av = [mr 73] ∧ (YR s M ∧ stOk s) ∧ (∀ M2 : Mem, (YR (oWipe s).2 M2 ∧ ∀ k, k < 73 → M2 k = M k) → Ret (some (mi ((oWipe s).1))) M2)
theorem k_X7_wipe {code : List Sem} {Z : KZ} {Ret : KR} {ls : List (Option MV)} {M : Mem} {r : List MV} (hZ : Sim code Z Ret) (ip np : Nat) {s : St}  (hc : code[ip]? = some (I_callV 7 0 sp_X7_wipe)) (hn : ip + 1 = np) (h3 : catS r ≤ 8)  (hp : YR s M ∧ stOk s) (kz : ∀ M2 : Mem, (YR (oWipe s).2 M2 ∧ ∀ k, k < 73 → M2 k = M k) → Z np ls (mi ((oWipe s).1) :: r) M2) : Z ip ls (mr 73 :: r) M := w_callV0 hZ ip np hc hn rfl rfl h3 ⟨_, rfl, hp, fun M2 h => kz M2 h⟩
def cd_X7_wipe : List Sem := [I_aload 0, I_callV 7 0 sp_X7_note, I_aload 0, I_get 7 0, I_const (39), I_iald, I_istore 1, I_const (0), I_istore 2, I_iload 2, I_const (120), I_cge 21, I_aload 0, I_get 7 0, I_const (40), I_iload 2, I_add, I_const (0), I_iast, I_iinc 2 (1), I_goto 9, I_aload 0, I_get 7 0, I_const (39), I_const (0), I_iast, I_iload 1, I_iret]
def pc_X7_wipe : List Nat := [0, 1, 4, 5, 8, 10, 11, 12, 13, 14, 15, 17, 20, 21, 24, 26, 27, 28, 29, 30, 33, 36, 37, 40, 42, 43, 44, 45]
set_option maxRecDepth 100000 in
set_option maxHeartbeats 4000000 in
theorem b_X7_wipe (s : St)  (M : Mem) (Ret : KR) (hp : YR s M ∧ stOk s) (hR : ∀ M2 : Mem, (YR (oWipe s).2 M2 ∧ ∀ k, k < 73 → M2 k = M k) → Ret (some (mi ((oWipe s).1))) M2) (hM : MOk M) (Z : KZ) (hZ : Sim cd_X7_wipe Z Ret) : Z 0 [some (mr 73), none, none] [] M := by
  obtain ⟨hx, hv⟩ := hp
  have hB := hx.yb hv
  have hvo := hx.vo hv
  have hU : 0 ≤ M 73 2 ∧ M 73 2 ≤ 8 := ⟨by rw [hx.2.1]; omega, by rw [hx.2.1]; have := hv.2.1; omega⟩
  have fin : ∀ r : Int × St, (oWipe s) = r → ∀ (x : Int) (M2 : Mem), x = r.1 → (YR r.2 M2 ∧ ∀ k, k < 73 → M2 k = M k) → Ret (some (mi x)) M2 := by
    intro r q x M2 e h; subst e; subst q; exact hR M2 h
  have non : ∀ x : Int, (oWipe s) = (x, s) → Ret (some (mi x)) M := fun x q => fin _ q x M rfl ⟨hx, fun _ _ => rfl⟩
  have loop : ∀ P : Mem, ntB M P → YV P = sB s → ∀ (d : Nat) (i : Int) (N : Mem), d = (120 - i).toNat → 0 ≤ i → i ≤ 120 → (∀ o, ¬ o = 74 → N o = P o) → Hid (∀ j : Nat, j < 40 → N 74 j = P 74 j) → Z 9 [some (mr 73), some (mi (vN (sB s))), some (mi i)] [] N := by
    intro P hP hPs d
    induction d using Nat.strongRecOn with
    | ind d ih =>
      intro i N hd i0 i1 n1 n2
      refine w_iload hZ 9 10 rfl rfl rfl ?_
      refine w_const hZ 10 11 rfl rfl  ?_
      refine w_cge hZ 11 12 rfl rfl (fun c11 => ?_) (fun c11 => ?_)
      · refine w_aload hZ 21 22 rfl rfl rfl ?_
        refine w_getr hZ 22 23 rfl rfl rfl rfl rfl ?_
        refine w_const hZ 23 24 rfl rfl  ?_
        refine w_const hZ 24 25 rfl rfl  ?_
        refine w_iastk hZ 25 26 39 rfl rfl rfl rfl (by decide) ?_
        refine w_iload hZ 26 27 rfl rfl rfl ?_
        refine w_iret hZ 27 rfl ?_
        have hp0 : P 74 0 = vR (sB s) := (Y_r hPs).1
        have hr := hv.1.2.2.2.1
        have hz := hx.nx hv hP (M2 := mup N 74 39 0) (fun o ho => by rw [← n1 o ho]; funext q; simp [mup_at, ho]) (bY_0 (f := P 74) (by omega) (by simp [mup_at]) (fun j hj => by rw [mup_at, if_neg (by omega)]; exact n2.u j (by omega)))
        rw [show bY (P 74) 0 = sB s from hPs] at hz
        exact fin (vN (sB s), nx s (wp (sB s))) rfl _ _ rfl hz
      · refine w_aload hZ 12 13 rfl rfl rfl ?_
        refine w_getr hZ 13 14 rfl rfl rfl rfl rfl ?_
        refine w_const hZ 14 15 rfl rfl  ?_
        refine w_iload hZ 15 16 rfl rfl rfl ?_
        refine w_add hZ 16 17 rfl rfl (by unfold InR; omega) ?_
        refine w_const hZ 17 18 rfl rfl  ?_
        refine w_iast hZ 18 19 rfl rfl rfl (by omega) (by omega) ?_
        refine w_in3_2 hZ 19 20 rfl rfl rfl (by unfold InR; omega) ?_
        refine w_goto hZ 20 9 rfl ?_
        refine ih (120 - (i + 1)).toNat (by omega) (i + 1) _ rfl (by omega) (by omega) (fun o ho => ?_) (fun j hj => ?_)
        · rw [← n1 o ho]; funext q; simp [mup_at, ho]
        · rw [mup_at, if_neg (by omega)]; exact n2.u j hj
  refine w_aload hZ 0 1 rfl rfl rfl ?_
  refine k_X7_note hZ 1 2 rfl rfl (Nat.le_of_ble_eq_true rfl) hU (fun M1 p1 => ?_)
  refine w_aload hZ 2 3 rfl rfl rfl ?_
  refine w_getr hZ 3 4 rfl rfl rfl rfl rfl ?_
  refine w_const hZ 4 5 rfl rfl  ?_
  refine w_ialdv hZ 5 6 rfl rfl rfl (by omega) (by omega) (v := vN (sB s)) (hx.note hv p1).r39 ?_
  refine w_st3_1 hZ 6 7 rfl rfl rfl ?_
  refine w_const hZ 7 8 rfl rfl  ?_
  refine w_st3_2 hZ 8 9 rfl rfl rfl ?_
  exact loop M1 p1 (hx.note hv p1).1 _ 0 M1 rfl (Int.le_refl _) (by omega) (fun _ _ => rfl) (fun _ _ => rfl)
set_option maxRecDepth 100000 in
set_option maxHeartbeats 4000000 in
theorem ao_X7_wipe : AllOk yX7_wipe.cls cX7_wipe 3 1 21 (some .int) none pc_X7_wipe 0 cd_X7_wipe := ⟨s_aload_n (k := 0) (by decide +kernel) rfl rfl, ⟨s_callV (C := RX7) (T := TX7) (N := 22) rfl ct_X7_note (by decide) (by decide) ⟨rfl, by decide +kernel, by decide +kernel, by decide +kernel⟩ tw_4_14 tw_4_16 ts_3_4 tw_1_8 tw_4_17 (by decide +kernel) rfl, ⟨s_aload_n (k := 0) (by decide +kernel) rfl rfl, ⟨s_get (C := RX7) (T := TX7) (N := 22) rfl inT7 (by decide) tw_3_159 (by decide +kernel) rfl, ⟨s_bipush (by decide +kernel) rfl ⟨by decide, by decide⟩ (by decide +kernel), ⟨s_iald (by decide +kernel) rfl, ⟨s_istore_n (k := 1) (by decide +kernel) rfl rfl, ⟨s_iconst (by decide +kernel) rfl ⟨by decide, by decide⟩, ⟨s_istore_n (k := 2) (by decide +kernel) rfl rfl, ⟨s_iload_n (k := 2) (by decide +kernel) rfl rfl, ⟨s_bipush (by decide +kernel) rfl ⟨by decide, by decide⟩ (by decide +kernel), ⟨s_cge (off := (19)) (by decide +kernel) rfl rfl, ⟨s_aload_n (k := 0) (by decide +kernel) rfl rfl, ⟨s_get (C := RX7) (T := TX7) (N := 22) rfl inT7 (by decide) tw_3_159 (by decide +kernel) rfl, ⟨s_bipush (by decide +kernel) rfl ⟨by decide, by decide⟩ (by decide +kernel), ⟨s_iload_n (k := 2) (by decide +kernel) rfl rfl, ⟨s_add (by decide +kernel) rfl, ⟨s_iconst (by decide +kernel) rfl ⟨by decide, by decide⟩, ⟨s_iast (by decide +kernel) rfl, ⟨s_iinc (by decide +kernel) rfl, ⟨s_goto (off := (-19)) (by decide +kernel) rfl, ⟨s_aload_n (k := 0) (by decide +kernel) rfl rfl, ⟨s_get (C := RX7) (T := TX7) (N := 22) rfl inT7 (by decide) tw_3_159 (by decide +kernel) rfl, ⟨s_bipush (by decide +kernel) rfl ⟨by decide, by decide⟩ (by decide +kernel), ⟨s_iconst (by decide +kernel) rfl ⟨by decide, by decide⟩, ⟨s_iast (by decide +kernel) rfl, ⟨s_iload_n (k := 1) (by decide +kernel) rfl rfl, ⟨s_iret rfl (by decide +kernel), trivial⟩⟩⟩⟩⟩⟩⟩⟩⟩⟩⟩⟩⟩⟩⟩⟩⟩⟩⟩⟩⟩⟩⟩⟩⟩⟩⟩⟩
theorem ct_X7_wipe : Ctr yX7_wipe cX7_wipe 3 (some .int) 1 21 sp_X7_wipe := by
  refine ctr_of (by decide +kernel) ao_X7_wipe rfl ?_
  rintro av M Ret ⟨s, rfl, hp, hR⟩ hok hM
  exact ⟨Nat.le_of_ble_eq_true rfl, fun Z hZ => b_X7_wipe s  M Ret hp hR hM Z hZ⟩
def sp_X7_undo : SP := fun av M Ret => ∃ s : St, av = [mr 73] ∧ (YR s M ∧ stOk s) ∧ (∀ M2 : Mem, (YR (oUndo s).2 M2 ∧ ∀ k, k < 73 → M2 k = M k) → Ret (some (mi ((oUndo s).1))) M2)
theorem k_X7_undo {code : List Sem} {Z : KZ} {Ret : KR} {ls : List (Option MV)} {M : Mem} {r : List MV} (hZ : Sim code Z Ret) (ip np : Nat) {s : St}  (hc : code[ip]? = some (I_callV 7 0 sp_X7_undo)) (hn : ip + 1 = np) (h3 : catS r ≤ 8)  (hp : YR s M ∧ stOk s) (kz : ∀ M2 : Mem, (YR (oUndo s).2 M2 ∧ ∀ k, k < 73 → M2 k = M k) → Z np ls (mi ((oUndo s).1) :: r) M2) : Z ip ls (mr 73 :: r) M := w_callV0 hZ ip np hc hn rfl rfl h3 ⟨_, rfl, hp, fun M2 h => kz M2 h⟩
def cd_X7_undo : List Sem := [I_aload 0, I_get 7 2, I_ifne 5, I_const (-1000000003), I_iret, I_aload 0, I_dup, I_get 7 2, I_const (1), I_sub, I_puti 7 2, I_const (0), I_istore 1, I_iload 1, I_const (160), I_cge 31, I_aload 0, I_get 7 0, I_iload 1, I_aload 0, I_get 7 1, I_const (160), I_aload 0, I_get 7 2, I_mul, I_iload 1, I_add, I_iald, I_iast, I_iinc 1 (1), I_goto 13, I_aload 0, I_get 7 2, I_iret]
def pc_X7_undo : List Nat := [0, 1, 4, 7, 9, 10, 11, 12, 15, 16, 17, 20, 21, 22, 23, 26, 29, 30, 33, 34, 35, 38, 41, 42, 45, 46, 47, 48, 49, 50, 53, 56, 57, 60]
set_option maxRecDepth 100000 in
set_option maxHeartbeats 4000000 in
theorem b_X7_undo (s : St)  (M : Mem) (Ret : KR) (hp : YR s M ∧ stOk s) (hR : ∀ M2 : Mem, (YR (oUndo s).2 M2 ∧ ∀ k, k < 73 → M2 k = M k) → Ret (some (mi ((oUndo s).1))) M2) (hM : MOk M) (Z : KZ) (hZ : Sim cd_X7_undo Z Ret) : Z 0 [some (mr 73), none] [] M := by
  obtain ⟨hx, hv⟩ := hp
  have hB := hx.yb hv
  have hvo := hx.vo hv
  have hU : 0 ≤ M 73 2 ∧ M 73 2 ≤ 8 := ⟨by rw [hx.2.1]; omega, by rw [hx.2.1]; have := hv.2.1; omega⟩
  have fin : ∀ r : Int × St, (oUndo s) = r → ∀ (x : Int) (M2 : Mem), x = r.1 → (YR r.2 M2 ∧ ∀ k, k < 73 → M2 k = M k) → Ret (some (mi x)) M2 := by
    intro r q x M2 e h; subst e; subst q; exact hR M2 h
  have non : ∀ x : Int, (oUndo s) = (x, s) → Ret (some (mi x)) M := fun x q => fin _ q x M rfl ⟨hx, fun _ _ => rfl⟩
  have loop : ¬ M 73 2 = 0 → ∀ (d : Nat) (i : Int) (N : Mem), d = (160 - i).toNat → 0 ≤ i → i ≤ 160 → (∀ o, ¬ o = 73 → ¬ o = 74 → N o = M o) → N 73 2 = M 73 2 - 1 → N 73 16 = M 73 16 → Hid (∀ j : Nat, (j : Int) < i → N 74 j = M 75 (160 * (M 73 2 - 1).toNat + j)) → Z 13 [some (mr 73), some (mi i)] [] N := by
    intro hu d
    induction d using Nat.strongRecOn with
    | ind d ih =>
      intro i N hd i0 i1 n1 n2 n3 n4
      refine w_iload hZ 13 14 rfl rfl rfl ?_
      refine w_const hZ 14 15 rfl rfl  ?_
      refine w_cge hZ 15 16 rfl rfl (fun c15 => ?_) (fun c15 => ?_)
      · refine w_aload hZ 31 32 rfl rfl rfl ?_
        refine w_getiv hZ 32 33 rfl rfl rfl rfl rfl (v := M 73 2 - 1) n2 ?_
        refine w_iret hZ 33 rfl ?_
        have h2 := hx.2.1
        cases hh : sH s with
        | nil => rw [hh] at h2; exact absurd h2 hu
        | cons V t =>
          rw [hh] at h2
          have ht : M 73 2 - 1 = (t.length : Int) := by rw [h2]; simp
          have hz := hx.undo hv hh n1 n2 n3 (fun j hj => by rw [n4.u j (by omega)]; congr 1; omega)
          exact fin (t.length, (V, t, sI s, sC s, sL s)) (by unfold oUndo; rw [hh]) _ _ ht ⟨hz, fun k hk => n1 k (by omega) (by omega)⟩
      · refine w_aload hZ 16 17 rfl rfl rfl ?_
        refine w_getr hZ 17 18 rfl rfl rfl rfl rfl ?_
        refine w_iload hZ 18 19 rfl rfl rfl ?_
        refine w_aload hZ 19 20 rfl rfl rfl ?_
        refine w_getr hZ 20 21 rfl rfl rfl rfl rfl ?_
        refine w_const hZ 21 22 rfl rfl  ?_
        refine w_aload hZ 22 23 rfl rfl rfl ?_
        refine w_getiv hZ 23 24 rfl rfl rfl rfl rfl (v := M 73 2 - 1) n2 ?_
        refine w_mul hZ 24 25 rfl rfl (by unfold InR; omega) ?_
        refine w_iload hZ 25 26 rfl rfl rfl ?_
        refine w_add hZ 26 27 rfl rfl (by unfold InR; omega) ?_
        refine w_ialdv hZ 27 28 rfl rfl rfl (by omega) (by omega) (v := M 75 (160 * (M 73 2 - 1).toNat + i.toNat)) (by rw [n1 75 (by omega) (by omega)]; congr 1; omega) ?_
        refine w_iast hZ 28 29 rfl rfl rfl (by omega) (by omega) ?_
        refine w_in2_1 hZ 29 30 rfl rfl rfl (by unfold InR; omega) ?_
        refine w_goto hZ 30 13 rfl ?_
        refine ih (160 - (i + 1)).toNat (by omega) (i + 1) _ rfl (by omega) (by omega) (fun o o1 o2 => ?_) (by rw [mup_at, if_neg (by omega)]; exact n2) (by rw [mup_at, if_neg (by omega)]; exact n3) (fun j hj => ?_)
        · rw [← n1 o o1 o2]; funext q; simp [mup_at, o2]
        · rw [mup_at]
          by_cases q : (j : Int) = i
          · rw [if_pos (by omega)]; congr 1; omega
          · rw [if_neg (by omega)]; exact n4.u j (by omega)
  refine w_aload hZ 0 1 rfl rfl rfl ?_
  refine w_geti hZ 1 2 rfl rfl rfl rfl rfl ?_
  refine w_ifne hZ 2 3 rfl rfl (fun c2 => ?_) (fun c2 => ?_)
  · refine w_aload hZ 5 6 rfl rfl rfl ?_
    refine w_dup hZ 6 7 rfl rfl rfl ?_
    refine w_geti hZ 7 8 rfl rfl rfl rfl rfl ?_
    refine w_const hZ 8 9 rfl rfl  ?_
    refine w_sub hZ 9 10 rfl rfl (by unfold InR; omega) ?_
    refine w_puti hZ 10 11 rfl rfl rfl rfl rfl ?_
    refine w_const hZ 11 12 rfl rfl  ?_
    refine w_st2_1 hZ 12 13 rfl rfl rfl ?_
    refine loop c2 _ 0 _ rfl (Int.le_refl _) (by omega) (fun o o1 o2 => ?_) (by simp [mup_at]) (by simp [mup_at]) (fun j hj => absurd hj (by omega))
    funext q; simp [mup_at, o1]
  · refine w_const hZ 3 4 rfl rfl  ?_
    refine w_iret hZ 4 rfl ?_
    have h2 := hx.2.1
    exact non _ (by unfold oUndo; rw [List.length_eq_zero_iff.mp (by omega : (sH s).length = 0)])
set_option maxRecDepth 100000 in
set_option maxHeartbeats 4000000 in
theorem ao_X7_undo : AllOk yX7_undo.cls cX7_undo 2 0 0 (some .int) none pc_X7_undo 0 cd_X7_undo := ⟨s_aload_n (k := 0) (by decide +kernel) rfl rfl, ⟨s_get (C := RX7) (T := TX7) (N := 22) rfl inT7 (by decide) tw_3_161 (by decide +kernel) rfl, ⟨s_ifne (off := (6)) (by decide +kernel) rfl rfl, ⟨s_ldc (v := (-1000000003)) tw_4_12 (by decide +kernel) rfl ⟨by decide, by decide⟩ (by decide +kernel), ⟨s_iret rfl (by decide +kernel), ⟨s_aload_n (k := 0) (by decide +kernel) rfl rfl, ⟨s_dup (by decide +kernel) rfl, ⟨s_get (C := RX7) (T := TX7) (N := 22) rfl inT7 (by decide) tw_3_161 (by decide +kernel) rfl, ⟨s_iconst (by decide +kernel) rfl ⟨by decide, by decide⟩, ⟨s_sub (by decide +kernel) rfl, ⟨s_puti (C := RX7) (T := TX7) (N := 22) (tyf := tyX7) rfl inT7 tyX7_ok nmX7 (by decide) rfl rfl tw_3_161 (by decide +kernel) rfl, ⟨s_iconst (by decide +kernel) rfl ⟨by decide, by decide⟩, ⟨s_istore_n (k := 1) (by decide +kernel) rfl rfl, ⟨s_iload_n (k := 1) (by decide +kernel) rfl rfl, ⟨s_sipush (by decide +kernel) rfl ⟨by decide, by decide⟩ (by decide +kernel), ⟨s_cge (off := (30)) (by decide +kernel) rfl rfl, ⟨s_aload_n (k := 0) (by decide +kernel) rfl rfl, ⟨s_get (C := RX7) (T := TX7) (N := 22) rfl inT7 (by decide) tw_3_159 (by decide +kernel) rfl, ⟨s_iload_n (k := 1) (by decide +kernel) rfl rfl, ⟨s_aload_n (k := 0) (by decide +kernel) rfl rfl, ⟨s_get (C := RX7) (T := TX7) (N := 22) rfl inT7 (by decide) tw_3_160 (by decide +kernel) rfl, ⟨s_sipush (by decide +kernel) rfl ⟨by decide, by decide⟩ (by decide +kernel), ⟨s_aload_n (k := 0) (by decide +kernel) rfl rfl, ⟨s_get (C := RX7) (T := TX7) (N := 22) rfl inT7 (by decide) tw_3_161 (by decide +kernel) rfl, ⟨s_mul (by decide +kernel) rfl, ⟨s_iload_n (k := 1) (by decide +kernel) rfl rfl, ⟨s_add (by decide +kernel) rfl, ⟨s_iald (by decide +kernel) rfl, ⟨s_iast (by decide +kernel) rfl, ⟨s_iinc (by decide +kernel) rfl, ⟨s_goto (off := (-31)) (by decide +kernel) rfl, ⟨s_aload_n (k := 0) (by decide +kernel) rfl rfl, ⟨s_get (C := RX7) (T := TX7) (N := 22) rfl inT7 (by decide) tw_3_161 (by decide +kernel) rfl, ⟨s_iret rfl (by decide +kernel), trivial⟩⟩⟩⟩⟩⟩⟩⟩⟩⟩⟩⟩⟩⟩⟩⟩⟩⟩⟩⟩⟩⟩⟩⟩⟩⟩⟩⟩⟩⟩⟩⟩⟩⟩
theorem ct_X7_undo : Ctr yX7_undo cX7_undo 2 (some .int) 0 0 sp_X7_undo := by
  refine ctr_of (by decide +kernel) ao_X7_undo rfl ?_
  rintro av M Ret ⟨s, rfl, hp, hR⟩ hok hM
  exact ⟨Nat.le_of_ble_eq_true rfl, fun Z hZ => b_X7_undo s  M Ret hp hR hM Z hZ⟩
def sp_X7_keep : SP := fun av M Ret => ∃ s : St, ∃ k : Int, av = [mr 73, mi k] ∧ (YR s M ∧ stOk s) ∧ (∀ M2 : Mem, (YR (oKeep s k).2 M2 ∧ ∀ k, k < 73 → M2 k = M k) → Ret (some (mi ((oKeep s k).1))) M2)
theorem k_X7_keep {code : List Sem} {Z : KZ} {Ret : KR} {ls : List (Option MV)} {M : Mem} {r : List MV} (hZ : Sim code Z Ret) (ip np : Nat) {s : St} {k : Int} (hc : code[ip]? = some (I_callV 7 1 sp_X7_keep)) (hn : ip + 1 = np) (h3 : catS r ≤ 8)  (hp : YR s M ∧ stOk s) (kz : ∀ M2 : Mem, (YR (oKeep s k).2 M2 ∧ ∀ k, k < 73 → M2 k = M k) → Z np ls (mi ((oKeep s k).1) :: r) M2) : Z ip ls (mi k :: mr 73 :: r) M := w_callV1 hZ ip np hc hn rfl rfl h3 ⟨_, _, rfl, hp, fun M2 h => kz M2 h⟩
def cd_X7_keep : List Sem := [I_iload 1, I_i2l, I_lconst (0), I_lconst (1), I_callS 3 sp_X7_in, I_ifne 8, I_const (-1000000001), I_iret, I_const (0), I_istore 2, I_iload 2, I_const (160), I_cge 27, I_aload 0, I_get 7 3, I_const (160), I_iload 1, I_mul, I_iload 2, I_add, I_aload 0, I_get 7 0, I_iload 2, I_iald, I_iast, I_iinc 2 (1), I_goto 10, I_aload 0, I_get 7 4, I_iload 1, I_const (1), I_zast, I_aload 0, I_const (0), I_puti 7 2, I_aload 0, I_get 7 0, I_const (0), I_iald, I_iret]
def pc_X7_keep : List Nat := [0, 1, 2, 3, 4, 7, 10, 12, 13, 14, 15, 16, 19, 22, 23, 26, 29, 30, 31, 32, 33, 34, 37, 38, 39, 40, 43, 46, 47, 50, 51, 52, 53, 54, 55, 58, 59, 62, 63, 64]
set_option maxRecDepth 100000 in
set_option maxHeartbeats 4000000 in
theorem b_X7_keep (s : St) (k : Int) (i_k : InR k) (M : Mem) (Ret : KR) (hp : YR s M ∧ stOk s) (hR : ∀ M2 : Mem, (YR (oKeep s k).2 M2 ∧ ∀ k, k < 73 → M2 k = M k) → Ret (some (mi ((oKeep s k).1))) M2) (hM : MOk M) (Z : KZ) (hZ : Sim cd_X7_keep Z Ret) : Z 0 [some (mr 73), some (mi k), none] [] M := by
  obtain ⟨hx, hv⟩ := hp
  have hB := hx.yb hv
  have hvo := hx.vo hv
  have hU : 0 ≤ M 73 2 ∧ M 73 2 ≤ 8 := ⟨by rw [hx.2.1]; omega, by rw [hx.2.1]; have := hv.2.1; omega⟩
  have fin : ∀ r : Int × St, (oKeep s k) = r → ∀ (x : Int) (M2 : Mem), x = r.1 → (YR r.2 M2 ∧ ∀ k, k < 73 → M2 k = M k) → Ret (some (mi x)) M2 := by
    intro r q x M2 e h; subst e; subst q; exact hR M2 h
  have non : ∀ x : Int, (oKeep s k) = (x, s) → Ret (some (mi x)) M := fun x q => fin _ q x M rfl ⟨hx, fun _ _ => rfl⟩
  have loop : 0 ≤ k → k ≤ 1 → ∀ (d : Nat) (i : Int) (N : Mem), d = (160 - i).toNat → 0 ≤ i → i ≤ 160 → (∀ o, ¬ o = 76 → N o = M o) → Hid (∀ j : Nat, (j : Int) < i → N 76 (160 * k.toNat + j) = M 74 j) → Hid (∀ j : Nat, j < 160 * k.toNat ∨ 160 * k.toNat + 160 ≤ j → N 76 j = M 76 j) → Z 10 [some (mr 73), some (mi k), some (mi i)] [] N := by
    intro k0 k1 d
    induction d using Nat.strongRecOn with
    | ind d ih =>
      intro i N hd i0 i1 n1 n2 n3
      refine w_iload hZ 10 11 rfl rfl rfl ?_
      refine w_const hZ 11 12 rfl rfl  ?_
      refine w_cge hZ 12 13 rfl rfl (fun c12 => ?_) (fun c12 => ?_)
      · refine w_aload hZ 27 28 rfl rfl rfl ?_
        refine w_getr hZ 28 29 rfl rfl rfl rfl rfl ?_
        refine w_iload hZ 29 30 rfl rfl rfl ?_
        refine w_const hZ 30 31 rfl rfl  ?_
        refine w_zast hZ 31 32 rfl rfl rfl (by omega) (by omega) (by omega) ?_
        refine w_aload hZ 32 33 rfl rfl rfl ?_
        refine w_const hZ 33 34 rfl rfl  ?_
        refine w_puti hZ 34 35 rfl rfl rfl rfl rfl ?_
        refine w_aload hZ 35 36 rfl rfl rfl ?_
        refine w_getr hZ 36 37 rfl rfl rfl rfl rfl ?_
        refine w_const hZ 37 38 rfl rfl  ?_
        refine w_ialdv hZ 38 39 rfl rfl rfl (by omega) (by omega) (v := M 74 0) (by rw [mup_at, if_neg (by omega), mup_at, if_neg (by omega), n1 74 (by omega)]; rfl) ?_
        refine w_iret hZ 39 rfl ?_
        have hz := hx.keep hv (N := mup (mup N 77 k.toNat 1) 73 2 0) (k := k.toNat) (by omega) (fun o o1 o2 o3 => by rw [← n1 o o2]; funext q; simp [mup_at, o1, o3]) (fun j hj => by rw [mup_at, if_neg (by omega), mup_at, if_neg (by omega)]; exact n2.u j (by omega)) (fun j hj => by rw [mup_at, if_neg (by omega), mup_at, if_neg (by omega)]; exact n3.u j hj) (fun j => by rw [mup_at, if_neg (by omega), mup_at, n1 77 (by omega)]; simp) (by simp [mup_at]) (by rw [mup_at, if_neg (by omega), mup_at, if_neg (by omega), n1 73 (by omega)])
        rw [show ((k.toNat : Nat) : Int) = k by omega] at hz
        exact fin _ (by unfold oKeep; rw [if_neg (by omega)]) _ _ hx.r0 ⟨hz, fun o ho => by rw [← n1 o (by omega)]; funext q; simp [mup_at, show ¬ o = 73 by omega, show ¬ o = 77 by omega]⟩
      · refine w_aload hZ 13 14 rfl rfl rfl ?_
        refine w_getr hZ 14 15 rfl rfl rfl rfl rfl ?_
        refine w_const hZ 15 16 rfl rfl  ?_
        refine w_iload hZ 16 17 rfl rfl rfl ?_
        refine w_mul hZ 17 18 rfl rfl (by unfold InR; omega) ?_
        refine w_iload hZ 18 19 rfl rfl rfl ?_
        refine w_add hZ 19 20 rfl rfl (by unfold InR; omega) ?_
        refine w_aload hZ 20 21 rfl rfl rfl ?_
        refine w_getr hZ 21 22 rfl rfl rfl rfl rfl ?_
        refine w_iload hZ 22 23 rfl rfl rfl ?_
        refine w_ialdv hZ 23 24 rfl rfl rfl (by omega) (by omega) (v := M 74 i.toNat) (by rw [n1 74 (by omega)]) ?_
        refine w_iast hZ 24 25 rfl rfl rfl (by omega) (by omega) ?_
        refine w_in3_2 hZ 25 26 rfl rfl rfl (by unfold InR; omega) ?_
        refine w_goto hZ 26 10 rfl ?_
        refine ih (160 - (i + 1)).toNat (by omega) (i + 1) _ rfl (by omega) (by omega) (fun o o1 => ?_) (fun j hj => ?_) (fun j hj => ?_)
        · rw [← n1 o o1]; funext q; simp [mup_at, o1]
        · rw [mup_at]
          by_cases q : (j : Int) = i
          · rw [if_pos (by omega)]; congr 1; omega
          · rw [if_neg (by omega)]; exact n2.u j (by omega)
        · rw [mup_at, if_neg (by omega)]; exact n3.u j hj
  refine w_iload hZ 0 1 rfl rfl rfl ?_
  refine w_i2l hZ 1 2 rfl rfl  ?_
  refine w_lconst hZ 2 3 rfl rfl  ?_
  refine w_lconst hZ 3 4 rfl rfl  ?_
  refine k_X7_in hZ 4 5 rfl rfl (Nat.le_of_ble_eq_true rfl)  ?_
  refine w_ifne hZ 5 6 rfl rfl (fun c5 => ?_) (fun c5 => ?_)
  · replace c5 := b2i_e.mp c5
    refine w_const hZ 8 9 rfl rfl  ?_
    refine w_st3_2 hZ 9 10 rfl rfl rfl ?_
    exact loop c5.1 c5.2 _ 0 M rfl (Int.le_refl _) (by omega) (fun _ _ => rfl) (fun j hj => absurd hj (by omega)) (fun _ _ => rfl)
  · refine w_const hZ 6 7 rfl rfl  ?_
    refine w_iret hZ 7 rfl ?_
    exact non _ (by unfold oKeep; rw [if_pos (Decidable.byContradiction fun z => (b2i_z.mp c5) ⟨by omega, by omega⟩)])
set_option maxRecDepth 100000 in
set_option maxHeartbeats 4000000 in
theorem ao_X7_keep : AllOk yX7_keep.cls cX7_keep 3 1 25 (some .int) none pc_X7_keep 0 cd_X7_keep := ⟨s_iload_n (k := 1) (by decide +kernel) rfl rfl, ⟨s_i2l (by decide +kernel) rfl, ⟨s_lconst (k := 0) (by decide +kernel) rfl ⟨by decide, by decide⟩ (by decide +kernel), ⟨s_lconst (k := 1) (by decide +kernel) rfl ⟨by decide, by decide⟩ (by decide +kernel), ⟨s_callS ct_X7_in (by decide) (by decide) ⟨by decide +kernel, by decide +kernel, by decide +kernel⟩ tw_3_234 tw_3_235 tw_1_8 tw_3_236 (by decide +kernel) rfl, ⟨s_ifne (off := (6)) (by decide +kernel) rfl rfl, ⟨s_ldc (v := (-1000000001)) tw_4_30 (by decide +kernel) rfl ⟨by decide, by decide⟩ (by decide +kernel), ⟨s_iret rfl (by decide +kernel), ⟨s_iconst (by decide +kernel) rfl ⟨by decide, by decide⟩, ⟨s_istore_n (k := 2) (by decide +kernel) rfl rfl, ⟨s_iload_n (k := 2) (by decide +kernel) rfl rfl, ⟨s_sipush (by decide +kernel) rfl ⟨by decide, by decide⟩ (by decide +kernel), ⟨s_cge (off := (27)) (by decide +kernel) rfl rfl, ⟨s_aload_n (k := 0) (by decide +kernel) rfl rfl, ⟨s_get (C := RX7) (T := TX7) (N := 22) rfl inT7 (by decide) tw_3_162 (by decide +kernel) rfl, ⟨s_sipush (by decide +kernel) rfl ⟨by decide, by decide⟩ (by decide +kernel), ⟨s_iload_n (k := 1) (by decide +kernel) rfl rfl, ⟨s_mul (by decide +kernel) rfl, ⟨s_iload_n (k := 2) (by decide +kernel) rfl rfl, ⟨s_add (by decide +kernel) rfl, ⟨s_aload_n (k := 0) (by decide +kernel) rfl rfl, ⟨s_get (C := RX7) (T := TX7) (N := 22) rfl inT7 (by decide) tw_3_159 (by decide +kernel) rfl, ⟨s_iload_n (k := 2) (by decide +kernel) rfl rfl, ⟨s_iald (by decide +kernel) rfl, ⟨s_iast (by decide +kernel) rfl, ⟨s_iinc (by decide +kernel) rfl, ⟨s_goto (off := (-28)) (by decide +kernel) rfl, ⟨s_aload_n (k := 0) (by decide +kernel) rfl rfl, ⟨s_get (C := RX7) (T := TX7) (N := 22) rfl inT7 (by decide) tw_3_163 (by decide +kernel) rfl, ⟨s_iload_n (k := 1) (by decide +kernel) rfl rfl, ⟨s_iconst (by decide +kernel) rfl ⟨by decide, by decide⟩, ⟨s_zast (by decide +kernel) rfl, ⟨s_aload_n (k := 0) (by decide +kernel) rfl rfl, ⟨s_iconst (by decide +kernel) rfl ⟨by decide, by decide⟩, ⟨s_puti (C := RX7) (T := TX7) (N := 22) (tyf := tyX7) rfl inT7 tyX7_ok nmX7 (by decide) rfl rfl tw_3_161 (by decide +kernel) rfl, ⟨s_aload_n (k := 0) (by decide +kernel) rfl rfl, ⟨s_get (C := RX7) (T := TX7) (N := 22) rfl inT7 (by decide) tw_3_159 (by decide +kernel) rfl, ⟨s_iconst (by decide +kernel) rfl ⟨by decide, by decide⟩, ⟨s_iald (by decide +kernel) rfl, ⟨s_iret rfl (by decide +kernel), trivial⟩⟩⟩⟩⟩⟩⟩⟩⟩⟩⟩⟩⟩⟩⟩⟩⟩⟩⟩⟩⟩⟩⟩⟩⟩⟩⟩⟩⟩⟩⟩⟩⟩⟩⟩⟩⟩⟩⟩⟩
theorem ct_X7_keep : Ctr yX7_keep cX7_keep 3 (some .int) 1 25 sp_X7_keep := by
  refine ctr_of (by decide +kernel) ao_X7_keep rfl ?_
  rintro av M Ret ⟨s, k, rfl, hp, hR⟩ hok hM
  exact ⟨Nat.le_of_ble_eq_true rfl, fun Z hZ => b_X7_keep s k (hok _ (List.mem_of_getElem? (i := 1) rfl)) M Ret hp hR hM Z hZ⟩
def sp_X7_goBack : SP := fun av M Ret => ∃ s : St, ∃ k : Int, av = [mr 73, mi k] ∧ (YR s M ∧ stOk s) ∧ (∀ M2 : Mem, (YR (oBack s k).2 M2 ∧ ∀ k, k < 73 → M2 k = M k) → Ret (some (mi ((oBack s k).1))) M2)
theorem k_X7_goBack {code : List Sem} {Z : KZ} {Ret : KR} {ls : List (Option MV)} {M : Mem} {r : List MV} (hZ : Sim code Z Ret) (ip np : Nat) {s : St} {k : Int} (hc : code[ip]? = some (I_callV 7 1 sp_X7_goBack)) (hn : ip + 1 = np) (h3 : catS r ≤ 8)  (hp : YR s M ∧ stOk s) (kz : ∀ M2 : Mem, (YR (oBack s k).2 M2 ∧ ∀ k, k < 73 → M2 k = M k) → Z np ls (mi ((oBack s k).1) :: r) M2) : Z ip ls (mi k :: mr 73 :: r) M := w_callV1 hZ ip np hc hn rfl rfl h3 ⟨_, _, rfl, hp, fun M2 h => kz M2 h⟩
def cd_X7_goBack : List Sem := [I_iload 1, I_i2l, I_lconst (0), I_lconst (1), I_callS 3 sp_X7_in, I_ifne 8, I_const (-1000000001), I_iret, I_aload 0, I_get 7 4, I_iload 1, I_zald, I_ifne 15, I_const (-1000000003), I_iret, I_const (0), I_istore 2, I_iload 2, I_const (160), I_cge 34, I_aload 0, I_get 7 0, I_iload 2, I_aload 0, I_get 7 3, I_const (160), I_iload 1, I_mul, I_iload 2, I_add, I_iald, I_iast, I_iinc 2 (1), I_goto 17, I_aload 0, I_const (0), I_puti 7 2, I_aload 0, I_get 7 0, I_const (0), I_iald, I_iret]
def pc_X7_goBack : List Nat := [0, 1, 2, 3, 4, 7, 10, 12, 13, 14, 17, 18, 19, 22, 24, 25, 26, 27, 28, 31, 34, 35, 38, 39, 40, 43, 46, 47, 48, 49, 50, 51, 52, 55, 58, 59, 60, 63, 64, 67, 68, 69]
set_option maxRecDepth 100000 in
set_option maxHeartbeats 4000000 in
theorem b_X7_goBack (s : St) (k : Int) (i_k : InR k) (M : Mem) (Ret : KR) (hp : YR s M ∧ stOk s) (hR : ∀ M2 : Mem, (YR (oBack s k).2 M2 ∧ ∀ k, k < 73 → M2 k = M k) → Ret (some (mi ((oBack s k).1))) M2) (hM : MOk M) (Z : KZ) (hZ : Sim cd_X7_goBack Z Ret) : Z 0 [some (mr 73), some (mi k), none] [] M := by
  obtain ⟨hx, hv⟩ := hp
  have hB := hx.yb hv
  have hvo := hx.vo hv
  have hU : 0 ≤ M 73 2 ∧ M 73 2 ≤ 8 := ⟨by rw [hx.2.1]; omega, by rw [hx.2.1]; have := hv.2.1; omega⟩
  have fin : ∀ r : Int × St, (oBack s k) = r → ∀ (x : Int) (M2 : Mem), x = r.1 → (YR r.2 M2 ∧ ∀ k, k < 73 → M2 k = M k) → Ret (some (mi x)) M2 := by
    intro r q x M2 e h; subst e; subst q; exact hR M2 h
  have non : ∀ x : Int, (oBack s k) = (x, s) → Ret (some (mi x)) M := fun x q => fin _ q x M rfl ⟨hx, fun _ _ => rfl⟩
  have loop : 0 ≤ k → k ≤ 1 → ¬ M 77 k.toNat = 0 → ∀ (d : Nat) (i : Int) (N : Mem), d = (160 - i).toNat → 0 ≤ i → i ≤ 160 → (∀ o, ¬ o = 74 → N o = M o) → Hid (∀ j : Nat, (j : Int) < i → N 74 j = M 76 (160 * k.toNat + j)) → Z 17 [some (mr 73), some (mi k), some (mi i)] [] N := by
    intro k0 k1 kk d
    induction d using Nat.strongRecOn with
    | ind d ih =>
      intro i N hd i0 i1 n1 n2
      refine w_iload hZ 17 18 rfl rfl rfl ?_
      refine w_const hZ 18 19 rfl rfl  ?_
      refine w_cge hZ 19 20 rfl rfl (fun c19 => ?_) (fun c19 => ?_)
      · refine w_aload hZ 34 35 rfl rfl rfl ?_
        refine w_const hZ 35 36 rfl rfl  ?_
        refine w_puti hZ 36 37 rfl rfl rfl rfl rfl ?_
        refine w_aload hZ 37 38 rfl rfl rfl ?_
        refine w_getr hZ 38 39 rfl rfl rfl rfl rfl ?_
        refine w_const hZ 39 40 rfl rfl  ?_
        refine w_ialdv hZ 40 41 rfl rfl rfl (by omega) (by omega) (v := N 74 0) (by rw [mup_at, if_neg (by omega)]; rfl) ?_
        refine w_iret hZ 41 rfl ?_
        have ha := hx.2.2.2.1 k.toNat (by omega)
        rw [show ((k.toNat : Nat) : Int) = k by omega] at ha
        have hi : sI s k = some (bY (M 76) (160 * k.toNat)) := by
          rcases ha with ⟨q, _⟩ | ⟨_, q⟩
          · exact absurd q kk
          · exact q
        have hz := hx.back hv (N := mup N 73 2 0) (k := k.toNat) (by rw [show ((k.toNat : Nat) : Int) = k by omega]; exact hi) (by omega) (fun o o1 o2 => by rw [← n1 o o2]; funext q; simp [mup_at, o1]) (fun j hj => by rw [mup_at, if_neg (by omega)]; exact n2.u j (by omega)) (by simp [mup_at]) (by rw [mup_at, if_neg (by omega), n1 73 (by omega)])
        have h0 := hz.r0
        rw [mup_at, if_neg (by omega)] at h0
        exact fin _ (by unfold oBack; rw [if_neg (by omega), hi]) _ _ h0 ⟨hz, fun o ho => by rw [← n1 o (by omega)]; funext q; simp [mup_at, show ¬ o = 73 by omega]⟩
      · refine w_aload hZ 20 21 rfl rfl rfl ?_
        refine w_getr hZ 21 22 rfl rfl rfl rfl rfl ?_
        refine w_iload hZ 22 23 rfl rfl rfl ?_
        refine w_aload hZ 23 24 rfl rfl rfl ?_
        refine w_getr hZ 24 25 rfl rfl rfl rfl rfl ?_
        refine w_const hZ 25 26 rfl rfl  ?_
        refine w_iload hZ 26 27 rfl rfl rfl ?_
        refine w_mul hZ 27 28 rfl rfl (by unfold InR; omega) ?_
        refine w_iload hZ 28 29 rfl rfl rfl ?_
        refine w_add hZ 29 30 rfl rfl (by unfold InR; omega) ?_
        refine w_ialdv hZ 30 31 rfl rfl rfl (by omega) (by omega) (v := M 76 (160 * k.toNat + i.toNat)) (by rw [n1 76 (by omega)]; congr 1; omega) ?_
        refine w_iast hZ 31 32 rfl rfl rfl (by omega) (by omega) ?_
        refine w_in3_2 hZ 32 33 rfl rfl rfl (by unfold InR; omega) ?_
        refine w_goto hZ 33 17 rfl ?_
        refine ih (160 - (i + 1)).toNat (by omega) (i + 1) _ rfl (by omega) (by omega) (fun o o1 => ?_) (fun j hj => ?_)
        · rw [← n1 o o1]; funext q; simp [mup_at, o1]
        · rw [mup_at]
          by_cases q : (j : Int) = i
          · rw [if_pos (by omega)]; congr 1; omega
          · rw [if_neg (by omega)]; exact n2.u j (by omega)
  refine w_iload hZ 0 1 rfl rfl rfl ?_
  refine w_i2l hZ 1 2 rfl rfl  ?_
  refine w_lconst hZ 2 3 rfl rfl  ?_
  refine w_lconst hZ 3 4 rfl rfl  ?_
  refine k_X7_in hZ 4 5 rfl rfl (Nat.le_of_ble_eq_true rfl)  ?_
  refine w_ifne hZ 5 6 rfl rfl (fun c5 => ?_) (fun c5 => ?_)
  · replace c5 := b2i_e.mp c5
    refine w_aload hZ 8 9 rfl rfl rfl ?_
    refine w_getr hZ 9 10 rfl rfl rfl rfl rfl ?_
    refine w_iload hZ 10 11 rfl rfl rfl ?_
    refine w_zald hZ 11 12 rfl rfl rfl (by omega) (by omega) ?_
    refine w_ifne hZ 12 13 rfl rfl (fun c12 => ?_) (fun c12 => ?_)
    · refine w_const hZ 15 16 rfl rfl  ?_
      refine w_st3_2 hZ 16 17 rfl rfl rfl ?_
      exact loop c5.1 c5.2 c12 _ 0 M rfl (Int.le_refl _) (by omega) (fun _ _ => rfl) (fun j hj => absurd hj (by omega))
    · refine w_const hZ 13 14 rfl rfl  ?_
      refine w_iret hZ 14 rfl ?_
      have ha := hx.2.2.2.1 k.toNat (by omega)
      rw [show ((k.toNat : Nat) : Int) = k by omega] at ha
      exact non _ (by unfold oBack; rw [if_neg (by omega)]; rw [show sI s k = none from ha.elim (fun q => q.2) (fun q => absurd q.1 (by omega))])
  · refine w_const hZ 6 7 rfl rfl  ?_
    refine w_iret hZ 7 rfl ?_
    exact non _ (by unfold oBack; rw [if_pos (Decidable.byContradiction fun z => (b2i_z.mp c5) ⟨by omega, by omega⟩)])
set_option maxRecDepth 100000 in
set_option maxHeartbeats 4000000 in
theorem ao_X7_goBack : AllOk yX7_goBack.cls cX7_goBack 3 1 25 (some .int) none pc_X7_goBack 0 cd_X7_goBack := ⟨s_iload_n (k := 1) (by decide +kernel) rfl rfl, ⟨s_i2l (by decide +kernel) rfl, ⟨s_lconst (k := 0) (by decide +kernel) rfl ⟨by decide, by decide⟩ (by decide +kernel), ⟨s_lconst (k := 1) (by decide +kernel) rfl ⟨by decide, by decide⟩ (by decide +kernel), ⟨s_callS ct_X7_in (by decide) (by decide) ⟨by decide +kernel, by decide +kernel, by decide +kernel⟩ tw_3_234 tw_3_235 tw_1_8 tw_3_236 (by decide +kernel) rfl, ⟨s_ifne (off := (6)) (by decide +kernel) rfl rfl, ⟨s_ldc (v := (-1000000001)) tw_4_30 (by decide +kernel) rfl ⟨by decide, by decide⟩ (by decide +kernel), ⟨s_iret rfl (by decide +kernel), ⟨s_aload_n (k := 0) (by decide +kernel) rfl rfl, ⟨s_get (C := RX7) (T := TX7) (N := 22) rfl inT7 (by decide) tw_3_163 (by decide +kernel) rfl, ⟨s_iload_n (k := 1) (by decide +kernel) rfl rfl, ⟨s_zald (by decide +kernel) rfl, ⟨s_ifne (off := (6)) (by decide +kernel) rfl rfl, ⟨s_ldc (v := (-1000000003)) tw_4_12 (by decide +kernel) rfl ⟨by decide, by decide⟩ (by decide +kernel), ⟨s_iret rfl (by decide +kernel), ⟨s_iconst (by decide +kernel) rfl ⟨by decide, by decide⟩, ⟨s_istore_n (k := 2) (by decide +kernel) rfl rfl, ⟨s_iload_n (k := 2) (by decide +kernel) rfl rfl, ⟨s_sipush (by decide +kernel) rfl ⟨by decide, by decide⟩ (by decide +kernel), ⟨s_cge (off := (27)) (by decide +kernel) rfl rfl, ⟨s_aload_n (k := 0) (by decide +kernel) rfl rfl, ⟨s_get (C := RX7) (T := TX7) (N := 22) rfl inT7 (by decide) tw_3_159 (by decide +kernel) rfl, ⟨s_iload_n (k := 2) (by decide +kernel) rfl rfl, ⟨s_aload_n (k := 0) (by decide +kernel) rfl rfl, ⟨s_get (C := RX7) (T := TX7) (N := 22) rfl inT7 (by decide) tw_3_162 (by decide +kernel) rfl, ⟨s_sipush (by decide +kernel) rfl ⟨by decide, by decide⟩ (by decide +kernel), ⟨s_iload_n (k := 1) (by decide +kernel) rfl rfl, ⟨s_mul (by decide +kernel) rfl, ⟨s_iload_n (k := 2) (by decide +kernel) rfl rfl, ⟨s_add (by decide +kernel) rfl, ⟨s_iald (by decide +kernel) rfl, ⟨s_iast (by decide +kernel) rfl, ⟨s_iinc (by decide +kernel) rfl, ⟨s_goto (off := (-28)) (by decide +kernel) rfl, ⟨s_aload_n (k := 0) (by decide +kernel) rfl rfl, ⟨s_iconst (by decide +kernel) rfl ⟨by decide, by decide⟩, ⟨s_puti (C := RX7) (T := TX7) (N := 22) (tyf := tyX7) rfl inT7 tyX7_ok nmX7 (by decide) rfl rfl tw_3_161 (by decide +kernel) rfl, ⟨s_aload_n (k := 0) (by decide +kernel) rfl rfl, ⟨s_get (C := RX7) (T := TX7) (N := 22) rfl inT7 (by decide) tw_3_159 (by decide +kernel) rfl, ⟨s_iconst (by decide +kernel) rfl ⟨by decide, by decide⟩, ⟨s_iald (by decide +kernel) rfl, ⟨s_iret rfl (by decide +kernel), trivial⟩⟩⟩⟩⟩⟩⟩⟩⟩⟩⟩⟩⟩⟩⟩⟩⟩⟩⟩⟩⟩⟩⟩⟩⟩⟩⟩⟩⟩⟩⟩⟩⟩⟩⟩⟩⟩⟩⟩⟩⟩⟩
theorem ct_X7_goBack : Ctr yX7_goBack cX7_goBack 3 (some .int) 1 25 sp_X7_goBack := by
  refine ctr_of (by decide +kernel) ao_X7_goBack rfl ?_
  rintro av M Ret ⟨s, k, rfl, hp, hR⟩ hok hM
  exact ⟨Nat.le_of_ble_eq_true rfl, fun Z hZ => b_X7_goBack s k (hok _ (List.mem_of_getElem? (i := 1) rfl)) M Ret hp hR hM Z hZ⟩
def sp_X7_rest : SP := fun av M Ret => ∃ s : St, av = [mr 73] ∧ (YR s M ∧ stOk s) ∧ (∀ M2 : Mem, (YR (oRest s).2 M2 ∧ ∀ k, k < 73 → M2 k = M k) → Ret (some (mi ((oRest s).1))) M2)
theorem k_X7_rest {code : List Sem} {Z : KZ} {Ret : KR} {ls : List (Option MV)} {M : Mem} {r : List MV} (hZ : Sim code Z Ret) (ip np : Nat) {s : St}  (hc : code[ip]? = some (I_callV 7 0 sp_X7_rest)) (hn : ip + 1 = np) (h3 : catS r ≤ 8)  (hp : YR s M ∧ stOk s) (kz : ∀ M2 : Mem, (YR (oRest s).2 M2 ∧ ∀ k, k < 73 → M2 k = M k) → Z np ls (mi ((oRest s).1) :: r) M2) : Z ip ls (mr 73 :: r) M := w_callV0 hZ ip np hc hn rfl rfl h3 ⟨_, rfl, hp, fun M2 h => kz M2 h⟩
def cd_X7_rest : List Sem := [I_aload 0, I_get 7 16, I_istore 1, I_aload 0, I_const (0), I_puti 7 16, I_iload 1, I_iret]
def pc_X7_rest : List Nat := [0, 1, 4, 5, 6, 7, 10, 11]
set_option maxRecDepth 100000 in
set_option maxHeartbeats 4000000 in
theorem b_X7_rest (s : St)  (M : Mem) (Ret : KR) (hp : YR s M ∧ stOk s) (hR : ∀ M2 : Mem, (YR (oRest s).2 M2 ∧ ∀ k, k < 73 → M2 k = M k) → Ret (some (mi ((oRest s).1))) M2) (hM : MOk M) (Z : KZ) (hZ : Sim cd_X7_rest Z Ret) : Z 0 [some (mr 73), none] [] M := by
  obtain ⟨hx, hv⟩ := hp
  have hB := hx.yb hv
  have hvo := hx.vo hv
  have hU : 0 ≤ M 73 2 ∧ M 73 2 ≤ 8 := ⟨by rw [hx.2.1]; omega, by rw [hx.2.1]; have := hv.2.1; omega⟩
  have fin : ∀ r : Int × St, (oRest s) = r → ∀ (x : Int) (M2 : Mem), x = r.1 → (YR r.2 M2 ∧ ∀ k, k < 73 → M2 k = M k) → Ret (some (mi x)) M2 := by
    intro r q x M2 e h; subst e; subst q; exact hR M2 h
  have non : ∀ x : Int, (oRest s) = (x, s) → Ret (some (mi x)) M := fun x q => fin _ q x M rfl ⟨hx, fun _ _ => rfl⟩
  refine w_aload hZ 0 1 rfl rfl rfl ?_
  refine w_geti hZ 1 2 rfl rfl rfl rfl rfl ?_
  refine w_st2_1 hZ 2 3 rfl rfl rfl ?_
  refine w_aload hZ 3 4 rfl rfl rfl ?_
  refine w_const hZ 4 5 rfl rfl  ?_
  refine w_puti hZ 5 6 rfl rfl rfl rfl rfl ?_
  refine w_iload hZ 6 7 rfl rfl rfl ?_
  refine w_iret hZ 7 rfl ?_
  refine fin _ rfl _ _ hx.2.2.2.2.1 ⟨hx.felt (fun o o1 _ _ _ _ => by funext q; simp [mup_at, o1]) (by simp [mup_at]) (by simp [mup_at]) ?_, fun k hk => by funext q; simp [mup_at, show ¬ k = 73 by omega]⟩
  funext i; exact if_neg (by omega)
set_option maxRecDepth 100000 in
set_option maxHeartbeats 4000000 in
theorem ao_X7_rest : AllOk yX7_rest.cls cX7_rest 2 0 0 (some .int) none pc_X7_rest 0 cd_X7_rest := ⟨s_aload_n (k := 0) (by decide +kernel) rfl rfl, ⟨s_get (C := RX7) (T := TX7) (N := 22) rfl inT7 (by decide) tw_3_175 (by decide +kernel) rfl, ⟨s_istore_n (k := 1) (by decide +kernel) rfl rfl, ⟨s_aload_n (k := 0) (by decide +kernel) rfl rfl, ⟨s_iconst (by decide +kernel) rfl ⟨by decide, by decide⟩, ⟨s_puti (C := RX7) (T := TX7) (N := 22) (tyf := tyX7) rfl inT7 tyX7_ok nmX7 (by decide) rfl rfl tw_3_175 (by decide +kernel) rfl, ⟨s_iload_n (k := 1) (by decide +kernel) rfl rfl, ⟨s_iret rfl (by decide +kernel), trivial⟩⟩⟩⟩⟩⟩⟩⟩
theorem ct_X7_rest : Ctr yX7_rest cX7_rest 2 (some .int) 0 0 sp_X7_rest := by
  refine ctr_of (by decide +kernel) ao_X7_rest rfl ?_
  rintro av M Ret ⟨s, rfl, hp, hR⟩ hok hM
  exact ⟨Nat.le_of_ble_eq_true rfl, fun Z hZ => b_X7_rest s  M Ret hp hR hM Z hZ⟩
def sp_X7_feel : SP := fun av M Ret => ∃ s : St, ∃ c : Int, av = [mr 73, mi c] ∧ (YR s M ∧ stOk s) ∧ (∀ M2 : Mem, (YR (oFeel s c).2 M2 ∧ ∀ k, k < 73 → M2 k = M k) → Ret (some (mi ((oFeel s c).1))) M2)
theorem k_X7_feel {code : List Sem} {Z : KZ} {Ret : KR} {ls : List (Option MV)} {M : Mem} {r : List MV} (hZ : Sim code Z Ret) (ip np : Nat) {s : St} {c : Int} (hc : code[ip]? = some (I_callV 7 1 sp_X7_feel)) (hn : ip + 1 = np) (h3 : catS r ≤ 8)  (hp : YR s M ∧ stOk s) (kz : ∀ M2 : Mem, (YR (oFeel s c).2 M2 ∧ ∀ k, k < 73 → M2 k = M k) → Z np ls (mi ((oFeel s c).1) :: r) M2) : Z ip ls (mi c :: mr 73 :: r) M := w_callV1 hZ ip np hc hn rfl rfl h3 ⟨_, _, rfl, hp, fun M2 h => kz M2 h⟩
def cd_X7_feel : List Sem := [I_iload 1, I_i2l, I_lconst (0), I_lconst (63), I_callS 3 sp_X7_in, I_ifne 8, I_const (-1000000002), I_iret, I_aload 0, I_get 7 16, I_const (240), I_cne 14, I_const (-1000000004), I_iret, I_aload 0, I_get 7 15, I_aload 0, I_get 7 16, I_iload 1, I_iast, I_aload 0, I_dup, I_get 7 16, I_const (1), I_add, I_puti 7 16, I_aload 0, I_get 7 16, I_iret]
def pc_X7_feel : List Nat := [0, 1, 2, 3, 6, 9, 12, 14, 15, 16, 19, 22, 25, 27, 28, 29, 32, 33, 36, 37, 38, 39, 40, 43, 44, 45, 48, 49, 52]
set_option maxRecDepth 100000 in
set_option maxHeartbeats 4000000 in
theorem b_X7_feel (s : St) (c : Int) (i_c : InR c) (M : Mem) (Ret : KR) (hp : YR s M ∧ stOk s) (hR : ∀ M2 : Mem, (YR (oFeel s c).2 M2 ∧ ∀ k, k < 73 → M2 k = M k) → Ret (some (mi ((oFeel s c).1))) M2) (hM : MOk M) (Z : KZ) (hZ : Sim cd_X7_feel Z Ret) : Z 0 [some (mr 73), some (mi c)] [] M := by
  obtain ⟨hx, hv⟩ := hp
  have hB := hx.yb hv
  have hvo := hx.vo hv
  have hU : 0 ≤ M 73 2 ∧ M 73 2 ≤ 8 := ⟨by rw [hx.2.1]; omega, by rw [hx.2.1]; have := hv.2.1; omega⟩
  have fin : ∀ r : Int × St, (oFeel s c) = r → ∀ (x : Int) (M2 : Mem), x = r.1 → (YR r.2 M2 ∧ ∀ k, k < 73 → M2 k = M k) → Ret (some (mi x)) M2 := by
    intro r q x M2 e h; subst e; subst q; exact hR M2 h
  have non : ∀ x : Int, (oFeel s c) = (x, s) → Ret (some (mi x)) M := fun x q => fin _ q x M rfl ⟨hx, fun _ _ => rfl⟩
  have h7 := hx.2.2.2.2.1
  have h6 := hx.2.2.2.2.2
  have f0 := hv.2.2.2.2.1
  have f1 := hv.2.2.2.2.2.1
  refine w_iload hZ 0 1 rfl rfl rfl ?_
  refine w_i2l hZ 1 2 rfl rfl  ?_
  refine w_lconst hZ 2 3 rfl rfl  ?_
  refine w_lconst hZ 3 4 rfl rfl  ?_
  refine k_X7_in hZ 4 5 rfl rfl (Nat.le_of_ble_eq_true rfl)  ?_
  refine w_ifne hZ 5 6 rfl rfl (fun c5 => ?_) (fun c5 => ?_)
  · refine w_aload hZ 8 9 rfl rfl rfl ?_
    refine w_geti hZ 9 10 rfl rfl rfl rfl rfl ?_
    refine w_const hZ 10 11 rfl rfl  ?_
    refine w_cne hZ 11 12 rfl rfl (fun c11 => ?_) (fun c11 => ?_)
    · refine w_aload hZ 14 15 rfl rfl rfl ?_
      refine w_getr hZ 15 16 rfl rfl rfl rfl rfl ?_
      refine w_aload hZ 16 17 rfl rfl rfl ?_
      refine w_geti hZ 17 18 rfl rfl rfl rfl rfl ?_
      refine w_iload hZ 18 19 rfl rfl rfl ?_
      refine w_iast hZ 19 20 rfl rfl rfl (by omega) (by omega) ?_
      refine w_aload hZ 20 21 rfl rfl rfl ?_
      refine w_dup hZ 21 22 rfl rfl rfl ?_
      refine w_getiv hZ 22 23 rfl rfl rfl rfl rfl (v := M 73 16) (by simp [mup_at]) ?_
      refine w_const hZ 23 24 rfl rfl  ?_
      refine w_add hZ 24 25 rfl rfl (by unfold InR; omega) ?_
      refine w_puti hZ 25 26 rfl rfl rfl rfl rfl ?_
      refine w_aload hZ 26 27 rfl rfl rfl ?_
      refine w_getiv hZ 27 28 rfl rfl rfl rfl rfl (v := M 73 16 + 1) (by simp [mup_at]) ?_
      refine w_iret hZ 28 rfl ?_
      have hz := hx.felt (N := mup (mup M 82 (M 73 16).toNat c) 73 16 (M 73 16 + 1)) (m := sC s + 1) (F := fun i => if i = sC s then c else sL s i) (fun o o1 _ _ _ o2 => by funext q; simp [mup_at, o1, o2]) (by simp [mup_at]) (by simp [mup_at, h7]) (by
        funext i
        rw [← h6]
        have e82 : ∀ j, mup (mup M 82 (M 73 16).toNat c) 73 16 (M 73 16 + 1) 82 j = if j = (M 73 16).toNat then c else M 82 j := fun j => by simp [mup_at]
        unfold sgn
        rw [e82]
        by_cases q : i = sC s
        · rw [if_pos (by omega), if_pos (by omega), if_pos q]
        · rw [if_neg q]
          by_cases p : 0 ≤ i ∧ i < sC s
          · rw [if_pos (by omega), if_neg (by omega), if_pos p]
          · rw [if_neg (by omega), if_neg p])
      exact fin _ (by unfold oFeel; rw [if_neg (fun z => z (b2i_e.mp c5)), if_neg (by omega)]) _ _ (by show M 73 16 + 1 = sC s + 1; omega) ⟨hz, fun k hk => by funext q; simp [mup_at, show ¬ k = 73 by omega, show ¬ k = 82 by omega]⟩
    · refine w_const hZ 12 13 rfl rfl  ?_
      refine w_iret hZ 13 rfl ?_
      exact non _ (by unfold oFeel; rw [if_neg (fun z => z (b2i_e.mp c5)), if_pos (by omega)])
  · refine w_const hZ 6 7 rfl rfl  ?_
    refine w_iret hZ 7 rfl ?_
    exact non _ (by unfold oFeel; rw [if_pos (b2i_z.mp c5)])
set_option maxRecDepth 100000 in
set_option maxHeartbeats 4000000 in
theorem ao_X7_feel : AllOk yX7_feel.cls cX7_feel 2 1 25 (some .int) none pc_X7_feel 0 cd_X7_feel := ⟨s_iload_n (k := 1) (by decide +kernel) rfl rfl, ⟨s_i2l (by decide +kernel) rfl, ⟨s_lconst (k := 0) (by decide +kernel) rfl ⟨by decide, by decide⟩ (by decide +kernel), ⟨s_ldc2 (v := (63)) tw_4_194 (by decide +kernel) rfl ⟨by decide, by decide⟩ (by decide +kernel), ⟨s_callS ct_X7_in (by decide) (by decide) ⟨by decide +kernel, by decide +kernel, by decide +kernel⟩ tw_3_234 tw_3_235 tw_1_8 tw_3_236 (by decide +kernel) rfl, ⟨s_ifne (off := (6)) (by decide +kernel) rfl rfl, ⟨s_ldc (v := (-1000000002)) tw_4_7 (by decide +kernel) rfl ⟨by decide, by decide⟩ (by decide +kernel), ⟨s_iret rfl (by decide +kernel), ⟨s_aload_n (k := 0) (by decide +kernel) rfl rfl, ⟨s_get (C := RX7) (T := TX7) (N := 22) rfl inT7 (by decide) tw_3_175 (by decide +kernel) rfl, ⟨s_sipush (by decide +kernel) rfl ⟨by decide, by decide⟩ (by decide +kernel), ⟨s_cne (off := (6)) (by decide +kernel) rfl rfl, ⟨s_ldc (v := (-1000000004)) tw_4_13 (by decide +kernel) rfl ⟨by decide, by decide⟩ (by decide +kernel), ⟨s_iret rfl (by decide +kernel), ⟨s_aload_n (k := 0) (by decide +kernel) rfl rfl, ⟨s_get (C := RX7) (T := TX7) (N := 22) rfl inT7 (by decide) tw_3_174 (by decide +kernel) rfl, ⟨s_aload_n (k := 0) (by decide +kernel) rfl rfl, ⟨s_get (C := RX7) (T := TX7) (N := 22) rfl inT7 (by decide) tw_3_175 (by decide +kernel) rfl, ⟨s_iload_n (k := 1) (by decide +kernel) rfl rfl, ⟨s_iast (by decide +kernel) rfl, ⟨s_aload_n (k := 0) (by decide +kernel) rfl rfl, ⟨s_dup (by decide +kernel) rfl, ⟨s_get (C := RX7) (T := TX7) (N := 22) rfl inT7 (by decide) tw_3_175 (by decide +kernel) rfl, ⟨s_iconst (by decide +kernel) rfl ⟨by decide, by decide⟩, ⟨s_add (by decide +kernel) rfl, ⟨s_puti (C := RX7) (T := TX7) (N := 22) (tyf := tyX7) rfl inT7 tyX7_ok nmX7 (by decide) rfl rfl tw_3_175 (by decide +kernel) rfl, ⟨s_aload_n (k := 0) (by decide +kernel) rfl rfl, ⟨s_get (C := RX7) (T := TX7) (N := 22) rfl inT7 (by decide) tw_3_175 (by decide +kernel) rfl, ⟨s_iret rfl (by decide +kernel), trivial⟩⟩⟩⟩⟩⟩⟩⟩⟩⟩⟩⟩⟩⟩⟩⟩⟩⟩⟩⟩⟩⟩⟩⟩⟩⟩⟩⟩⟩
theorem ct_X7_feel : Ctr yX7_feel cX7_feel 2 (some .int) 1 25 sp_X7_feel := by
  refine ctr_of (by decide +kernel) ao_X7_feel rfl ?_
  rintro av M Ret ⟨s, c, rfl, hp, hR⟩ hok hM
  exact ⟨Nat.le_of_ble_eq_true rfl, fun Z hZ => b_X7_feel s c (hok _ (List.mem_of_getElem? (i := 1) rfl)) M Ret hp hR hM Z hZ⟩
