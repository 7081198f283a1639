/-! THE CLASS: each act gives and leaves what the abstract act does -/
theorem XR.bx {s : St} {M : Mem} (h : XR s M) (hv : stOk s) : Bx M := vOk.bx (by rw [h.1]; exact hv.1)
theorem XR.vo {s : St} {M : Mem} (h : XR s M) (hv : stOk s) : vOk (bX M 1) := by rw [h.1]; exact hv.1
theorem remB_hi {M M2 : Mem} (h : remB M M2) (hx : Hx M) (k : Nat) (hk : 63 ≤ k) : M2 k = M k := by
  obtain ⟨N, hc, rfl⟩ := h
  have := hx.1
  have := hx.2.1
  rw [← hc.2.2.2.2.2.2.2.2 k (by unfold pb; omega)]
  funext j; simp [mup_at, show ¬ k = 6 by omega]
theorem tkn_X {s : St} {M : Mem} (h : XR s M) (hv : stOk s) (c e : Int) : (¬ fIx (M 2) c (M 1 4) = -1 ∨ ¬ fIx (M 3) e (M 1 4) = -1) ↔ tkn (sB s) c e := by
  have hb := h.bx hv
  rw [← h.1]
  show _ ↔ (¬ fIx (cut (M 1 4) (M 2)) c (M 1 4) = -1 ∨ ¬ fIx (cut (M 1 4) (M 3)) e (M 1 4) = -1)
  rw [fIx_cut _ _ hb.1, fIx_cut _ _ hb.1]
theorem XR.r4 {s : St} {M : Mem} (h : XR s M) : M 1 4 = vR (sB s) := by rw [← h.1]; rfl
theorem XR.r5 {s : St} {M : Mem} (h : XR s M) : M 1 5 = vN (sB s) := by rw [← h.1]; rfl
theorem XR.r6 {s : St} {M : Mem} (h : XR s M) : M 1 6 = vW (sB s) := by rw [← h.1]; rfl
theorem XR.r7 {s : St} {M : Mem} (h : XR s M) : M 1 7 = vP (sB s) := by rw [← h.1]; rfl
/-- after the past has it: the book -/
theorem XR.nx {s : St} {M N M2 : Mem} (h : XR s M) (hv : stOk s) (hr : remB M N) (e : ∀ k, k = 0 ∨ 6 ≤ k → M2 k = N k) {V : BV} (hV : bX M2 1 = V) : XR (nx s V) M2 ∧ ∀ k, 73 ≤ k → M2 k = M k :=
  ⟨(h.rem hv hr).book e hV, fun k hk => by rw [e k (by omega), remB_hi hr h.2.1 k (by omega)]⟩
theorem bX_w {M : Mem} (w : Int) : bX (mup M 1 6 w) 1 = sW (bX M 1) w := by
  have f2 : ∀ k, ¬ k = 1 → mup M 1 6 w k = M k := fun k hk => by funext j; simp [mup_at, hk]
  show ((_, sgn _ (mup M 1 6 w 5), _, cut _ (mup M 1 6 w 2), cut _ (mup M 1 6 w 3), cut _ (mup M 1 6 w 4), _, _) : BV) = _
  rw [f2 5 (by omega), f2 2 (by omega), f2 3 (by omega), f2 4 (by omega), show mup M 1 6 w 1 4 = M 1 4 by simp [mup_at], show mup M 1 6 w 1 5 = M 1 5 by simp [mup_at], show mup M 1 6 w 1 6 = w by simp [mup_at], show mup M 1 6 w 1 7 = M 1 7 by simp [mup_at]]
  rfl
theorem bX_p {M : Mem} (w : Int) : bX (mup M 1 7 w) 1 = sP (bX M 1) w := by
  have f2 : ∀ k, ¬ k = 1 → mup M 1 7 w k = M k := fun k hk => by funext j; simp [mup_at, hk]
  show ((_, sgn _ (mup M 1 7 w 5), _, cut _ (mup M 1 7 w 2), cut _ (mup M 1 7 w 3), cut _ (mup M 1 7 w 4), _, _) : BV) = _
  rw [f2 5 (by omega), f2 2 (by omega), f2 3 (by omega), f2 4 (by omega), show mup M 1 7 w 1 4 = M 1 4 by simp [mup_at], show mup M 1 7 w 1 5 = M 1 5 by simp [mup_at], show mup M 1 7 w 1 6 = M 1 6 by simp [mup_at], show mup M 1 7 w 1 7 = w by simp [mup_at]]
  rfl
theorem bX_0 {M : Mem} : bX (mup M 1 5 0) 1 = wp (bX M 1) := by
  have f2 : ∀ k, ¬ k = 1 → mup M 1 5 0 k = M k := fun k hk => by funext j; simp [mup_at, hk]
  have hs : ∀ f : Nat → Int, sgn 0 f = fun _ => -1 := fun f => by funext i; exact if_neg (by omega)
  show ((_, sgn _ (mup M 1 5 0 5), _, cut _ (mup M 1 5 0 2), cut _ (mup M 1 5 0 3), cut _ (mup M 1 5 0 4), _, _) : BV) = _
  rw [f2 5 (by omega), f2 2 (by omega), f2 3 (by omega), f2 4 (by omega), show mup M 1 5 0 1 4 = M 1 4 by simp [mup_at], show mup M 1 5 0 1 5 = 0 by simp [mup_at], show mup M 1 5 0 1 6 = M 1 6 by simp [mup_at], show mup M 1 5 0 1 7 = M 1 7 by simp [mup_at], hs]
  rfl
def sp_X6_rule : SP := fun av M Ret => ∃ s : St, ∃ c : Int, ∃ e : Int, ∃ k : Int, av = [mr 0, mi c, mi e, mi k] ∧ (XR s M ∧ stOk s) ∧ (∀ M2 : Mem, (XR (oRule s c e k).2 M2 ∧ ∀ k, 73 ≤ k → M2 k = M k) → Ret (some (mi ((oRule s c e k).1))) M2)
theorem k_X6_rule {code : List Sem} {Z : KZ} {Ret : KR} {ls : List (Option MV)} {M : Mem} {r : List MV} (hZ : Sim code Z Ret) (ip np : Nat) {s : St} {c e k : Int} (hc : code[ip]? = some (I_callV 6 3 sp_X6_rule)) (hn : ip + 1 = np) (h3 : catS r ≤ 8)  (hp : XR s M ∧ stOk s) (kz : ∀ M2 : Mem, (XR (oRule s c e k).2 M2 ∧ ∀ k, 73 ≤ k → M2 k = M k) → Z np ls (mi ((oRule s c e k).1) :: r) M2) : Z ip ls (mi k :: mi e :: mi c :: mr 0 :: r) M := w_callV3 hZ ip np hc hn rfl rfl h3 ⟨_, _, _, _, rfl, hp, fun M2 h => kz M2 h⟩
def cd_X6_rule : List Sem := [I_iload 1, I_callS 1 sp_X6_isCode, I_ifeq 11, I_iload 2, I_callS 1 sp_X6_isRuleCell, I_ifeq 11, I_iload 3, I_iflt 11, I_iload 3, I_const (4), I_cle 13, I_const (-1000000002), I_iret, I_aload 0, I_get 6 0, I_iload 1, I_iload 2, I_callV 0 2 sp_X0_isTaken, I_ifeq 21, I_const (-1000000003), I_iret, I_aload 0, I_get 6 0, I_get 0 4, I_const (12), I_clt 28, I_const (-1000000004), I_iret, I_aload 0, I_get 6 1, I_aload 0, I_get 6 0, I_callV 1 1 sp_X1_remember, I_aload 0, I_get 6 0, I_iload 1, I_iload 2, I_iload 3, I_callV 0 3 sp_X0_addRule, I_aload 0, I_get 6 0, I_get 0 4, I_const (1), I_sub, I_iret]
def pc_X6_rule : List Nat := [0, 1, 4, 7, 8, 11, 14, 15, 18, 19, 20, 23, 25, 26, 27, 30, 31, 32, 35, 38, 40, 41, 42, 45, 48, 50, 53, 55, 56, 57, 60, 61, 64, 67, 68, 71, 72, 73, 74, 77, 78, 81, 84, 85, 86]
set_option maxRecDepth 100000 in
set_option maxHeartbeats 4000000 in
theorem b_X6_rule (s : St) (c : Int) (i_c : InR c) (e : Int) (i_e : InR e) (k : Int) (i_k : InR k) (M : Mem) (Ret : KR) (hp : XR s M ∧ stOk s) (hR : ∀ M2 : Mem, (XR (oRule s c e k).2 M2 ∧ ∀ k, 73 ≤ k → M2 k = M k) → Ret (some (mi ((oRule s c e k).1))) M2) (hM : MOk M) (Z : KZ) (hZ : Sim cd_X6_rule Z Ret) : Z 0 [some (mr 0), some (mi c), some (mi e), some (mi k)] [] M := by
  obtain ⟨hx, hv⟩ := hp
  have hB := hx.bx hv
  have hH := hx.2.1
  have fin : ∀ r : Int × St, (oRule s c e k) = r → ∀ (x : Int) (M2 : Mem), x = r.1 → (XR r.2 M2 ∧ ∀ k, 73 ≤ k → M2 k = M k) → Ret (some (mi x)) M2 := by
    intro r q x M2 e h; subst e; subst q; exact hR M2 h
  have non : ∀ x : Int, (oRule s c e k) = (x, s) → Ret (some (mi x)) M := fun x q => fin _ q x M rfl ⟨hx, fun _ _ => rfl⟩
  have ht := tkn_X hx hv c e
  have h4 := hx.r4
  refine w_iload hZ 0 1 rfl rfl rfl ?_
  refine k_X6_isCode hZ 1 2 rfl rfl (Nat.le_of_ble_eq_true rfl)  ?_
  refine w_ifeq hZ 2 3 rfl rfl (fun c2 => ?_) (fun c2 => ?_)
  · refine w_const hZ 11 12 rfl rfl  ?_
    refine w_iret hZ 12 rfl ?_
    first
      | exact non _ (by unfold oRule; rw [if_pos (fun z => (b2i_z.mp c2) z.1)])
      | exact non _ (by unfold oRule; rw [if_pos (fun z => (b2i_z.mp c5) z.2.1)])
      | exact non _ (by unfold oRule; rw [if_pos (fun z => absurd z.2.2.1 (by omega))])
      | exact non _ (by unfold oRule; rw [if_pos (fun z => absurd z.2.2.2 (by omega))])
  · refine w_iload hZ 3 4 rfl rfl rfl ?_
    refine k_X6_isRuleCell hZ 4 5 rfl rfl (Nat.le_of_ble_eq_true rfl)  ?_
    refine w_ifeq hZ 5 6 rfl rfl (fun c5 => ?_) (fun c5 => ?_)
    · refine w_const hZ 11 12 rfl rfl  ?_
      refine w_iret hZ 12 rfl ?_
      first
        | exact non _ (by unfold oRule; rw [if_pos (fun z => (b2i_z.mp c2) z.1)])
        | exact non _ (by unfold oRule; rw [if_pos (fun z => (b2i_z.mp c5) z.2.1)])
        | exact non _ (by unfold oRule; rw [if_pos (fun z => absurd z.2.2.1 (by omega))])
        | exact non _ (by unfold oRule; rw [if_pos (fun z => absurd z.2.2.2 (by omega))])
    · refine w_iload hZ 6 7 rfl rfl rfl ?_
      refine w_iflt hZ 7 8 rfl rfl (fun c7 => ?_) (fun c7 => ?_)
      · refine w_const hZ 11 12 rfl rfl  ?_
        refine w_iret hZ 12 rfl ?_
        first
          | exact non _ (by unfold oRule; rw [if_pos (fun z => (b2i_z.mp c2) z.1)])
          | exact non _ (by unfold oRule; rw [if_pos (fun z => (b2i_z.mp c5) z.2.1)])
          | exact non _ (by unfold oRule; rw [if_pos (fun z => absurd z.2.2.1 (by omega))])
          | exact non _ (by unfold oRule; rw [if_pos (fun z => absurd z.2.2.2 (by omega))])
      · refine w_iload hZ 8 9 rfl rfl rfl ?_
        refine w_const hZ 9 10 rfl rfl  ?_
        refine w_cle hZ 10 11 rfl rfl (fun c10 => ?_) (fun c10 => ?_)
        · have hq : vC c ∧ isRC e ∧ 0 ≤ k ∧ k ≤ 4 := ⟨b2i_e.mp c2, b2i_e.mp c5, by omega, by omega⟩
          refine w_aload hZ 13 14 rfl rfl rfl ?_
          refine w_getr hZ 14 15 rfl rfl rfl rfl rfl ?_
          refine w_iload hZ 15 16 rfl rfl rfl ?_
          refine w_iload hZ 16 17 rfl rfl rfl ?_
          refine k_X0_isTaken hZ 17 18 rfl rfl (Nat.le_of_ble_eq_true rfl) hB ?_
          refine w_ifeq hZ 18 19 rfl rfl (fun c18 => ?_) (fun c18 => ?_)
          · refine w_aload hZ 21 22 rfl rfl rfl ?_
            refine w_getr hZ 22 23 rfl rfl rfl rfl rfl ?_
            refine w_geti hZ 23 24 rfl rfl rfl rfl rfl ?_
            refine w_const hZ 24 25 rfl rfl  ?_
            refine w_clt hZ 25 26 rfl rfl (fun c25 => ?_) (fun c25 => ?_)
            · refine w_aload hZ 28 29 rfl rfl rfl ?_
              refine w_getr hZ 29 30 rfl rfl rfl rfl rfl ?_
              refine w_aload hZ 30 31 rfl rfl rfl ?_
              refine w_getr hZ 31 32 rfl rfl rfl rfl rfl ?_
              refine k_X1_remember hZ 32 33 rfl rfl (Nat.le_of_ble_eq_true rfl) hH (fun M32 p32 => ?_)
              refine w_aload hZ 33 34 rfl rfl rfl ?_
              refine w_getr hZ 34 35 rfl rfl rfl rfl rfl ?_
              refine w_iload hZ 35 36 rfl rfl rfl ?_
              refine w_iload hZ 36 37 rfl rfl rfl ?_
              refine w_iload hZ 37 38 rfl rfl rfl ?_
              refine k_X0_addRule hZ 38 39 rfl rfl (Nat.le_of_ble_eq_true rfl) (XR.bx (hx.rem hv p32) (nx_ok hv hv.1)) (fun M38 p38 => ?_)
              have hx2 := hx.rem hv p32
              have h42 : M32 1 4 = vR (sB s) := hx2.r4
              rw [if_pos (by omega)] at p38
              have hz := hx.nx hv p32 (M2 := M38) (fun k hk => by rw [p38]; funext j; simp [addR, mup_at, show ¬ k = 1 by omega, show ¬ k = 2 by omega, show ¬ k = 3 by omega, show ¬ k = 4 by omega]) (by rw [p38, bX_addR (XR.bx hx2 (nx_ok hv hv.1))])
              rw [hx2.1] at hz
              have h43 : M38 1 4 = vR (sB s) + 1 := by rw [hz.1.r4]; rfl
              refine w_aload hZ 39 40 rfl rfl rfl ?_
              refine w_getr hZ 40 41 rfl rfl rfl rfl rfl ?_
              refine w_geti hZ 41 42 rfl rfl rfl rfl rfl ?_
              refine w_const hZ 42 43 rfl rfl  ?_
              refine w_sub hZ 43 44 rfl rfl (by unfold InR; omega) ?_
              refine w_iret hZ 44 rfl ?_
              exact fin _ (by unfold oRule; rw [if_neg (fun z => z hq), if_neg (fun z => (b2i_z.mp c18) (ht.mpr z)), if_neg (by omega)]) _ _ (by show M38 1 4 - 1 = _; omega) hz
            · refine w_const hZ 26 27 rfl rfl  ?_
              refine w_iret hZ 27 rfl ?_
              exact non _ (by unfold oRule; rw [if_neg (fun z => z hq), if_neg (fun z => (b2i_z.mp c18) (ht.mpr z)), if_pos (by omega)])
          · refine w_const hZ 19 20 rfl rfl  ?_
            refine w_iret hZ 20 rfl ?_
            exact non _ (by unfold oRule; rw [if_neg (fun z => z hq), if_pos (ht.mp (b2i_e.mp c18))])
        · refine w_const hZ 11 12 rfl rfl  ?_
          refine w_iret hZ 12 rfl ?_
          first
            | exact non _ (by unfold oRule; rw [if_pos (fun z => (b2i_z.mp c2) z.1)])
            | exact non _ (by unfold oRule; rw [if_pos (fun z => (b2i_z.mp c5) z.2.1)])
            | exact non _ (by unfold oRule; rw [if_pos (fun z => absurd z.2.2.1 (by omega))])
            | exact non _ (by unfold oRule; rw [if_pos (fun z => absurd z.2.2.2 (by omega))])
set_option maxRecDepth 100000 in
set_option maxHeartbeats 4000000 in
theorem ao_X6_rule : AllOk yX6_rule.cls cX6_rule 4 3 68 (some .int) none pc_X6_rule 0 cd_X6_rule := ⟨s_iload_n (k := 1) (by decide +kernel) rfl rfl, ⟨s_callS ct_X6_isCode (by decide) (by decide) ⟨by decide +kernel, by decide +kernel, by decide +kernel⟩ tw_1_232 tw_1_233 tw_1_1 tw_1_234 (by decide +kernel) rfl, ⟨s_ifeq (off := (19)) (by decide +kernel) rfl rfl, ⟨s_iload_n (k := 2) (by decide +kernel) rfl rfl, ⟨s_callS ct_X6_isRuleCell (by decide) (by decide) ⟨by decide +kernel, by decide +kernel, by decide +kernel⟩ tw_1_239 tw_2_0 tw_1_1 tw_2_1 (by decide +kernel) rfl, ⟨s_ifeq (off := (12)) (by decide +kernel) rfl rfl, ⟨s_iload_n (k := 3) (by decide +kernel) rfl rfl, ⟨s_iflt (off := (8)) (by decide +kernel) rfl rfl, ⟨s_iload_n (k := 3) (by decide +kernel) rfl rfl, ⟨s_iconst (by decide +kernel) rfl ⟨by decide, by decide⟩, ⟨s_cle (off := (6)) (by decide +kernel) rfl rfl, ⟨s_ldc (v := (-1000000002)) tw_2_2 (by decide +kernel) rfl ⟨by decide, by decide⟩ (by decide +kernel), ⟨s_iret rfl (by decide +kernel), ⟨s_aload_n (k := 0) (by decide +kernel) rfl rfl, ⟨s_get (C := RX6) (T := TX6) (N := 10) rfl inT6 (by decide) tw_1_197 (by decide +kernel) rfl, ⟨s_iload_n (k := 1) (by decide +kernel) rfl rfl, ⟨s_iload_n (k := 2) (by decide +kernel) rfl rfl, ⟨s_callV (C := RX0) (T := TX0) (N := 8) rfl ct_X0_isTaken (by decide) (by decide) ⟨rfl, by decide +kernel, by decide +kernel, by decide +kernel⟩ tw_2_3 tw_2_4 tw_2_5 tw_1_2 tw_2_6 (by decide +kernel) rfl, ⟨s_ifeq (off := (6)) (by decide +kernel) rfl rfl, ⟨s_ldc (v := (-1000000003)) tw_2_15 (by decide +kernel) rfl ⟨by decide, by decide⟩ (by decide +kernel), ⟨s_iret rfl (by decide +kernel), ⟨s_aload_n (k := 0) (by decide +kernel) rfl rfl, ⟨s_get (C := RX6) (T := TX6) (N := 10) rfl inT6 (by decide) tw_1_197 (by decide +kernel) rfl, ⟨s_get (C := RX0) (T := TX0) (N := 8) rfl inT0 (by decide) tw_1_37 (by decide +kernel) rfl, ⟨s_bipush (by decide +kernel) rfl ⟨by decide, by decide⟩ (by decide +kernel), ⟨s_clt (off := (6)) (by decide +kernel) rfl rfl, ⟨s_ldc (v := (-1000000004)) tw_2_16 (by decide +kernel) rfl ⟨by decide, by decide⟩ (by decide +kernel), ⟨s_iret rfl (by decide +kernel), ⟨s_aload_n (k := 0) (by decide +kernel) rfl rfl, ⟨s_get (C := RX6) (T := TX6) (N := 10) rfl inT6 (by decide) tw_1_198 (by decide +kernel) rfl, ⟨s_aload_n (k := 0) (by decide +kernel) rfl rfl, ⟨s_get (C := RX6) (T := TX6) (N := 10) rfl inT6 (by decide) tw_1_197 (by decide +kernel) rfl, ⟨s_callV (C := RX1) (T := TX1) (N := 3) rfl ct_X1_remember (by decide) (by decide) ⟨rfl, by decide +kernel, by decide +kernel, by decide +kernel⟩ tw_2_17 tw_2_18 tw_2_19 tw_1_3 tw_2_20 (by decide +kernel) rfl, ⟨s_aload_n (k := 0) (by decide +kernel) rfl rfl, ⟨s_get (C := RX6) (T := TX6) (N := 10) rfl inT6 (by decide) tw_1_197 (by decide +kernel) rfl, ⟨s_iload_n (k := 1) (by decide +kernel) rfl rfl, ⟨s_iload_n (k := 2) (by decide +kernel) rfl rfl, ⟨s_iload_n (k := 3) (by decide +kernel) rfl rfl, ⟨s_callV (C := RX0) (T := TX0) (N := 8) rfl ct_X0_addRule (by decide) (by decide) ⟨rfl, by decide +kernel, by decide +kernel, by decide +kernel⟩ tw_2_31 tw_2_32 tw_2_33 tw_1_2 tw_2_34 (by decide +kernel) rfl, ⟨s_aload_n (k := 0) (by decide +kernel) rfl rfl, ⟨s_get (C := RX6) (T := TX6) (N := 10) rfl inT6 (by decide) tw_1_197 (by decide +kernel) rfl, ⟨s_get (C := RX0) (T := TX0) (N := 8) rfl inT0 (by decide) tw_1_37 (by decide +kernel) rfl, ⟨s_iconst (by decide +kernel) rfl ⟨by decide, by decide⟩, ⟨s_sub (by decide +kernel) rfl, ⟨s_iret rfl (by decide +kernel), trivial⟩⟩⟩⟩⟩⟩⟩⟩⟩⟩⟩⟩⟩⟩⟩⟩⟩⟩⟩⟩⟩⟩⟩⟩⟩⟩⟩⟩⟩⟩⟩⟩⟩⟩⟩⟩⟩⟩⟩⟩⟩⟩⟩⟩⟩
theorem ct_X6_rule : Ctr yX6_rule cX6_rule 4 (some .int) 3 68 sp_X6_rule := by
  refine ctr_of (by decide +kernel) ao_X6_rule rfl ?_
  rintro av M Ret ⟨s, c, e, k, rfl, hp, hR⟩ hok hM
  exact ⟨Nat.le_of_ble_eq_true rfl, fun Z hZ => b_X6_rule s c (hok _ (List.mem_of_getElem? (i := 1) rfl)) e (hok _ (List.mem_of_getElem? (i := 2) rfl)) k (hok _ (List.mem_of_getElem? (i := 3) rfl)) M Ret hp hR hM Z hZ⟩
def sp_X6_drop : SP := fun av M Ret => ∃ s : St, ∃ k : Int, av = [mr 0, mi k] ∧ (XR s M ∧ stOk s) ∧ (∀ M2 : Mem, (XR (oDrop s k).2 M2 ∧ ∀ k, 73 ≤ k → M2 k = M k) → Ret (some (mi ((oDrop s k).1))) M2)
theorem k_X6_drop {code : List Sem} {Z : KZ} {Ret : KR} {ls : List (Option MV)} {M : Mem} {r : List MV} (hZ : Sim code Z Ret) (ip np : Nat) {s : St} {k : Int} (hc : code[ip]? = some (I_callV 6 1 sp_X6_drop)) (hn : ip + 1 = np) (h3 : catS r ≤ 8)  (hp : XR s M ∧ stOk s) (kz : ∀ M2 : Mem, (XR (oDrop s k).2 M2 ∧ ∀ k, 73 ≤ k → M2 k = M k) → Z np ls (mi ((oDrop s k).1) :: r) M2) : Z ip ls (mi k :: mr 0 :: r) M := w_callV1 hZ ip np hc hn rfl rfl h3 ⟨_, _, rfl, hp, fun M2 h => kz M2 h⟩
def cd_X6_drop : List Sem := [I_aload 0, I_get 6 0, I_iload 1, I_callV 0 1 sp_X0_hasRule, I_ifne 7, I_const (-1000000001), I_iret, I_aload 0, I_get 6 1, I_aload 0, I_get 6 0, I_callV 1 1 sp_X1_remember, I_aload 0, I_get 6 0, I_iload 1, I_callV 0 1 sp_X0_removeRule, I_aload 0, I_get 6 0, I_get 0 4, I_iret]
def pc_X6_drop : List Nat := [0, 1, 4, 5, 8, 11, 13, 14, 15, 18, 19, 22, 25, 26, 29, 30, 33, 34, 37, 40]
set_option maxRecDepth 100000 in
set_option maxHeartbeats 4000000 in
theorem b_X6_drop (s : St) (k : Int) (i_k : InR k) (M : Mem) (Ret : KR) (hp : XR s M ∧ stOk s) (hR : ∀ M2 : Mem, (XR (oDrop s k).2 M2 ∧ ∀ k, 73 ≤ k → M2 k = M k) → Ret (some (mi ((oDrop s k).1))) M2) (hM : MOk M) (Z : KZ) (hZ : Sim cd_X6_drop Z Ret) : Z 0 [some (mr 0), some (mi k)] [] M := by
  obtain ⟨hx, hv⟩ := hp
  have hB := hx.bx hv
  have hH := hx.2.1
  have fin : ∀ r : Int × St, (oDrop s k) = r → ∀ (x : Int) (M2 : Mem), x = r.1 → (XR r.2 M2 ∧ ∀ k, 73 ≤ k → M2 k = M k) → Ret (some (mi x)) M2 := by
    intro r q x M2 e h; subst e; subst q; exact hR M2 h
  have non : ∀ x : Int, (oDrop s k) = (x, s) → Ret (some (mi x)) M := fun x q => fin _ q x M rfl ⟨hx, fun _ _ => rfl⟩
  have h4 := hx.r4
  refine w_aload hZ 0 1 rfl rfl rfl ?_
  refine w_getr hZ 1 2 rfl rfl rfl rfl rfl ?_
  refine w_iload hZ 2 3 rfl rfl rfl ?_
  refine k_X0_hasRule hZ 3 4 rfl rfl (Nat.le_of_ble_eq_true rfl)  ?_
  refine w_ifne hZ 4 5 rfl rfl (fun c4 => ?_) (fun c4 => ?_)
  · refine w_aload hZ 7 8 rfl rfl rfl ?_
    refine w_getr hZ 8 9 rfl rfl rfl rfl rfl ?_
    refine w_aload hZ 9 10 rfl rfl rfl ?_
    refine w_getr hZ 10 11 rfl rfl rfl rfl rfl ?_
    refine k_X1_remember hZ 11 12 rfl rfl (Nat.le_of_ble_eq_true rfl) hH (fun M11 p11 => ?_)
    refine w_aload hZ 12 13 rfl rfl rfl ?_
    refine w_getr hZ 13 14 rfl rfl rfl rfl rfl ?_
    refine w_iload hZ 14 15 rfl rfl rfl ?_
    refine k_X0_removeRule hZ 15 16 rfl rfl (Nat.le_of_ble_eq_true rfl) ⟨XR.bx (hx.rem hv p11) (nx_ok hv hv.1), (b2i_e.mp c4).1, by rw [(hx.rem hv p11).r4]; have := (b2i_e.mp c4).2; show k < vR (sB s); omega⟩ (fun M15 p15 => ?_)
    have hx2 := hx.rem hv p11
    have hk := b2i_e.mp c4
    have hz := hx.nx hv p11 (M2 := M15) (fun k hk => p15.2.2.2.2 k (by omega)) (bX_remR p15)
    rw [hx2.1] at hz
    have h43 : M15 1 4 = vR (sB s) - 1 := by rw [hz.1.r4]; rfl
    refine w_aload hZ 16 17 rfl rfl rfl ?_
    refine w_getr hZ 17 18 rfl rfl rfl rfl rfl ?_
    refine w_geti hZ 18 19 rfl rfl rfl rfl rfl ?_
    refine w_iret hZ 19 rfl ?_
    exact fin _ (by unfold oDrop; rw [if_neg (fun z => z ⟨hk.1, by omega⟩)]) _ _ h43 hz
  · refine w_const hZ 5 6 rfl rfl  ?_
    refine w_iret hZ 6 rfl ?_
    exact non _ (by unfold oDrop; rw [if_pos (fun z => (b2i_z.mp c4) ⟨z.1, by omega⟩)])
set_option maxRecDepth 100000 in
set_option maxHeartbeats 4000000 in
theorem ao_X6_drop : AllOk yX6_drop.cls cX6_drop 2 3 68 (some .int) none pc_X6_drop 0 cd_X6_drop := ⟨s_aload_n (k := 0) (by decide +kernel) rfl rfl, ⟨s_get (C := RX6) (T := TX6) (N := 10) rfl inT6 (by decide) tw_1_197 (by decide +kernel) rfl, ⟨s_iload_n (k := 1) (by decide +kernel) rfl rfl, ⟨s_callV (C := RX0) (T := TX0) (N := 8) rfl ct_X0_hasRule (by decide) (by decide) ⟨rfl, by decide +kernel, by decide +kernel, by decide +kernel⟩ tw_2_39 tw_2_40 tw_2_41 tw_1_2 tw_2_42 (by decide +kernel) rfl, ⟨s_ifne (off := (6)) (by decide +kernel) rfl rfl, ⟨s_ldc (v := (-1000000001)) tw_2_43 (by decide +kernel) rfl ⟨by decide, by decide⟩ (by decide +kernel), ⟨s_iret rfl (by decide +kernel), ⟨s_aload_n (k := 0) (by decide +kernel) rfl rfl, ⟨s_get (C := RX6) (T := TX6) (N := 10) rfl inT6 (by decide) tw_1_198 (by decide +kernel) rfl, ⟨s_aload_n (k := 0) (by decide +kernel) rfl rfl, ⟨s_get (C := RX6) (T := TX6) (N := 10) rfl inT6 (by decide) tw_1_197 (by decide +kernel) rfl, ⟨s_callV (C := RX1) (T := TX1) (N := 3) rfl ct_X1_remember (by decide) (by decide) ⟨rfl, by decide +kernel, by decide +kernel, by decide +kernel⟩ tw_2_17 tw_2_18 tw_2_19 tw_1_3 tw_2_20 (by decide +kernel) rfl, ⟨s_aload_n (k := 0) (by decide +kernel) rfl rfl, ⟨s_get (C := RX6) (T := TX6) (N := 10) rfl inT6 (by decide) tw_1_197 (by decide +kernel) rfl, ⟨s_iload_n (k := 1) (by decide +kernel) rfl rfl, ⟨s_callV (C := RX0) (T := TX0) (N := 8) rfl ct_X0_removeRule (by decide) (by decide) ⟨rfl, by decide +kernel, by decide +kernel, by decide +kernel⟩ tw_2_44 tw_2_45 tw_2_46 tw_1_2 tw_2_47 (by decide +kernel) rfl, ⟨s_aload_n (k := 0) (by decide +kernel) rfl rfl, ⟨s_get (C := RX6) (T := TX6) (N := 10) rfl inT6 (by decide) tw_1_197 (by decide +kernel) rfl, ⟨s_get (C := RX0) (T := TX0) (N := 8) rfl inT0 (by decide) tw_1_37 (by decide +kernel) rfl, ⟨s_iret rfl (by decide +kernel), trivial⟩⟩⟩⟩⟩⟩⟩⟩⟩⟩⟩⟩⟩⟩⟩⟩⟩⟩⟩⟩
theorem ct_X6_drop : Ctr yX6_drop cX6_drop 2 (some .int) 3 68 sp_X6_drop := by
  refine ctr_of (by decide +kernel) ao_X6_drop rfl ?_
  rintro av M Ret ⟨s, k, rfl, hp, hR⟩ hok hM
  exact ⟨Nat.le_of_ble_eq_true rfl, fun Z hZ => b_X6_drop s k (hok _ (List.mem_of_getElem? (i := 1) rfl)) M Ret hp hR hM Z hZ⟩
def sp_X6_setWidth : SP := fun av M Ret => ∃ s : St, ∃ v : Int, av = [mr 0, mi v] ∧ (XR s M ∧ stOk s) ∧ (∀ M2 : Mem, (XR (oSetW s v).2 M2 ∧ ∀ k, 73 ≤ k → M2 k = M k) → Ret (some (mi ((oSetW s v).1))) M2)
theorem k_X6_setWidth {code : List Sem} {Z : KZ} {Ret : KR} {ls : List (Option MV)} {M : Mem} {r : List MV} (hZ : Sim code Z Ret) (ip np : Nat) {s : St} {v : Int} (hc : code[ip]? = some (I_callV 6 1 sp_X6_setWidth)) (hn : ip + 1 = np) (h3 : catS r ≤ 8)  (hp : XR s M ∧ stOk s) (kz : ∀ M2 : Mem, (XR (oSetW s v).2 M2 ∧ ∀ k, 73 ≤ k → M2 k = M k) → Z np ls (mi ((oSetW s v).1) :: r) M2) : Z ip ls (mi v :: mr 0 :: r) M := w_callV1 hZ ip np hc hn rfl rfl h3 ⟨_, _, rfl, hp, fun M2 h => kz M2 h⟩
def cd_X6_setWidth : List Sem := [I_iload 1, I_const (4), I_clt 6, I_iload 1, I_const (40), I_cle 8, I_const (-1000000002), I_iret, I_aload 0, I_get 6 1, I_aload 0, I_get 6 0, I_callV 1 1 sp_X1_remember, I_aload 0, I_get 6 0, I_get 0 6, I_istore 2, I_aload 0, I_get 6 0, I_iload 1, I_puti 0 6, I_iload 2, I_iret]
def pc_X6_setWidth : List Nat := [0, 1, 2, 5, 6, 8, 11, 13, 14, 15, 18, 19, 22, 25, 26, 29, 32, 33, 34, 37, 38, 41, 42]
set_option maxRecDepth 100000 in
set_option maxHeartbeats 4000000 in
theorem b_X6_setWidth (s : St) (v : Int) (i_v : InR v) (M : Mem) (Ret : KR) (hp : XR s M ∧ stOk s) (hR : ∀ M2 : Mem, (XR (oSetW s v).2 M2 ∧ ∀ k, 73 ≤ k → M2 k = M k) → Ret (some (mi ((oSetW s v).1))) M2) (hM : MOk M) (Z : KZ) (hZ : Sim cd_X6_setWidth Z Ret) : Z 0 [some (mr 0), some (mi v), none] [] M := by
  obtain ⟨hx, hv⟩ := hp
  have hB := hx.bx hv
  have hH := hx.2.1
  have fin : ∀ r : Int × St, (oSetW s v) = r → ∀ (x : Int) (M2 : Mem), x = r.1 → (XR r.2 M2 ∧ ∀ k, 73 ≤ k → M2 k = M k) → Ret (some (mi x)) M2 := by
    intro r q x M2 e h; subst e; subst q; exact hR M2 h
  have non : ∀ x : Int, (oSetW s v) = (x, s) → Ret (some (mi x)) M := fun x q => fin _ q x M rfl ⟨hx, fun _ _ => rfl⟩
  refine w_iload hZ 0 1 rfl rfl rfl ?_
  refine w_const hZ 1 2 rfl rfl  ?_
  refine w_clt hZ 2 3 rfl rfl (fun c2 => ?_) (fun c2 => ?_)
  · refine w_const hZ 6 7 rfl rfl  ?_
    refine w_iret hZ 7 rfl ?_
    exact non _ (by unfold oSetW; rw [if_pos (by omega)])
  · refine w_iload hZ 3 4 rfl rfl rfl ?_
    refine w_const hZ 4 5 rfl rfl  ?_
    refine w_cle hZ 5 6 rfl rfl (fun c5 => ?_) (fun c5 => ?_)
    · refine w_aload hZ 8 9 rfl rfl rfl ?_
      refine w_getr hZ 9 10 rfl rfl rfl rfl rfl ?_
      refine w_aload hZ 10 11 rfl rfl rfl ?_
      refine w_getr hZ 11 12 rfl rfl rfl rfl rfl ?_
      refine k_X1_remember hZ 12 13 rfl rfl (Nat.le_of_ble_eq_true rfl) hH (fun M12 p12 => ?_)
      have hx2 := hx.rem hv p12
      have h6 : M12 1 6 = vW (sB s) := hx2.r6
      refine w_aload hZ 13 14 rfl rfl rfl ?_
      refine w_getr hZ 14 15 rfl rfl rfl rfl rfl ?_
      refine w_geti hZ 15 16 rfl rfl rfl rfl rfl ?_
      refine w_st3_2 hZ 16 17 rfl rfl rfl ?_
      refine w_aload hZ 17 18 rfl rfl rfl ?_
      refine w_getr hZ 18 19 rfl rfl rfl rfl rfl ?_
      refine w_iload hZ 19 20 rfl rfl rfl ?_
      refine w_puti hZ 20 21 rfl rfl rfl rfl rfl ?_
      refine w_iload hZ 21 22 rfl rfl rfl ?_
      refine w_iret hZ 22 rfl ?_
      have hz := hx.nx hv p12 (M2 := mup M12 1 6 v) (fun k hk => by funext j; simp [mup_at, show ¬ k = 1 by omega]) (bX_w v)
      rw [hx2.1] at hz
      exact fin _ (by unfold oSetW; rw [if_neg (by omega)]) _ _ h6 hz
    · refine w_const hZ 6 7 rfl rfl  ?_
      refine w_iret hZ 7 rfl ?_
      exact non _ (by unfold oSetW; rw [if_pos (by omega)])
set_option maxRecDepth 100000 in
set_option maxHeartbeats 4000000 in
theorem ao_X6_setWidth : AllOk yX6_setWidth.cls cX6_setWidth 3 3 68 (some .int) none pc_X6_setWidth 0 cd_X6_setWidth := ⟨s_iload_n (k := 1) (by decide +kernel) rfl rfl, ⟨s_iconst (by decide +kernel) rfl ⟨by decide, by decide⟩, ⟨s_clt (off := (9)) (by decide +kernel) rfl rfl, ⟨s_iload_n (k := 1) (by decide +kernel) rfl rfl, ⟨s_bipush (by decide +kernel) rfl ⟨by decide, by decide⟩ (by decide +kernel), ⟨s_cle (off := (6)) (by decide +kernel) rfl rfl, ⟨s_ldc (v := (-1000000002)) tw_2_2 (by decide +kernel) rfl ⟨by decide, by decide⟩ (by decide +kernel), ⟨s_iret rfl (by decide +kernel), ⟨s_aload_n (k := 0) (by decide +kernel) rfl rfl, ⟨s_get (C := RX6) (T := TX6) (N := 10) rfl inT6 (by decide) tw_1_198 (by decide +kernel) rfl, ⟨s_aload_n (k := 0) (by decide +kernel) rfl rfl, ⟨s_get (C := RX6) (T := TX6) (N := 10) rfl inT6 (by decide) tw_1_197 (by decide +kernel) rfl, ⟨s_callV (C := RX1) (T := TX1) (N := 3) rfl ct_X1_remember (by decide) (by decide) ⟨rfl, by decide +kernel, by decide +kernel, by decide +kernel⟩ tw_2_17 tw_2_18 tw_2_19 tw_1_3 tw_2_20 (by decide +kernel) rfl, ⟨s_aload_n (k := 0) (by decide +kernel) rfl rfl, ⟨s_get (C := RX6) (T := TX6) (N := 10) rfl inT6 (by decide) tw_1_197 (by decide +kernel) rfl, ⟨s_get (C := RX0) (T := TX0) (N := 8) rfl inT0 (by decide) tw_1_42 (by decide +kernel) rfl, ⟨s_istore_n (k := 2) (by decide +kernel) rfl rfl, ⟨s_aload_n (k := 0) (by decide +kernel) rfl rfl, ⟨s_get (C := RX6) (T := TX6) (N := 10) rfl inT6 (by decide) tw_1_197 (by decide +kernel) rfl, ⟨s_iload_n (k := 1) (by decide +kernel) rfl rfl, ⟨s_puti (C := RX0) (T := TX0) (N := 8) (tyf := tyX0) rfl inT0 tyX0_ok nmX0 (by decide) rfl rfl tw_1_42 (by decide +kernel) rfl, ⟨s_iload_n (k := 2) (by decide +kernel) rfl rfl, ⟨s_iret rfl (by decide +kernel), trivial⟩⟩⟩⟩⟩⟩⟩⟩⟩⟩⟩⟩⟩⟩⟩⟩⟩⟩⟩⟩⟩⟩⟩
theorem ct_X6_setWidth : Ctr yX6_setWidth cX6_setWidth 3 (some .int) 3 68 sp_X6_setWidth := by
  refine ctr_of (by decide +kernel) ao_X6_setWidth rfl ?_
  rintro av M Ret ⟨s, v, rfl, hp, hR⟩ hok hM
  exact ⟨Nat.le_of_ble_eq_true rfl, fun Z hZ => b_X6_setWidth s v (hok _ (List.mem_of_getElem? (i := 1) rfl)) M Ret hp hR hM Z hZ⟩
def sp_X6_setHeight : SP := fun av M Ret => ∃ s : St, ∃ v : Int, av = [mr 0, mi v] ∧ (XR s M ∧ stOk s) ∧ (∀ M2 : Mem, (XR (oSetP s v).2 M2 ∧ ∀ k, 73 ≤ k → M2 k = M k) → Ret (some (mi ((oSetP s v).1))) M2)
theorem k_X6_setHeight {code : List Sem} {Z : KZ} {Ret : KR} {ls : List (Option MV)} {M : Mem} {r : List MV} (hZ : Sim code Z Ret) (ip np : Nat) {s : St} {v : Int} (hc : code[ip]? = some (I_callV 6 1 sp_X6_setHeight)) (hn : ip + 1 = np) (h3 : catS r ≤ 8)  (hp : XR s M ∧ stOk s) (kz : ∀ M2 : Mem, (XR (oSetP s v).2 M2 ∧ ∀ k, 73 ≤ k → M2 k = M k) → Z np ls (mi ((oSetP s v).1) :: r) M2) : Z ip ls (mi v :: mr 0 :: r) M := w_callV1 hZ ip np hc hn rfl rfl h3 ⟨_, _, rfl, hp, fun M2 h => kz M2 h⟩
def cd_X6_setHeight : List Sem := [I_iload 1, I_const (1), I_clt 6, I_iload 1, I_const (20), I_cle 8, I_const (-1000000002), I_iret, I_aload 0, I_get 6 1, I_aload 0, I_get 6 0, I_callV 1 1 sp_X1_remember, I_aload 0, I_get 6 0, I_get 0 7, I_istore 2, I_aload 0, I_get 6 0, I_iload 1, I_puti 0 7, I_iload 2, I_iret]
def pc_X6_setHeight : List Nat := [0, 1, 2, 5, 6, 8, 11, 13, 14, 15, 18, 19, 22, 25, 26, 29, 32, 33, 34, 37, 38, 41, 42]
set_option maxRecDepth 100000 in
set_option maxHeartbeats 4000000 in
theorem b_X6_setHeight (s : St) (v : Int) (i_v : InR v) (M : Mem) (Ret : KR) (hp : XR s M ∧ stOk s) (hR : ∀ M2 : Mem, (XR (oSetP s v).2 M2 ∧ ∀ k, 73 ≤ k → M2 k = M k) → Ret (some (mi ((oSetP s v).1))) M2) (hM : MOk M) (Z : KZ) (hZ : Sim cd_X6_setHeight Z Ret) : Z 0 [some (mr 0), some (mi v), none] [] M := by
  obtain ⟨hx, hv⟩ := hp
  have hB := hx.bx hv
  have hH := hx.2.1
  have fin : ∀ r : Int × St, (oSetP s v) = r → ∀ (x : Int) (M2 : Mem), x = r.1 → (XR r.2 M2 ∧ ∀ k, 73 ≤ k → M2 k = M k) → Ret (some (mi x)) M2 := by
    intro r q x M2 e h; subst e; subst q; exact hR M2 h
  have non : ∀ x : Int, (oSetP s v) = (x, s) → Ret (some (mi x)) M := fun x q => fin _ q x M rfl ⟨hx, fun _ _ => rfl⟩
  refine w_iload hZ 0 1 rfl rfl rfl ?_
  refine w_const hZ 1 2 rfl rfl  ?_
  refine w_clt hZ 2 3 rfl rfl (fun c2 => ?_) (fun c2 => ?_)
  · refine w_const hZ 6 7 rfl rfl  ?_
    refine w_iret hZ 7 rfl ?_
    exact non _ (by unfold oSetP; rw [if_pos (by omega)])
  · refine w_iload hZ 3 4 rfl rfl rfl ?_
    refine w_const hZ 4 5 rfl rfl  ?_
    refine w_cle hZ 5 6 rfl rfl (fun c5 => ?_) (fun c5 => ?_)
    · refine w_aload hZ 8 9 rfl rfl rfl ?_
      refine w_getr hZ 9 10 rfl rfl rfl rfl rfl ?_
      refine w_aload hZ 10 11 rfl rfl rfl ?_
      refine w_getr hZ 11 12 rfl rfl rfl rfl rfl ?_
      refine k_X1_remember hZ 12 13 rfl rfl (Nat.le_of_ble_eq_true rfl) hH (fun M12 p12 => ?_)
      have hx2 := hx.rem hv p12
      have h6 : M12 1 7 = vP (sB s) := hx2.r7
      refine w_aload hZ 13 14 rfl rfl rfl ?_
      refine w_getr hZ 14 15 rfl rfl rfl rfl rfl ?_
      refine w_geti hZ 15 16 rfl rfl rfl rfl rfl ?_
      refine w_st3_2 hZ 16 17 rfl rfl rfl ?_
      refine w_aload hZ 17 18 rfl rfl rfl ?_
      refine w_getr hZ 18 19 rfl rfl rfl rfl rfl ?_
      refine w_iload hZ 19 20 rfl rfl rfl ?_
      refine w_puti hZ 20 21 rfl rfl rfl rfl rfl ?_
      refine w_iload hZ 21 22 rfl rfl rfl ?_
      refine w_iret hZ 22 rfl ?_
      have hz := hx.nx hv p12 (M2 := mup M12 1 7 v) (fun k hk => by funext j; simp [mup_at, show ¬ k = 1 by omega]) (bX_p v)
      rw [hx2.1] at hz
      exact fin _ (by unfold oSetP; rw [if_neg (by omega)]) _ _ h6 hz
    · refine w_const hZ 6 7 rfl rfl  ?_
      refine w_iret hZ 7 rfl ?_
      exact non _ (by unfold oSetP; rw [if_pos (by omega)])
set_option maxRecDepth 100000 in
set_option maxHeartbeats 4000000 in
theorem ao_X6_setHeight : AllOk yX6_setHeight.cls cX6_setHeight 3 3 68 (some .int) none pc_X6_setHeight 0 cd_X6_setHeight := ⟨s_iload_n (k := 1) (by decide +kernel) rfl rfl, ⟨s_iconst (by decide +kernel) rfl ⟨by decide, by decide⟩, ⟨s_clt (off := (9)) (by decide +kernel) rfl rfl, ⟨s_iload_n (k := 1) (by decide +kernel) rfl rfl, ⟨s_bipush (by decide +kernel) rfl ⟨by decide, by decide⟩ (by decide +kernel), ⟨s_cle (off := (6)) (by decide +kernel) rfl rfl, ⟨s_ldc (v := (-1000000002)) tw_2_2 (by decide +kernel) rfl ⟨by decide, by decide⟩ (by decide +kernel), ⟨s_iret rfl (by decide +kernel), ⟨s_aload_n (k := 0) (by decide +kernel) rfl rfl, ⟨s_get (C := RX6) (T := TX6) (N := 10) rfl inT6 (by decide) tw_1_198 (by decide +kernel) rfl, ⟨s_aload_n (k := 0) (by decide +kernel) rfl rfl, ⟨s_get (C := RX6) (T := TX6) (N := 10) rfl inT6 (by decide) tw_1_197 (by decide +kernel) rfl, ⟨s_callV (C := RX1) (T := TX1) (N := 3) rfl ct_X1_remember (by decide) (by decide) ⟨rfl, by decide +kernel, by decide +kernel, by decide +kernel⟩ tw_2_17 tw_2_18 tw_2_19 tw_1_3 tw_2_20 (by decide +kernel) rfl, ⟨s_aload_n (k := 0) (by decide +kernel) rfl rfl, ⟨s_get (C := RX6) (T := TX6) (N := 10) rfl inT6 (by decide) tw_1_197 (by decide +kernel) rfl, ⟨s_get (C := RX0) (T := TX0) (N := 8) rfl inT0 (by decide) tw_1_44 (by decide +kernel) rfl, ⟨s_istore_n (k := 2) (by decide +kernel) rfl rfl, ⟨s_aload_n (k := 0) (by decide +kernel) rfl rfl, ⟨s_get (C := RX6) (T := TX6) (N := 10) rfl inT6 (by decide) tw_1_197 (by decide +kernel) rfl, ⟨s_iload_n (k := 1) (by decide +kernel) rfl rfl, ⟨s_puti (C := RX0) (T := TX0) (N := 8) (tyf := tyX0) rfl inT0 tyX0_ok nmX0 (by decide) rfl rfl tw_1_44 (by decide +kernel) rfl, ⟨s_iload_n (k := 2) (by decide +kernel) rfl rfl, ⟨s_iret rfl (by decide +kernel), trivial⟩⟩⟩⟩⟩⟩⟩⟩⟩⟩⟩⟩⟩⟩⟩⟩⟩⟩⟩⟩⟩⟩⟩
theorem ct_X6_setHeight : Ctr yX6_setHeight cX6_setHeight 3 (some .int) 3 68 sp_X6_setHeight := by
  refine ctr_of (by decide +kernel) ao_X6_setHeight rfl ?_
  rintro av M Ret ⟨s, v, rfl, hp, hR⟩ hok hM
  exact ⟨Nat.le_of_ble_eq_true rfl, fun Z hZ => b_X6_setHeight s v (hok _ (List.mem_of_getElem? (i := 1) rfl)) M Ret hp hR hM Z hZ⟩
def sp_X6_set : SP := fun av M Ret => ∃ s : St, ∃ w : Int, ∃ v : Int, av = [mr 0, mi w, mi v] ∧ (XR s M ∧ stOk s) ∧ (∀ M2 : Mem, (XR (oSet s w v).2 M2 ∧ ∀ k, 73 ≤ k → M2 k = M k) → Ret (some (mi ((oSet s w v).1))) M2)
theorem k_X6_set {code : List Sem} {Z : KZ} {Ret : KR} {ls : List (Option MV)} {M : Mem} {r : List MV} (hZ : Sim code Z Ret) (ip np : Nat) {s : St} {w v : Int} (hc : code[ip]? = some (I_callV 6 2 sp_X6_set)) (hn : ip + 1 = np) (h3 : catS r ≤ 8)  (hp : XR s M ∧ stOk s) (kz : ∀ M2 : Mem, (XR (oSet s w v).2 M2 ∧ ∀ k, 73 ≤ k → M2 k = M k) → Z np ls (mi ((oSet s w v).1) :: r) M2) : Z ip ls (mi v :: mi w :: mr 0 :: r) M := w_callV2 hZ ip np hc hn rfl rfl h3 ⟨_, _, _, rfl, hp, fun M2 h => kz M2 h⟩
def cd_X6_set : List Sem := [I_iload 1, I_ifne 6, I_aload 0, I_iload 2, I_callV 6 1 sp_X6_setWidth, I_iret, I_iload 1, I_const (1), I_cne 13, I_aload 0, I_iload 2, I_callV 6 1 sp_X6_setHeight, I_iret, I_const (-1000000002), I_iret]
def pc_X6_set : List Nat := [0, 1, 4, 5, 6, 9, 10, 11, 12, 15, 16, 17, 20, 21, 23]
set_option maxRecDepth 100000 in
set_option maxHeartbeats 4000000 in
theorem b_X6_set (s : St) (w : Int) (i_w : InR w) (v : Int) (i_v : InR v) (M : Mem) (Ret : KR) (hp : XR s M ∧ stOk s) (hR : ∀ M2 : Mem, (XR (oSet s w v).2 M2 ∧ ∀ k, 73 ≤ k → M2 k = M k) → Ret (some (mi ((oSet s w v).1))) M2) (hM : MOk M) (Z : KZ) (hZ : Sim cd_X6_set Z Ret) : Z 0 [some (mr 0), some (mi w), some (mi v)] [] M := by
  obtain ⟨hx, hv⟩ := hp
  have hB := hx.bx hv
  have hH := hx.2.1
  have fin : ∀ r : Int × St, (oSet s w v) = r → ∀ (x : Int) (M2 : Mem), x = r.1 → (XR r.2 M2 ∧ ∀ k, 73 ≤ k → M2 k = M k) → Ret (some (mi x)) M2 := by
    intro r q x M2 e h; subst e; subst q; exact hR M2 h
  have non : ∀ x : Int, (oSet s w v) = (x, s) → Ret (some (mi x)) M := fun x q => fin _ q x M rfl ⟨hx, fun _ _ => rfl⟩
  refine w_iload hZ 0 1 rfl rfl rfl ?_
  refine w_ifne hZ 1 2 rfl rfl (fun c1 => ?_) (fun c1 => ?_)
  · refine w_iload hZ 6 7 rfl rfl rfl ?_
    refine w_const hZ 7 8 rfl rfl  ?_
    refine w_cne hZ 8 9 rfl rfl (fun c8 => ?_) (fun c8 => ?_)
    · refine w_const hZ 13 14 rfl rfl  ?_
      refine w_iret hZ 14 rfl ?_
      exact non _ (by unfold oSet; rw [if_neg (by omega), if_neg (by omega)])
    · refine w_aload hZ 9 10 rfl rfl rfl ?_
      refine w_iload hZ 10 11 rfl rfl rfl ?_
      refine k_X6_setHeight hZ 11 12 rfl rfl (Nat.le_of_ble_eq_true rfl) ⟨hx, hv⟩ (fun M11 p11 => ?_)
      refine w_iret hZ 12 rfl ?_
      exact fin _ (by unfold oSet; rw [if_neg (by omega), if_pos (by omega)]) _ _ rfl p11
  · refine w_aload hZ 2 3 rfl rfl rfl ?_
    refine w_iload hZ 3 4 rfl rfl rfl ?_
    refine k_X6_setWidth hZ 4 5 rfl rfl (Nat.le_of_ble_eq_true rfl) ⟨hx, hv⟩ (fun M4 p4 => ?_)
    refine w_iret hZ 5 rfl ?_
    exact fin _ (by unfold oSet; rw [if_pos (by omega)]) _ _ rfl p4
set_option maxRecDepth 100000 in
set_option maxHeartbeats 4000000 in
theorem ao_X6_set : AllOk yX6_set.cls cX6_set 3 4 90 (some .int) none pc_X6_set 0 cd_X6_set := ⟨s_iload_n (k := 1) (by decide +kernel) rfl rfl, ⟨s_ifne (off := (9)) (by decide +kernel) rfl rfl, ⟨s_aload_n (k := 0) (by decide +kernel) rfl rfl, ⟨s_iload_n (k := 2) (by decide +kernel) rfl rfl, ⟨s_callV (C := RX6) (T := TX6) (N := 10) rfl ct_X6_setWidth (by decide) (by decide) ⟨rfl, by decide +kernel, by decide +kernel, by decide +kernel⟩ tw_2_52 tw_2_54 ts_1_0 tw_1_1 tw_2_55 (by decide +kernel) rfl, ⟨s_iret rfl (by decide +kernel), ⟨s_iload_n (k := 1) (by decide +kernel) rfl rfl, ⟨s_iconst (by decide +kernel) rfl ⟨by decide, by decide⟩, ⟨s_cne (off := (9)) (by decide +kernel) rfl rfl, ⟨s_aload_n (k := 0) (by decide +kernel) rfl rfl, ⟨s_iload_n (k := 2) (by decide +kernel) rfl rfl, ⟨s_callV (C := RX6) (T := TX6) (N := 10) rfl ct_X6_setHeight (by decide) (by decide) ⟨rfl, by decide +kernel, by decide +kernel, by decide +kernel⟩ tw_2_56 tw_2_58 ts_1_1 tw_1_1 tw_2_59 (by decide +kernel) rfl, ⟨s_iret rfl (by decide +kernel), ⟨s_ldc (v := (-1000000002)) tw_2_2 (by decide +kernel) rfl ⟨by decide, by decide⟩ (by decide +kernel), ⟨s_iret rfl (by decide +kernel), trivial⟩⟩⟩⟩⟩⟩⟩⟩⟩⟩⟩⟩⟩⟩⟩
theorem ct_X6_set : Ctr yX6_set cX6_set 3 (some .int) 4 90 sp_X6_set := by
  refine ctr_of (by decide +kernel) ao_X6_set rfl ?_
  rintro av M Ret ⟨s, w, v, rfl, hp, hR⟩ hok hM
  exact ⟨Nat.le_of_ble_eq_true rfl, fun Z hZ => b_X6_set s w (hok _ (List.mem_of_getElem? (i := 1) rfl)) v (hok _ (List.mem_of_getElem? (i := 2) rfl)) M Ret hp hR hM Z hZ⟩
def sp_X6_text : SP := fun av M Ret => ∃ s : St, ∃ g : Int, av = [mr 0, mi g] ∧ (XR s M ∧ stOk s) ∧ (∀ M2 : Mem, (XR (oText s g).2 M2 ∧ ∀ k, 73 ≤ k → M2 k = M k) → Ret (some (mi ((oText s g).1))) M2)
theorem k_X6_text {code : List Sem} {Z : KZ} {Ret : KR} {ls : List (Option MV)} {M : Mem} {r : List MV} (hZ : Sim code Z Ret) (ip np : Nat) {s : St} {g : Int} (hc : code[ip]? = some (I_callV 6 1 sp_X6_text)) (hn : ip + 1 = np) (h3 : catS r ≤ 8)  (hp : XR s M ∧ stOk s) (kz : ∀ M2 : Mem, (XR (oText s g).2 M2 ∧ ∀ k, 73 ≤ k → M2 k = M k) → Z np ls (mi ((oText s g).1) :: r) M2) : Z ip ls (mi g :: mr 0 :: r) M := w_callV1 hZ ip np hc hn rfl rfl h3 ⟨_, _, rfl, hp, fun M2 h => kz M2 h⟩
def cd_X6_text : List Sem := [I_iload 1, I_callS 1 sp_X6_isSign, I_ifne 5, I_const (-1000000002), I_iret, I_aload 0, I_get 6 0, I_get 0 5, I_const (120), I_clt 12, I_const (-1000000004), I_iret, I_aload 0, I_get 6 1, I_aload 0, I_get 6 0, I_callV 1 1 sp_X1_remember, I_aload 0, I_get 6 0, I_iload 1, I_callV 0 1 sp_X0_addSign, I_aload 0, I_get 6 0, I_get 0 5, I_iret]
def pc_X6_text : List Nat := [0, 1, 4, 7, 9, 10, 11, 14, 17, 19, 22, 24, 25, 26, 29, 30, 33, 36, 37, 40, 41, 44, 45, 48, 51]
set_option maxRecDepth 100000 in
set_option maxHeartbeats 4000000 in
theorem b_X6_text (s : St) (g : Int) (i_g : InR g) (M : Mem) (Ret : KR) (hp : XR s M ∧ stOk s) (hR : ∀ M2 : Mem, (XR (oText s g).2 M2 ∧ ∀ k, 73 ≤ k → M2 k = M k) → Ret (some (mi ((oText s g).1))) M2) (hM : MOk M) (Z : KZ) (hZ : Sim cd_X6_text Z Ret) : Z 0 [some (mr 0), some (mi g)] [] M := by
  obtain ⟨hx, hv⟩ := hp
  have hB := hx.bx hv
  have hH := hx.2.1
  have fin : ∀ r : Int × St, (oText s g) = r → ∀ (x : Int) (M2 : Mem), x = r.1 → (XR r.2 M2 ∧ ∀ k, 73 ≤ k → M2 k = M k) → Ret (some (mi x)) M2 := by
    intro r q x M2 e h; subst e; subst q; exact hR M2 h
  have non : ∀ x : Int, (oText s g) = (x, s) → Ret (some (mi x)) M := fun x q => fin _ q x M rfl ⟨hx, fun _ _ => rfl⟩
  have h5 := hx.r5
  refine w_iload hZ 0 1 rfl rfl rfl ?_
  refine k_X6_isSign hZ 1 2 rfl rfl (Nat.le_of_ble_eq_true rfl)  ?_
  refine w_ifne hZ 2 3 rfl rfl (fun c2 => ?_) (fun c2 => ?_)
  · refine w_aload hZ 5 6 rfl rfl rfl ?_
    refine w_getr hZ 6 7 rfl rfl rfl rfl rfl ?_
    refine w_geti hZ 7 8 rfl rfl rfl rfl rfl ?_
    refine w_const hZ 8 9 rfl rfl  ?_
    refine w_clt hZ 9 10 rfl rfl (fun c9 => ?_) (fun c9 => ?_)
    · refine w_aload hZ 12 13 rfl rfl rfl ?_
      refine w_getr hZ 13 14 rfl rfl rfl rfl rfl ?_
      refine w_aload hZ 14 15 rfl rfl rfl ?_
      refine w_getr hZ 15 16 rfl rfl rfl rfl rfl ?_
      refine k_X1_remember hZ 16 17 rfl rfl (Nat.le_of_ble_eq_true rfl) hH (fun M16 p16 => ?_)
      refine w_aload hZ 17 18 rfl rfl rfl ?_
      refine w_getr hZ 18 19 rfl rfl rfl rfl rfl ?_
      refine w_iload hZ 19 20 rfl rfl rfl ?_
      refine k_X0_addSign hZ 20 21 rfl rfl (Nat.le_of_ble_eq_true rfl) (XR.bx (hx.rem hv p16) (nx_ok hv hv.1)) (fun M20 p20 => ?_)
      have hx2 := hx.rem hv p16
      have h52 : M16 1 5 = vN (sB s) := hx2.r5
      rw [if_pos (by omega)] at p20
      have hz := hx.nx hv p16 (M2 := M20) (fun k hk => by rw [p20]; funext j; simp [addS, mup_at, show ¬ k = 5 by omega, show ¬ k = 1 by omega]) (by rw [p20, bX_addS (XR.bx hx2 (nx_ok hv hv.1))])
      rw [hx2.1] at hz
      have h53 : M20 1 5 = vN (sB s) + 1 := by rw [hz.1.r5]; rfl
      refine w_aload hZ 21 22 rfl rfl rfl ?_
      refine w_getr hZ 22 23 rfl rfl rfl rfl rfl ?_
      refine w_geti hZ 23 24 rfl rfl rfl rfl rfl ?_
      refine w_iret hZ 24 rfl ?_
      exact fin _ (by unfold oText; rw [if_neg (fun z => z (b2i_e.mp c2)), if_neg (by omega)]) _ _ h53 hz
    · refine w_const hZ 10 11 rfl rfl  ?_
      refine w_iret hZ 11 rfl ?_
      exact non _ (by unfold oText; rw [if_neg (fun z => z (b2i_e.mp c2)), if_pos (by omega)])
  · refine w_const hZ 3 4 rfl rfl  ?_
    refine w_iret hZ 4 rfl ?_
    exact non _ (by unfold oText; rw [if_pos (b2i_z.mp c2)])
set_option maxRecDepth 100000 in
set_option maxHeartbeats 4000000 in
theorem ao_X6_text : AllOk yX6_text.cls cX6_text 2 3 68 (some .int) none pc_X6_text 0 cd_X6_text := ⟨s_iload_n (k := 1) (by decide +kernel) rfl rfl, ⟨s_callS ct_X6_isSign (by decide) (by decide) ⟨by decide +kernel, by decide +kernel, by decide +kernel⟩ tw_2_83 tw_2_84 tw_1_1 tw_2_85 (by decide +kernel) rfl, ⟨s_ifne (off := (6)) (by decide +kernel) rfl rfl, ⟨s_ldc (v := (-1000000002)) tw_2_2 (by decide +kernel) rfl ⟨by decide, by decide⟩ (by decide +kernel), ⟨s_iret rfl (by decide +kernel), ⟨s_aload_n (k := 0) (by decide +kernel) rfl rfl, ⟨s_get (C := RX6) (T := TX6) (N := 10) rfl inT6 (by decide) tw_1_197 (by decide +kernel) rfl, ⟨s_get (C := RX0) (T := TX0) (N := 8) rfl inT0 (by decide) tw_1_40 (by decide +kernel) rfl, ⟨s_bipush (by decide +kernel) rfl ⟨by decide, by decide⟩ (by decide +kernel), ⟨s_clt (off := (6)) (by decide +kernel) rfl rfl, ⟨s_ldc (v := (-1000000004)) tw_2_16 (by decide +kernel) rfl ⟨by decide, by decide⟩ (by decide +kernel), ⟨s_iret rfl (by decide +kernel), ⟨s_aload_n (k := 0) (by decide +kernel) rfl rfl, ⟨s_get (C := RX6) (T := TX6) (N := 10) rfl inT6 (by decide) tw_1_198 (by decide +kernel) rfl, ⟨s_aload_n (k := 0) (by decide +kernel) rfl rfl, ⟨s_get (C := RX6) (T := TX6) (N := 10) rfl inT6 (by decide) tw_1_197 (by decide +kernel) rfl, ⟨s_callV (C := RX1) (T := TX1) (N := 3) rfl ct_X1_remember (by decide) (by decide) ⟨rfl, by decide +kernel, by decide +kernel, by decide +kernel⟩ tw_2_17 tw_2_18 tw_2_19 tw_1_3 tw_2_20 (by decide +kernel) rfl, ⟨s_aload_n (k := 0) (by decide +kernel) rfl rfl, ⟨s_get (C := RX6) (T := TX6) (N := 10) rfl inT6 (by decide) tw_1_197 (by decide +kernel) rfl, ⟨s_iload_n (k := 1) (by decide +kernel) rfl rfl, ⟨s_callV (C := RX0) (T := TX0) (N := 8) rfl ct_X0_addSign (by decide) (by decide) ⟨rfl, by decide +kernel, by decide +kernel, by decide +kernel⟩ tw_2_101 tw_2_102 tw_2_103 tw_1_2 tw_2_104 (by decide +kernel) rfl, ⟨s_aload_n (k := 0) (by decide +kernel) rfl rfl, ⟨s_get (C := RX6) (T := TX6) (N := 10) rfl inT6 (by decide) tw_1_197 (by decide +kernel) rfl, ⟨s_get (C := RX0) (T := TX0) (N := 8) rfl inT0 (by decide) tw_1_40 (by decide +kernel) rfl, ⟨s_iret rfl (by decide +kernel), trivial⟩⟩⟩⟩⟩⟩⟩⟩⟩⟩⟩⟩⟩⟩⟩⟩⟩⟩⟩⟩⟩⟩⟩⟩⟩
theorem ct_X6_text : Ctr yX6_text cX6_text 2 (some .int) 3 68 sp_X6_text := by
  refine ctr_of (by decide +kernel) ao_X6_text rfl ?_
  rintro av M Ret ⟨s, g, rfl, hp, hR⟩ hok hM
  exact ⟨Nat.le_of_ble_eq_true rfl, fun Z hZ => b_X6_text s g (hok _ (List.mem_of_getElem? (i := 1) rfl)) M Ret hp hR hM Z hZ⟩
def sp_X6_wipe : SP := fun av M Ret => ∃ s : St, av = [mr 0] ∧ (XR s M ∧ stOk s) ∧ (∀ M2 : Mem, (XR (oWipe s).2 M2 ∧ ∀ k, 73 ≤ k → M2 k = M k) → Ret (some (mi ((oWipe s).1))) M2)
theorem k_X6_wipe {code : List Sem} {Z : KZ} {Ret : KR} {ls : List (Option MV)} {M : Mem} {r : List MV} (hZ : Sim code Z Ret) (ip np : Nat) {s : St}  (hc : code[ip]? = some (I_callV 6 0 sp_X6_wipe)) (hn : ip + 1 = np) (h3 : catS r ≤ 8)  (hp : XR s M ∧ stOk s) (kz : ∀ M2 : Mem, (XR (oWipe s).2 M2 ∧ ∀ k, 73 ≤ k → M2 k = M k) → Z np ls (mi ((oWipe s).1) :: r) M2) : Z ip ls (mr 0 :: r) M := w_callV0 hZ ip np hc hn rfl rfl h3 ⟨_, rfl, hp, fun M2 h => kz M2 h⟩
def cd_X6_wipe : List Sem := [I_aload 0, I_get 6 1, I_aload 0, I_get 6 0, I_callV 1 1 sp_X1_remember, I_aload 0, I_get 6 0, I_get 0 5, I_istore 1, I_aload 0, I_get 6 0, I_const (0), I_puti 0 5, I_iload 1, I_iret]
def pc_X6_wipe : List Nat := [0, 1, 4, 5, 8, 11, 12, 15, 18, 19, 20, 23, 24, 27, 28]
set_option maxRecDepth 100000 in
set_option maxHeartbeats 4000000 in
theorem b_X6_wipe (s : St)  (M : Mem) (Ret : KR) (hp : XR s M ∧ stOk s) (hR : ∀ M2 : Mem, (XR (oWipe s).2 M2 ∧ ∀ k, 73 ≤ k → M2 k = M k) → Ret (some (mi ((oWipe s).1))) M2) (hM : MOk M) (Z : KZ) (hZ : Sim cd_X6_wipe Z Ret) : Z 0 [some (mr 0), none] [] M := by
  obtain ⟨hx, hv⟩ := hp
  have hB := hx.bx hv
  have hH := hx.2.1
  have fin : ∀ r : Int × St, (oWipe s) = r → ∀ (x : Int) (M2 : Mem), x = r.1 → (XR r.2 M2 ∧ ∀ k, 73 ≤ k → M2 k = M k) → Ret (some (mi x)) M2 := by
    intro r q x M2 e h; subst e; subst q; exact hR M2 h
  have non : ∀ x : Int, (oWipe s) = (x, s) → Ret (some (mi x)) M := fun x q => fin _ q x M rfl ⟨hx, fun _ _ => rfl⟩
  refine w_aload hZ 0 1 rfl rfl rfl ?_
  refine w_getr hZ 1 2 rfl rfl rfl rfl rfl ?_
  refine w_aload hZ 2 3 rfl rfl rfl ?_
  refine w_getr hZ 3 4 rfl rfl rfl rfl rfl ?_
  refine k_X1_remember hZ 4 5 rfl rfl (Nat.le_of_ble_eq_true rfl) hH (fun M4 p4 => ?_)
  have hx2 := hx.rem hv p4
  have h5 : M4 1 5 = vN (sB s) := hx2.r5
  refine w_aload hZ 5 6 rfl rfl rfl ?_
  refine w_getr hZ 6 7 rfl rfl rfl rfl rfl ?_
  refine w_geti hZ 7 8 rfl rfl rfl rfl rfl ?_
  refine w_st2_1 hZ 8 9 rfl rfl rfl ?_
  refine w_aload hZ 9 10 rfl rfl rfl ?_
  refine w_getr hZ 10 11 rfl rfl rfl rfl rfl ?_
  refine w_const hZ 11 12 rfl rfl  ?_
  refine w_puti hZ 12 13 rfl rfl rfl rfl rfl ?_
  refine w_iload hZ 13 14 rfl rfl rfl ?_
  refine w_iret hZ 14 rfl ?_
  have hz := hx.nx hv p4 (M2 := mup M4 1 5 0) (fun k hk => by funext j; simp [mup_at, show ¬ k = 1 by omega]) bX_0
  rw [hx2.1] at hz
  exact fin (vN (sB s), nx s (wp (sB s))) rfl _ _ h5 hz
set_option maxRecDepth 100000 in
set_option maxHeartbeats 4000000 in
theorem ao_X6_wipe : AllOk yX6_wipe.cls cX6_wipe 2 3 68 (some .int) none pc_X6_wipe 0 cd_X6_wipe := ⟨s_aload_n (k := 0) (by decide +kernel) rfl rfl, ⟨s_get (C := RX6) (T := TX6) (N := 10) rfl inT6 (by decide) tw_1_198 (by decide +kernel) rfl, ⟨s_aload_n (k := 0) (by decide +kernel) rfl rfl, ⟨s_get (C := RX6) (T := TX6) (N := 10) rfl inT6 (by decide) tw_1_197 (by decide +kernel) rfl, ⟨s_callV (C := RX1) (T := TX1) (N := 3) rfl ct_X1_remember (by decide) (by decide) ⟨rfl, by decide +kernel, by decide +kernel, by decide +kernel⟩ tw_2_17 tw_2_18 tw_2_19 tw_1_3 tw_2_20 (by decide +kernel) rfl, ⟨s_aload_n (k := 0) (by decide +kernel) rfl rfl, ⟨s_get (C := RX6) (T := TX6) (N := 10) rfl inT6 (by decide) tw_1_197 (by decide +kernel) rfl, ⟨s_get (C := RX0) (T := TX0) (N := 8) rfl inT0 (by decide) tw_1_40 (by decide +kernel) rfl, ⟨s_istore_n (k := 1) (by decide +kernel) rfl rfl, ⟨s_aload_n (k := 0) (by decide +kernel) rfl rfl, ⟨s_get (C := RX6) (T := TX6) (N := 10) rfl inT6 (by decide) tw_1_197 (by decide +kernel) rfl, ⟨s_iconst (by decide +kernel) rfl ⟨by decide, by decide⟩, ⟨s_puti (C := RX0) (T := TX0) (N := 8) (tyf := tyX0) rfl inT0 tyX0_ok nmX0 (by decide) rfl rfl tw_1_40 (by decide +kernel) rfl, ⟨s_iload_n (k := 1) (by decide +kernel) rfl rfl, ⟨s_iret rfl (by decide +kernel), trivial⟩⟩⟩⟩⟩⟩⟩⟩⟩⟩⟩⟩⟩⟩⟩
theorem ct_X6_wipe : Ctr yX6_wipe cX6_wipe 2 (some .int) 3 68 sp_X6_wipe := by
  refine ctr_of (by decide +kernel) ao_X6_wipe rfl ?_
  rintro av M Ret ⟨s, rfl, hp, hR⟩ hok hM
  exact ⟨Nat.le_of_ble_eq_true rfl, fun Z hZ => b_X6_wipe s  M Ret hp hR hM Z hZ⟩
def sp_X6_undo : SP := fun av M Ret => ∃ s : St, av = [mr 0] ∧ (XR s M ∧ stOk s) ∧ (∀ M2 : Mem, (XR (oUndo s).2 M2 ∧ ∀ k, 73 ≤ k → M2 k = M k) → Ret (some (mi ((oUndo s).1))) M2)
theorem k_X6_undo {code : List Sem} {Z : KZ} {Ret : KR} {ls : List (Option MV)} {M : Mem} {r : List MV} (hZ : Sim code Z Ret) (ip np : Nat) {s : St}  (hc : code[ip]? = some (I_callV 6 0 sp_X6_undo)) (hn : ip + 1 = np) (h3 : catS r ≤ 8)  (hp : XR s M ∧ stOk s) (kz : ∀ M2 : Mem, (XR (oUndo s).2 M2 ∧ ∀ k, 73 ≤ k → M2 k = M k) → Z np ls (mi ((oUndo s).1) :: r) M2) : Z ip ls (mr 0 :: r) M := w_callV0 hZ ip np hc hn rfl rfl h3 ⟨_, rfl, hp, fun M2 h => kz M2 h⟩
def cd_X6_undo : List Sem := [I_aload 0, I_get 6 1, I_get 1 2, I_ifne 6, I_const (-1000000003), I_iret, I_aload 0, I_get 6 1, I_aload 0, I_get 6 0, I_callV 1 1 sp_X1_takeBack, I_aload 0, I_get 6 1, I_get 1 2, I_iret]
def pc_X6_undo : List Nat := [0, 1, 4, 7, 10, 12, 13, 14, 17, 18, 21, 24, 25, 28, 31]
set_option maxRecDepth 100000 in
set_option maxHeartbeats 4000000 in
theorem b_X6_undo (s : St)  (M : Mem) (Ret : KR) (hp : XR s M ∧ stOk s) (hR : ∀ M2 : Mem, (XR (oUndo s).2 M2 ∧ ∀ k, 73 ≤ k → M2 k = M k) → Ret (some (mi ((oUndo s).1))) M2) (hM : MOk M) (Z : KZ) (hZ : Sim cd_X6_undo Z Ret) : Z 0 [some (mr 0)] [] M := by
  obtain ⟨hx, hv⟩ := hp
  have hB := hx.bx hv
  have hH := hx.2.1
  have fin : ∀ r : Int × St, (oUndo s) = r → ∀ (x : Int) (M2 : Mem), x = r.1 → (XR r.2 M2 ∧ ∀ k, 73 ≤ k → M2 k = M k) → Ret (some (mi x)) M2 := by
    intro r q x M2 e h; subst e; subst q; exact hR M2 h
  have non : ∀ x : Int, (oUndo s) = (x, s) → Ret (some (mi x)) M := fun x q => fin _ q x M rfl ⟨hx, fun _ _ => rfl⟩
  have h2 := hx.2.2.1
  refine w_aload hZ 0 1 rfl rfl rfl ?_
  refine w_getr hZ 1 2 rfl rfl rfl rfl rfl ?_
  refine w_geti hZ 2 3 rfl rfl rfl rfl rfl ?_
  refine w_ifne hZ 3 4 rfl rfl (fun c3 => ?_) (fun c3 => ?_)
  · refine w_aload hZ 6 7 rfl rfl rfl ?_
    refine w_getr hZ 7 8 rfl rfl rfl rfl rfl ?_
    refine w_aload hZ 8 9 rfl rfl rfl ?_
    refine w_getr hZ 9 10 rfl rfl rfl rfl rfl ?_
    refine k_X1_takeBack hZ 10 11 rfl rfl (Nat.le_of_ble_eq_true rfl) hH (fun M10 p10 => ?_)
    refine w_aload hZ 11 12 rfl rfl rfl ?_
    refine w_getr hZ 12 13 rfl rfl rfl rfl rfl ?_
    refine w_geti hZ 13 14 rfl rfl rfl rfl rfl ?_
    refine w_iret hZ 14 rfl ?_
    cases hh : sH s with
    | nil => rw [hh] at h2; exact absurd h2 c3
    | cons V t =>
      have hz := hx.undo hv hh p10
      refine fin (t.length, (V, t, sI s, sC s, sL s)) (by unfold oUndo; rw [hh]) _ _ hz.2.2.1 ⟨hz, fun k hk => ?_⟩
      unfold tkB at p10
      rw [if_neg (by omega)] at p10
      rw [p10.2.2.2.2.2.2.2.2 k (by omega)]
      funext j; simp [mup_at, show ¬ k = 6 by omega]
  · refine w_const hZ 4 5 rfl rfl  ?_
    refine w_iret hZ 5 rfl ?_
    exact non _ (by unfold oUndo; rw [List.length_eq_zero_iff.mp (by omega : (sH s).length = 0)])
set_option maxRecDepth 100000 in
set_option maxHeartbeats 4000000 in
theorem ao_X6_undo : AllOk yX6_undo.cls cX6_undo 1 3 68 (some .int) none pc_X6_undo 0 cd_X6_undo := ⟨s_aload_n (k := 0) (by decide +kernel) rfl rfl, ⟨s_get (C := RX6) (T := TX6) (N := 10) rfl inT6 (by decide) tw_1_198 (by decide +kernel) rfl, ⟨s_get (C := RX1) (T := TX1) (N := 3) rfl inT1 (by decide) tw_1_75 (by decide +kernel) rfl, ⟨s_ifne (off := (6)) (by decide +kernel) rfl rfl, ⟨s_ldc (v := (-1000000003)) tw_2_15 (by decide +kernel) rfl ⟨by decide, by decide⟩ (by decide +kernel), ⟨s_iret rfl (by decide +kernel), ⟨s_aload_n (k := 0) (by decide +kernel) rfl rfl, ⟨s_get (C := RX6) (T := TX6) (N := 10) rfl inT6 (by decide) tw_1_198 (by decide +kernel) rfl, ⟨s_aload_n (k := 0) (by decide +kernel) rfl rfl, ⟨s_get (C := RX6) (T := TX6) (N := 10) rfl inT6 (by decide) tw_1_197 (by decide +kernel) rfl, ⟨s_callV (C := RX1) (T := TX1) (N := 3) rfl ct_X1_takeBack (by decide) (by decide) ⟨rfl, by decide +kernel, by decide +kernel, by decide +kernel⟩ tw_2_113 tw_2_114 tw_2_115 tw_1_3 tw_2_116 (by decide +kernel) rfl, ⟨s_aload_n (k := 0) (by decide +kernel) rfl rfl, ⟨s_get (C := RX6) (T := TX6) (N := 10) rfl inT6 (by decide) tw_1_198 (by decide +kernel) rfl, ⟨s_get (C := RX1) (T := TX1) (N := 3) rfl inT1 (by decide) tw_1_75 (by decide +kernel) rfl, ⟨s_iret rfl (by decide +kernel), trivial⟩⟩⟩⟩⟩⟩⟩⟩⟩⟩⟩⟩⟩⟩⟩
theorem ct_X6_undo : Ctr yX6_undo cX6_undo 1 (some .int) 3 68 sp_X6_undo := by
  refine ctr_of (by decide +kernel) ao_X6_undo rfl ?_
  rintro av M Ret ⟨s, rfl, hp, hR⟩ hok hM
  exact ⟨Nat.le_of_ble_eq_true rfl, fun Z hZ => b_X6_undo s  M Ret hp hR hM Z hZ⟩
