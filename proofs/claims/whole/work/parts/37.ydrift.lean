/-! THE REFERENCE: LOTS; the RULE of a CELL -/
def sp_X7_lotOf : SP := fun av M Ret => ∃ n : Int, av = [mr 73, mi n] ∧ (0 < M 73 5 ∧ M 73 5 < 2147483647 ∧ 0 < n) ∧ (∀ M2 : Mem, (M2 = mup M 73 5 (lt1 (M 73 5))) → Ret (some (mi (lt1 (M 73 5) % n))) M2)
theorem k_X7_lotOf {code : List Sem} {Z : KZ} {Ret : KR} {ls : List (Option MV)} {M : Mem} {r : List MV} (hZ : Sim code Z Ret) (ip np : Nat) {n : Int} (hc : code[ip]? = some (I_callV 7 1 sp_X7_lotOf)) (hn : ip + 1 = np) (h3 : catS r ≤ 8)  (hp : 0 < M 73 5 ∧ M 73 5 < 2147483647 ∧ 0 < n) (kz : ∀ M2 : Mem, (M2 = mup M 73 5 (lt1 (M 73 5))) → Z np ls (mi (lt1 (M 73 5) % n) :: r) M2) : Z ip ls (mi n :: mr 73 :: r) M := w_callV1 hZ ip np hc hn rfl rfl h3 ⟨_, rfl, hp, fun M2 h => kz M2 h⟩
def cd_X7_lotOf : List Sem := [I_aload 0, I_aload 0, I_get 7 5, I_lconst (16807), I_lmul, I_lconst (2147483647), I_lrem, I_putl 7 5, I_aload 0, I_get 7 5, I_iload 1, I_i2l, I_lrem, I_l2i, I_iret]
def pc_X7_lotOf : List Nat := [0, 1, 2, 5, 8, 9, 12, 13, 16, 17, 20, 21, 22, 23, 24]
set_option maxRecDepth 100000 in
set_option maxHeartbeats 4000000 in
theorem b_X7_lotOf (n : Int) (i_n : InR n) (M : Mem) (Ret : KR) (hp : 0 < M 73 5 ∧ M 73 5 < 2147483647 ∧ 0 < n) (hR : ∀ M2 : Mem, (M2 = mup M 73 5 (lt1 (M 73 5))) → Ret (some (mi (lt1 (M 73 5) % n))) M2) (hM : MOk M) (Z : KZ) (hZ : Sim cd_X7_lotOf Z Ret) : Z 0 [some (mr 73), some (mi n)] [] M := by
  obtain ⟨h0, h1, h2⟩ := hp
  have hl := lt1_ok h0 h1
  have hm : 0 ≤ lt1 (M 73 5) % n ∧ lt1 (M 73 5) % n < n := ⟨Int.emod_nonneg _ (by omega), Int.emod_lt_of_pos _ h2⟩
  have hn := i_n.2
  refine w_aload hZ 0 1 rfl rfl rfl ?_
  refine w_aload hZ 1 2 rfl rfl rfl ?_
  refine w_getl hZ 2 3 rfl rfl rfl rfl rfl ?_
  refine w_lconst hZ 3 4 rfl rfl  ?_
  refine w_lmul hZ 4 5 rfl rfl (by unfold InL; omega) ?_
  refine w_lconst hZ 5 6 rfl rfl  ?_
  refine w_lrem hZ 6 7 rfl rfl (by omega) (by omega) ?_
  refine w_putl hZ 7 8 rfl rfl rfl rfl rfl ?_
  refine w_aload hZ 8 9 rfl rfl rfl ?_
  refine w_getl hZ 9 10 rfl rfl rfl rfl rfl ?_
  show Z 10 _ [ml (lt1 (M 73 5))] _
  refine w_iload hZ 10 11 rfl rfl rfl ?_
  refine w_i2l hZ 11 12 rfl rfl ?_
  refine w_lrem hZ 12 13 rfl rfl (by omega) h2 ?_
  refine w_l2i hZ 13 14 rfl rfl (by unfold InR; omega) ?_
  refine w_iret hZ 14 rfl ?_
  exact hR _ rfl
set_option maxRecDepth 100000 in
set_option maxHeartbeats 4000000 in
theorem ao_X7_lotOf : AllOk yX7_lotOf.cls cX7_lotOf 2 0 0 (some .int) none pc_X7_lotOf 0 cd_X7_lotOf := ⟨s_aload_n (k := 0) (by decide +kernel) rfl rfl, ⟨s_aload_n (k := 0) (by decide +kernel) rfl rfl, ⟨s_get (C := RX7) (T := TX7) (N := 22) rfl inT7 (by decide) tw_3_164 (by decide +kernel) rfl, ⟨s_ldc2 (v := (16807)) tw_4_47 (by decide +kernel) rfl ⟨by decide, by decide⟩ (by decide +kernel), ⟨s_lmul (by decide +kernel) rfl, ⟨s_ldc2 (v := (2147483647)) tw_4_48 (by decide +kernel) rfl ⟨by decide, by decide⟩ (by decide +kernel), ⟨s_lrem (by decide +kernel) rfl, ⟨s_putl (C := RX7) (T := TX7) (N := 22) (tyf := tyX7) rfl inT7 tyX7_ok nmX7 (by decide) rfl rfl tw_3_164 (by decide +kernel) rfl, ⟨s_aload_n (k := 0) (by decide +kernel) rfl rfl, ⟨s_get (C := RX7) (T := TX7) (N := 22) rfl inT7 (by decide) tw_3_164 (by decide +kernel) rfl, ⟨s_iload_n (k := 1) (by decide +kernel) rfl rfl, ⟨s_i2l (by decide +kernel) rfl, ⟨s_lrem (by decide +kernel) rfl, ⟨s_l2i (by decide +kernel) rfl, ⟨s_iret rfl (by decide +kernel), trivial⟩⟩⟩⟩⟩⟩⟩⟩⟩⟩⟩⟩⟩⟩⟩
theorem ct_X7_lotOf : Ctr yX7_lotOf cX7_lotOf 2 (some .int) 0 0 sp_X7_lotOf := by
  refine ctr_of (by decide +kernel) ao_X7_lotOf rfl ?_
  rintro av M Ret ⟨n, rfl, hp, hR⟩ hok hM
  exact ⟨Nat.le_of_ble_eq_true rfl, fun Z hZ => b_X7_lotOf  n (hok _ (List.mem_of_getElem? (i := 1) rfl)) M Ret hp hR hM Z hZ⟩
def sp_X7_drift : SP := fun av M Ret => ∃ s : St, ∃ n : Int, ∃ sd : Int, av = [mr 73, mi n, mi sd] ∧ (YR s M ∧ stOk s) ∧ (∀ M2 : Mem, (YR (oDrift s n sd).2 M2 ∧ ∀ k, k < 73 → M2 k = M k) → Ret (some (mi ((oDrift s n sd).1))) M2)
theorem k_X7_drift {code : List Sem} {Z : KZ} {Ret : KR} {ls : List (Option MV)} {M : Mem} {r : List MV} (hZ : Sim code Z Ret) (ip np : Nat) {s : St} {n sd : Int} (hc : code[ip]? = some (I_callV 7 2 sp_X7_drift)) (hn : ip + 1 = np) (h3 : catS r ≤ 8)  (hp : YR s M ∧ stOk s) (kz : ∀ M2 : Mem, (YR (oDrift s n sd).2 M2 ∧ ∀ k, k < 73 → M2 k = M k) → Z np ls (mi ((oDrift s n sd).1) :: r) M2) : Z ip ls (mi sd :: mi n :: mr 73 :: r) M := w_callV2 hZ ip np hc hn rfl rfl h3 ⟨_, _, _, rfl, hp, fun M2 h => kz M2 h⟩
def cd_X7_drift : List Sem := [I_iload 1, I_i2l, I_lconst (1), I_lconst (12), I_callS 3 sp_X7_in, I_ifeq 12, I_iload 2, I_i2l, I_lconst (1), I_lconst (999999), I_callS 3 sp_X7_in, I_ifne 14, I_const (-1000000002), I_iret, I_aload 0, I_callV 7 0 sp_X7_note, I_aload 0, I_iload 2, I_i2l, I_putl 7 5, I_const (0), I_istore 3, I_const (0), I_istore 4, I_iload 4, I_iload 1, I_cge 81, I_const (2), I_aload 0, I_const (3), I_callV 7 1 sp_X7_lotOf, I_add, I_istore 5, I_const (0), I_istore 6, I_const (0), I_istore 7, I_iload 7, I_iload 5, I_cge 52, I_const (27), I_iload 6, I_mul, I_const (1), I_add, I_aload 0, I_const (5), I_callV 7 1 sp_X7_lotOf, I_add, I_istore 6, I_iinc 7 (1), I_goto 37, I_const (30), I_aload 0, I_const (30), I_callV 7 1 sp_X7_lotOf, I_add, I_istore 7, I_aload 0, I_const (5), I_callV 7 1 sp_X7_lotOf, I_istore 8, I_aload 0, I_iload 6, I_iload 7, I_callV 7 2 sp_X7_isTaken, I_ifne 79, I_aload 0, I_get 7 0, I_const (0), I_iald, I_const (12), I_cge 79, I_aload 0, I_iload 6, I_iload 7, I_iload 8, I_callV 7 3 sp_X7_addRule, I_iinc 3 (1), I_iinc 4 (1), I_goto 24, I_iload 3, I_iret]
def pc_X7_drift : List Nat := [0, 1, 2, 3, 6, 9, 12, 13, 14, 15, 18, 21, 24, 26, 27, 28, 31, 32, 33, 34, 37, 38, 39, 40, 42, 44, 45, 48, 49, 50, 51, 54, 55, 57, 58, 60, 61, 63, 65, 67, 70, 72, 74, 75, 76, 77, 78, 79, 82, 83, 85, 88, 91, 93, 94, 96, 99, 100, 102, 103, 104, 107, 109, 110, 112, 114, 117, 120, 121, 124, 125, 126, 128, 131, 132, 134, 136, 138, 141, 144, 147, 150, 151]
set_option maxRecDepth 100000 in
set_option maxHeartbeats 4000000 in
theorem b_X7_drift (s : St) (n : Int) (i_n : InR n) (sd : Int) (i_sd : InR sd) (M : Mem) (Ret : KR) (hp : YR s M ∧ stOk s) (hR : ∀ M2 : Mem, (YR (oDrift s n sd).2 M2 ∧ ∀ k, k < 73 → M2 k = M k) → Ret (some (mi ((oDrift s n sd).1))) M2) (hM : MOk M) (Z : KZ) (hZ : Sim cd_X7_drift Z Ret) : Z 0 [some (mr 73), some (mi n), some (mi sd), none, none, none, none, none, none] [] M := by
  obtain ⟨hx, hv⟩ := hp
  have hB := hx.yb hv
  have hvo := hx.vo hv
  have hU : 0 ≤ M 73 2 ∧ M 73 2 ≤ 8 := ⟨by rw [hx.2.1]; omega, by rw [hx.2.1]; have := hv.2.1; omega⟩
  have fin : ∀ r : Int × St, (oDrift s n sd) = r → ∀ (x : Int) (M2 : Mem), x = r.1 → (YR r.2 M2 ∧ ∀ k, k < 73 → M2 k = M k) → Ret (some (mi x)) M2 := by
    intro r q x M2 e h; subst e; subst q; exact hR M2 h
  have non : ∀ x : Int, (oDrift s n sd) = (x, s) → Ret (some (mi x)) M := fun x q => fin _ q x M rfl ⟨hx, fun _ _ => rfl⟩
  have loop : ¬ (n < 1 ∨ 12 < n ∨ sd < 1 ∨ 999999 < sd) → ∀ (d : Nat) (i y : Int) (V : BV) (N : Mem), d = (n - i).toNat → 0 ≤ i → i ≤ n → vOk V → 0 < y → y < 2147483647 → N 73 5 = y → YR (nx s V) N → (∀ k, k < 73 → N k = M k) → dft (n - i).toNat V y = dft n.toNat (sB s) sd → Z 24 [some (mr 73), some (mi n), some (mi sd), some (mi (vR V - vR (sB s))), some (mi i), none, none, none, none] [] N := by
    intro hn d
    induction d using Nat.strongRecOn with
    | ind d ih =>
      intro i y V N hd i0 i1 hV y0 y1 hy hxN hf hc
      have hvN := nx_ok hv hV
      have b1 := hV.2.2.1
      have b2 := hV.2.2.2.1
      have b3 := hv.1.2.2.1
      have b4 := hv.1.2.2.2.1
      have yl := lt1_ok y0 y1
      have fin79 : i < n → ∀ (V2 : BV) (y3 z x5 x6 x7 x8 : Int) (N3 : Mem), lotR V y = (V2, y3) → z = vR V2 - vR (sB s) → YR (nx s V2) N3 → N3 73 5 = y3 → (∀ k, k < 73 → N3 k = M k) → Z 79 [some (mr 73), some (mi n), some (mi sd), some (mi z), some (mi i), some (mi x5), some (mi x6), some (mi x7), some (mi x8)] [] N3 := by
        intro hin V2 y3 z x5 x6 x7 x8 N3 hl hz hx3 h5 hf3
        subst hz
        have hlo := lotR_ok hV y0 y1
        rw [hl] at hlo
        refine w_in9_4 hZ 79 80 rfl rfl rfl (by unfold InR; omega) ?_
        refine w_goto hZ 80 24 rfl ?_
        refine w_fg9_5 hZ ?_
        refine w_fg9_6 hZ ?_
        refine w_fg9_7 hZ ?_
        refine w_fg9_8 hZ ?_
        refine ih (n - (i + 1)).toNat (by omega) (i + 1) y3 V2 N3 rfl (by omega) (by omega) hlo.1 hlo.2.1 hlo.2.2 h5 hx3 hf3 ?_
        rw [← hc, show (n - i).toNat = (n - (i + 1)).toNat + 1 by omega]
        show _ = dft (n - (i + 1)).toNat (lotR V y).1 (lotR V y).2
        rw [hl]
      have inner : i < n → ∀ (d : Nat) (j code y2 : Int) (N2 : Mem), d = (2 + lt1 y % 3 - j).toNat → 0 ≤ j → j ≤ 2 + lt1 y % 3 → N2 73 5 = y2 → (∀ k, ¬ k = 73 → N2 k = N k) → (∀ f, ¬ f = 5 → N2 73 f = N 73 f) → 0 < y2 → y2 < 2147483647 → 0 ≤ code → (j ≤ 0 → code ≤ 0) → (j ≤ 1 → code ≤ 5) → (j ≤ 2 → code ≤ 140) → (j ≤ 3 → code ≤ 3785) → code ≤ 102200 → lotC (2 + lt1 y % 3 - j).toNat code y2 = lotC (2 + lt1 y % 3).toNat 0 (lt1 y) → Z 37 [some (mr 73), some (mi n), some (mi sd), some (mi (vR V - vR (sB s))), some (mi i), some (mi (2 + lt1 y % 3)), some (mi code), some (mi j), none] [] N2 := by
        intro hin d
        clear ih hd
        induction d using Nat.strongRecOn with
        | ind d ih =>
          intro j code y2 N2 hd j0 j1 hy2 e1 e2 z0 z1 c0 q0 q1 q2 q3 q4 hlc
          have yy := lt1_ok z0 z1
          refine w_iload hZ 37 38 rfl rfl rfl ?_
          refine w_iload hZ 38 39 rfl rfl rfl ?_
          refine w_cge hZ 39 40 rfl rfl (fun c39 => ?_) (fun c39 => ?_)
          · refine w_const hZ 52 53 rfl rfl  ?_
            refine w_aload hZ 53 54 rfl rfl rfl ?_
            refine w_const hZ 54 55 rfl rfl  ?_
            refine k_X7_lotOf hZ 55 56 rfl rfl (Nat.le_of_ble_eq_true rfl) ⟨by rw [hy2]; exact z0, by rw [hy2]; exact z1, by omega⟩ (fun M55 p55 => ?_)
            rw [hy2] at p55 ⊢
            have m55 : M55 73 5 = lt1 y2 := by rw [p55]; simp [mup_at]
            refine w_add hZ 56 57 rfl rfl (by unfold InR; omega) ?_
            refine w_st9_7 hZ 57 58 rfl rfl rfl ?_
            refine w_aload hZ 58 59 rfl rfl rfl ?_
            refine w_const hZ 59 60 rfl rfl  ?_
            refine k_X7_lotOf hZ 60 61 rfl rfl (Nat.le_of_ble_eq_true rfl) ⟨by rw [m55]; exact yy.1, by rw [m55]; exact yy.2, by omega⟩ (fun M60 p60 => ?_)
            rw [m55] at p60 ⊢
            have m60 : M60 73 5 = lt1 (lt1 y2) := by rw [p60]; simp [mup_at]
            have e60 : ∀ k, ¬ k = 73 → M60 k = N k := fun k hk => by rw [← e1 k hk, p60, p55]; funext q; simp [mup_at, hk]
            have f60 : ∀ f, ¬ f = 5 → M60 73 f = N 73 f := fun f hf => by rw [← e2 f hf, p60, p55]; simp [mup_at, hf]
            have hx4 : YR (nx s V) M60 := hxN.same (fun k hk => e60 k (by omega)) (f60 2 (by omega)) (f60 16 (by omega))
            have hB4 := hx4.yb hvN
            have h40 : M60 74 0 = vR V := hx4.r0
            rw [show (2 + lt1 y % 3 - j).toNat = 0 by omega] at hlc
            have hc' : (code, y2) = lotC (2 + lt1 y % 3).toNat 0 (lt1 y) := hlc
            have hl : lotR V y = (if tkn V code (30 + lt1 y2 % 30) ∨ 12 ≤ vR V then V else aR V code (30 + lt1 y2 % 30) (lt1 (lt1 y2) % 5), lt1 (lt1 y2)) := by unfold lotR; rw [← hc']
            refine w_st9_8 hZ 61 62 rfl rfl rfl ?_
            refine w_aload hZ 62 63 rfl rfl rfl ?_
            refine w_iload hZ 63 64 rfl rfl rfl ?_
            refine w_iload hZ 64 65 rfl rfl rfl ?_
            refine k_X7_isTaken hZ 65 66 rfl rfl (Nat.le_of_ble_eq_true rfl) hB4 ?_
            rw [show YV M60 = V from hx4.1]
            refine w_ifne hZ 66 67 rfl rfl (fun c66 => ?_) (fun c66 => ?_)
            · first
                | (rw [if_pos (Or.inl (b2i_e.mp c66))] at hl; exact fin79 hin _ _ _ _ _ _ _ _ hl rfl hx4 m60 (fun k hk => by rw [e60 k (by omega)]; exact hf k hk))
                | (rw [if_pos (Or.inr (by omega))] at hl; exact fin79 hin _ _ _ _ _ _ _ _ hl rfl hx4 m60 (fun k hk => by rw [e60 k (by omega)]; exact hf k hk))
            · refine w_aload hZ 67 68 rfl rfl rfl ?_
              refine w_getr hZ 68 69 rfl rfl rfl rfl rfl ?_
              refine w_const hZ 69 70 rfl rfl  ?_
              refine w_ialdk hZ 70 71 0 rfl rfl rfl rfl (by decide) ?_
              refine w_const hZ 71 72 rfl rfl  ?_
              refine w_cge hZ 72 73 rfl rfl (fun c72 => ?_) (fun c72 => ?_)
              · first
                  | (rw [if_pos (Or.inl (b2i_e.mp c66))] at hl; exact fin79 hin _ _ _ _ _ _ _ _ hl rfl hx4 m60 (fun k hk => by rw [e60 k (by omega)]; exact hf k hk))
                  | (rw [if_pos (Or.inr (by omega))] at hl; exact fin79 hin _ _ _ _ _ _ _ _ hl rfl hx4 m60 (fun k hk => by rw [e60 k (by omega)]; exact hf k hk))
              · refine w_aload hZ 73 74 rfl rfl rfl ?_
                refine w_iload hZ 74 75 rfl rfl rfl ?_
                refine w_iload hZ 75 76 rfl rfl rfl ?_
                refine w_iload hZ 76 77 rfl rfl rfl ?_
                refine k_X7_addRule hZ 77 78 rfl rfl (Nat.le_of_ble_eq_true rfl) ⟨hB4, by omega⟩ (fun M77 p77 => ?_)
                refine w_in9_3 hZ 78 79 rfl rfl rfl (by unfold InR; omega) ?_
                rw [if_neg (fun z => z.elim (fun z => (b2i_z.mp c66) z) (fun z => by omega))] at hl
                refine fin79 hin _ _ _ _ _ _ _ _ hl (by show vR V - vR (sB s) + 1 = vR V + 1 - vR (sB s); omega) (hx4.book p77.2 (by rw [p77.1, hx4.1]; rfl)) (by rw [p77.2 73 (by omega)]; exact m60) (fun k hk => by rw [p77.2 k (by omega), e60 k (by omega)]; exact hf k hk)
          · refine w_const hZ 40 41 rfl rfl  ?_
            refine w_iload hZ 41 42 rfl rfl rfl ?_
            refine w_mul hZ 42 43 rfl rfl (by unfold InR; omega) ?_
            refine w_const hZ 43 44 rfl rfl  ?_
            refine w_add hZ 44 45 rfl rfl (by unfold InR; omega) ?_
            refine w_aload hZ 45 46 rfl rfl rfl ?_
            refine w_const hZ 46 47 rfl rfl  ?_
            refine k_X7_lotOf hZ 47 48 rfl rfl (Nat.le_of_ble_eq_true rfl) ⟨by rw [hy2]; exact z0, by rw [hy2]; exact z1, by omega⟩ (fun M47 p47 => ?_)
            rw [hy2] at p47 ⊢
            refine w_add hZ 48 49 rfl rfl (by unfold InR; omega) ?_
            refine w_st9_6 hZ 49 50 rfl rfl rfl ?_
            refine w_in9_7 hZ 50 51 rfl rfl rfl (by unfold InR; omega) ?_
            refine w_goto hZ 51 37 rfl ?_
            refine w_fg9_8 hZ ?_
            have d5 : 0 ≤ lt1 y2 % 5 ∧ lt1 y2 % 5 ≤ 4 := by omega
            refine ih (2 + lt1 y % 3 - (j + 1)).toNat (by omega) (j + 1) (27 * code + 1 + lt1 y2 % 5) (lt1 y2) M47 rfl (by omega) (by omega) (by rw [p47]; simp [mup_at]) (fun k hk => by rw [← e1 k hk, p47]; funext q; simp [mup_at, hk]) (fun f hf => by rw [← e2 f hf, p47]; simp [mup_at, hf]) yy.1 yy.2 (by omega) (by omega) (by omega) (by omega) (by omega) (by omega) ?_
            rw [← hlc, show (2 + lt1 y % 3 - j).toNat = (2 + lt1 y % 3 - (j + 1)).toNat + 1 by omega]
            show _ = lotC (2 + lt1 y % 3 - (j + 1)).toNat (code * 27 + 1 + lt1 y2 % 5) (lt1 y2)
            rw [Int.mul_comm 27 code]
      refine w_iload hZ 24 25 rfl rfl rfl ?_
      refine w_iload hZ 25 26 rfl rfl rfl ?_
      refine w_cge hZ 26 27 rfl rfl (fun c26 => ?_) (fun c26 => ?_)
      · refine w_iload hZ 81 82 rfl rfl rfl ?_
        refine w_iret hZ 82 rfl ?_
        rw [show (n - i).toNat = 0 by omega] at hc
        have hc' : V = dft n.toNat (sB s) sd := hc
        exact fin (vR V - vR (sB s), nx s V) (by unfold oDrift; rw [if_neg hn, ← hc']) _ _ rfl ⟨hxN, hf⟩
      · refine w_const hZ 27 28 rfl rfl  ?_
        refine w_aload hZ 28 29 rfl rfl rfl ?_
        refine w_const hZ 29 30 rfl rfl  ?_
        refine k_X7_lotOf hZ 30 31 rfl rfl (Nat.le_of_ble_eq_true rfl) ⟨by rw [hy]; exact y0, by rw [hy]; exact y1, by omega⟩ (fun M30 p30 => ?_)
        rw [hy] at p30 ⊢
        refine w_add hZ 31 32 rfl rfl (by unfold InR; omega) ?_
        refine w_st9_5 hZ 32 33 rfl rfl rfl ?_
        refine w_const hZ 33 34 rfl rfl  ?_
        refine w_st9_6 hZ 34 35 rfl rfl rfl ?_
        refine w_const hZ 35 36 rfl rfl  ?_
        refine w_st9_7 hZ 36 37 rfl rfl rfl ?_
        exact inner (by omega) _ 0 0 (lt1 y) M30 rfl (Int.le_refl _) (by omega) (by rw [p30]; simp [mup_at]) (fun k hk => by rw [p30]; funext q; simp [mup_at, hk]) (fun f hf => by rw [p30]; simp [mup_at, hf]) yl.1 yl.2 (by omega) (by omega) (by omega) (by omega) (by omega) (by omega) (by rw [Int.sub_zero])
  refine w_iload hZ 0 1 rfl rfl rfl ?_
  refine w_i2l hZ 1 2 rfl rfl  ?_
  refine w_lconst hZ 2 3 rfl rfl  ?_
  refine w_lconst hZ 3 4 rfl rfl  ?_
  refine k_X7_in hZ 4 5 rfl rfl (Nat.le_of_ble_eq_true rfl)  ?_
  refine w_ifeq hZ 5 6 rfl rfl (fun c5 => ?_) (fun c5 => ?_)
  · refine w_const hZ 12 13 rfl rfl  ?_
    refine w_iret hZ 13 rfl ?_
    first
      | exact non _ (by unfold oDrift; rw [if_pos (Decidable.byContradiction fun z => (b2i_z.mp c5) ⟨by omega, by omega⟩)])
      | exact non _ (by unfold oDrift; rw [if_pos (Decidable.byContradiction fun z => (b2i_z.mp c11) ⟨by omega, by omega⟩)])
  · refine w_iload hZ 6 7 rfl rfl rfl ?_
    refine w_i2l hZ 7 8 rfl rfl  ?_
    refine w_lconst hZ 8 9 rfl rfl  ?_
    refine w_lconst hZ 9 10 rfl rfl  ?_
    refine k_X7_in hZ 10 11 rfl rfl (Nat.le_of_ble_eq_true rfl)  ?_
    refine w_ifne hZ 11 12 rfl rfl (fun c11 => ?_) (fun c11 => ?_)
    · replace c5 := b2i_e.mp c5
      replace c11 := b2i_e.mp c11
      refine w_aload hZ 14 15 rfl rfl rfl ?_
      refine k_X7_note hZ 15 16 rfl rfl (Nat.le_of_ble_eq_true rfl) hU (fun M15 p15 => ?_)
      refine w_aload hZ 16 17 rfl rfl rfl ?_
      refine w_iload hZ 17 18 rfl rfl rfl ?_
      refine w_i2l hZ 18 19 rfl rfl  ?_
      refine w_putl hZ 19 20 rfl rfl rfl rfl rfl ?_
      refine w_const hZ 20 21 rfl rfl  ?_
      refine w_st9_3 hZ 21 22 rfl rfl rfl ?_
      refine w_const hZ 22 23 rfl rfl  ?_
      refine w_st9_4 hZ 23 24 rfl rfl rfl ?_
      have hx2 := hx.note hv p15
      have z0 : vR (sB s) - vR (sB s) = 0 := Int.sub_self _
      have e := loop (by omega) _ 0 sd (sB s) (mup M15 73 5 sd) rfl (Int.le_refl _) (by omega) hv.1 (by omega) (by omega) (by simp [mup_at]) (hx2.same (fun k hk => by funext q; simp [mup_at, show ¬ k = 73 by omega]) (by simp [mup_at]) (by simp [mup_at])) (fun k hk => by rw [← p15.2.2.1 k (by omega) (by omega)]; funext q; simp [mup_at, show ¬ k = 73 by omega]) (by rw [Int.sub_zero])
      rw [z0] at e
      exact e
    · refine w_const hZ 12 13 rfl rfl  ?_
      refine w_iret hZ 13 rfl ?_
      first
        | exact non _ (by unfold oDrift; rw [if_pos (Decidable.byContradiction fun z => (b2i_z.mp c5) ⟨by omega, by omega⟩)])
        | exact non _ (by unfold oDrift; rw [if_pos (Decidable.byContradiction fun z => (b2i_z.mp c11) ⟨by omega, by omega⟩)])
set_option maxRecDepth 100000 in
set_option maxHeartbeats 4000000 in
theorem ao_X7_drift : AllOk yX7_drift.cls cX7_drift 9 1 25 (some .int) none pc_X7_drift 0 cd_X7_drift := ⟨s_iload_n (k := 1) (by decide +kernel) rfl rfl, ⟨s_i2l (by decide +kernel) rfl, ⟨s_lconst (k := 1) (by decide +kernel) rfl ⟨by decide, by decide⟩ (by decide +kernel), ⟨s_ldc2 (v := (12)) tw_4_41 (by decide +kernel) rfl ⟨by decide, by decide⟩ (by decide +kernel), ⟨s_callS ct_X7_in (by decide) (by decide) ⟨by decide +kernel, by decide +kernel, by decide +kernel⟩ tw_3_234 tw_3_235 tw_1_8 tw_3_236 (by decide +kernel) rfl, ⟨s_ifeq (off := (15)) (by decide +kernel) rfl rfl, ⟨s_iload_n (k := 2) (by decide +kernel) rfl rfl, ⟨s_i2l (by decide +kernel) rfl, ⟨s_lconst (k := 1) (by decide +kernel) rfl ⟨by decide, by decide⟩ (by decide +kernel), ⟨s_ldc2 (v := (999999)) tw_4_42 (by decide +kernel) rfl ⟨by decide, by decide⟩ (by decide +kernel), ⟨s_callS ct_X7_in (by decide) (by decide) ⟨by decide +kernel, by decide +kernel, by decide +kernel⟩ tw_3_234 tw_3_235 tw_1_8 tw_3_236 (by decide +kernel) rfl, ⟨s_ifne (off := (6)) (by decide +kernel) rfl rfl, ⟨s_ldc (v := (-1000000002)) tw_4_7 (by decide +kernel) rfl ⟨by decide, by decide⟩ (by decide +kernel), ⟨s_iret rfl (by decide +kernel), ⟨s_aload_n (k := 0) (by decide +kernel) rfl rfl, ⟨s_callV (C := RX7) (T := TX7) (N := 22) rfl ct_X7_note (by decide) (by decide) ⟨rfl, by decide +kernel, by decide +kernel, by decide +kernel⟩ tw_4_14 tw_4_16 ts_3_4 tw_1_8 tw_4_17 (by decide +kernel) rfl, ⟨s_aload_n (k := 0) (by decide +kernel) rfl rfl, ⟨s_iload_n (k := 2) (by decide +kernel) rfl rfl, ⟨s_i2l (by decide +kernel) rfl, ⟨s_putl (C := RX7) (T := TX7) (N := 22) (tyf := tyX7) rfl inT7 tyX7_ok nmX7 (by decide) rfl rfl tw_3_164 (by decide +kernel) rfl, ⟨s_iconst (by decide +kernel) rfl ⟨by decide, by decide⟩, ⟨s_istore_n (k := 3) (by decide +kernel) rfl rfl, ⟨s_iconst (by decide +kernel) rfl ⟨by decide, by decide⟩, ⟨s_istore (by decide +kernel) rfl, ⟨s_iload (by decide +kernel) rfl, ⟨s_iload_n (k := 1) (by decide +kernel) rfl rfl, ⟨s_cge (off := (105)) (by decide +kernel) rfl rfl, ⟨s_iconst (by decide +kernel) rfl ⟨by decide, by decide⟩, ⟨s_aload_n (k := 0) (by decide +kernel) rfl rfl, ⟨s_iconst (by decide +kernel) rfl ⟨by decide, by decide⟩, ⟨s_callV (C := RX7) (T := TX7) (N := 22) rfl ct_X7_lotOf (by decide) (by decide) ⟨rfl, by decide +kernel, by decide +kernel, by decide +kernel⟩ tw_4_43 tw_4_45 ts_3_7 tw_1_8 tw_4_46 (by decide +kernel) rfl, ⟨s_add (by decide +kernel) rfl, ⟨s_istore (by decide +kernel) rfl, ⟨s_iconst (by decide +kernel) rfl ⟨by decide, by decide⟩, ⟨s_istore (by decide +kernel) rfl, ⟨s_iconst (by decide +kernel) rfl ⟨by decide, by decide⟩, ⟨s_istore (by decide +kernel) rfl, ⟨s_iload (by decide +kernel) rfl, ⟨s_iload (by decide +kernel) rfl, ⟨s_cge (off := (24)) (by decide +kernel) rfl rfl, ⟨s_bipush (by decide +kernel) rfl ⟨by decide, by decide⟩ (by decide +kernel), ⟨s_iload (by decide +kernel) rfl, ⟨s_mul (by decide +kernel) rfl, ⟨s_iconst (by decide +kernel) rfl ⟨by decide, by decide⟩, ⟨s_add (by decide +kernel) rfl, ⟨s_aload_n (k := 0) (by decide +kernel) rfl rfl, ⟨s_iconst (by decide +kernel) rfl ⟨by decide, by decide⟩, ⟨s_callV (C := RX7) (T := TX7) (N := 22) rfl ct_X7_lotOf (by decide) (by decide) ⟨rfl, by decide +kernel, by decide +kernel, by decide +kernel⟩ tw_4_43 tw_4_45 ts_3_7 tw_1_8 tw_4_46 (by decide +kernel) rfl, ⟨s_add (by decide +kernel) rfl, ⟨s_istore (by decide +kernel) rfl, ⟨s_iinc (by decide +kernel) rfl, ⟨s_goto (off := (-25)) (by decide +kernel) rfl, ⟨s_bipush (by decide +kernel) rfl ⟨by decide, by decide⟩ (by decide +kernel), ⟨s_aload_n (k := 0) (by decide +kernel) rfl rfl, ⟨s_bipush (by decide +kernel) rfl ⟨by decide, by decide⟩ (by decide +kernel), ⟨s_callV (C := RX7) (T := TX7) (N := 22) rfl ct_X7_lotOf (by decide) (by decide) ⟨rfl, by decide +kernel, by decide +kernel, by decide +kernel⟩ tw_4_43 tw_4_45 ts_3_7 tw_1_8 tw_4_46 (by decide +kernel) rfl, ⟨s_add (by decide +kernel) rfl, ⟨s_istore (by decide +kernel) rfl, ⟨s_aload_n (k := 0) (by decide +kernel) rfl rfl, ⟨s_iconst (by decide +kernel) rfl ⟨by decide, by decide⟩, ⟨s_callV (C := RX7) (T := TX7) (N := 22) rfl ct_X7_lotOf (by decide) (by decide) ⟨rfl, by decide +kernel, by decide +kernel, by decide +kernel⟩ tw_4_43 tw_4_45 ts_3_7 tw_1_8 tw_4_46 (by decide +kernel) rfl, ⟨s_istore (by decide +kernel) rfl, ⟨s_aload_n (k := 0) (by decide +kernel) rfl rfl, ⟨s_iload (by decide +kernel) rfl, ⟨s_iload (by decide +kernel) rfl, ⟨s_callV (C := RX7) (T := TX7) (N := 22) rfl ct_X7_isTaken (by decide) (by decide) ⟨rfl, by decide +kernel, by decide +kernel, by decide +kernel⟩ tw_4_8 tw_4_10 ts_3_3 tw_1_8 tw_4_11 (by decide +kernel) rfl, ⟨s_ifne (off := (27)) (by decide +kernel) rfl rfl, ⟨s_aload_n (k := 0) (by decide +kernel) rfl rfl, ⟨s_get (C := RX7) (T := TX7) (N := 22) rfl inT7 (by decide) tw_3_159 (by decide +kernel) rfl, ⟨s_iconst (by decide +kernel) rfl ⟨by decide, by decide⟩, ⟨s_iald (by decide +kernel) rfl, ⟨s_bipush (by decide +kernel) rfl ⟨by decide, by decide⟩ (by decide +kernel), ⟨s_cge (off := (16)) (by decide +kernel) rfl rfl, ⟨s_aload_n (k := 0) (by decide +kernel) rfl rfl, ⟨s_iload (by decide +kernel) rfl, ⟨s_iload (by decide +kernel) rfl, ⟨s_iload (by decide +kernel) rfl, ⟨s_callV (C := RX7) (T := TX7) (N := 22) rfl ct_X7_addRule (by decide) (by decide) ⟨rfl, by decide +kernel, by decide +kernel, by decide +kernel⟩ tw_4_18 tw_4_20 ts_3_5 tw_1_8 tw_4_21 (by decide +kernel) rfl, ⟨s_iinc (by decide +kernel) rfl, ⟨s_iinc (by decide +kernel) rfl, ⟨s_goto (off := (-105)) (by decide +kernel) rfl, ⟨s_iload_n (k := 3) (by decide +kernel) rfl rfl, ⟨s_iret rfl (by decide +kernel), trivial⟩⟩⟩⟩⟩⟩⟩⟩⟩⟩⟩⟩⟩⟩⟩⟩⟩⟩⟩⟩⟩⟩⟩⟩⟩⟩⟩⟩⟩⟩⟩⟩⟩⟩⟩⟩⟩⟩⟩⟩⟩⟩⟩⟩⟩⟩⟩⟩⟩⟩⟩⟩⟩⟩⟩⟩⟩⟩⟩⟩⟩⟩⟩⟩⟩⟩⟩⟩⟩⟩⟩⟩⟩⟩⟩⟩⟩⟩⟩⟩⟩⟩⟩
theorem ct_X7_drift : Ctr yX7_drift cX7_drift 9 (some .int) 1 25 sp_X7_drift := by
  refine ctr_of (by decide +kernel) ao_X7_drift rfl ?_
  rintro av M Ret ⟨s, n, sd, rfl, hp, hR⟩ hok hM
  exact ⟨Nat.le_of_ble_eq_true rfl, fun Z hZ => b_X7_drift s n (hok _ (List.mem_of_getElem? (i := 1) rfl)) sd (hok _ (List.mem_of_getElem? (i := 2) rfl)) M Ret hp hR hM Z hZ⟩
def sp_X7_ruleBy : SP := fun av M Ret => ∃ c : Int, av = [mr 73, mi c] ∧ (vOk (YV M)) ∧ (Ret (some (mi (rOf (YV M) c))) M)
theorem k_X7_ruleBy {code : List Sem} {Z : KZ} {Ret : KR} {ls : List (Option MV)} {M : Mem} {r : List MV} (hZ : Sim code Z Ret) (ip np : Nat) {c : Int} (hc : code[ip]? = some (I_callV 7 1 sp_X7_ruleBy)) (hn : ip + 1 = np) (h3 : catS r ≤ 8)  (hp : vOk (YV M)) (kz : Z np ls (mi (rOf (YV M) c) :: r) M) : Z ip ls (mi c :: mr 73 :: r) M := w_callV1 hZ ip np hc hn rfl rfl h3 ⟨_, rfl, hp, kz⟩
def cd_X7_ruleBy : List Sem := [I_const (-1), I_istore 2, I_const (0), I_istore 3, I_iload 3, I_aload 0, I_get 7 0, I_const (0), I_iald, I_cge 24, I_aload 0, I_get 7 0, I_const (13), I_iload 3, I_add, I_iald, I_iload 1, I_cne 20, I_iload 3, I_goto 21, I_iload 2, I_istore 2, I_iinc 3 (1), I_goto 4, I_iload 2, I_iret]
def pc_X7_ruleBy : List Nat := [0, 1, 2, 3, 4, 5, 6, 9, 10, 11, 14, 15, 18, 20, 21, 22, 23, 24, 27, 28, 31, 32, 33, 36, 39, 40]
set_option maxRecDepth 100000 in
set_option maxHeartbeats 4000000 in
theorem b_X7_ruleBy (c : Int) (i_c : InR c) (M : Mem) (Ret : KR) (hp : vOk (YV M)) (hR : Ret (some (mi (rOf (YV M) c))) M) (hM : MOk M) (Z : KZ) (hZ : Sim cd_X7_ruleBy Z Ret) : Z 0 [some (mr 73), some (mi c), none, none] [] M := by
  have hB := hp.yb
  obtain ⟨b1, b2, b3, b4⟩ := hB
  have loop : ∀ (d : Nat) (f k : Int), d = (M 74 0 - k).toNat → 0 ≤ k → k ≤ M 74 0 → Hid ((f = -1 ∧ ∀ j : Int, 0 ≤ j → j < k → ¬ vE (YV M) j.toNat = c) ∨ (0 ≤ f ∧ f < k ∧ vE (YV M) f.toNat = c)) → Z 4 [some (mr 73), some (mi c), some (mi f), some (mi k)] [] M := by
    intro d
    induction d using Nat.strongRecOn with
    | ind d ih =>
      intro f k hd h0 h1 hI
      refine w_iload hZ 4 5 rfl rfl rfl ?_
      refine w_aload hZ 5 6 rfl rfl rfl ?_
      refine w_getr hZ 6 7 rfl rfl rfl rfl rfl ?_
      refine w_const hZ 7 8 rfl rfl  ?_
      refine w_ialdk hZ 8 9 0 rfl rfl rfl rfl (by decide) ?_
      refine w_cge hZ 9 10 rfl rfl (fun c9 => ?_) (fun c9 => ?_)
      · refine w_iload hZ 24 25 rfl rfl rfl ?_
        refine w_iret hZ 25 rfl ?_
        refine ret_i hR ?_
        rcases hI.u with ⟨a, b⟩ | ⟨a, b, e⟩
        · exact fIx_eq b1 (Or.inl ⟨a, fun j j0 j1 => b j j0 (by have : j < M 74 0 := j1; omega)⟩)
        · refine fIx_eq b1 (Or.inr ⟨a, by show f < M 74 0; omega, e, fun j j0 j1 q => ?_⟩)
          have := hp.2.2.2.2.2.2.2.2.1 j.toNat f.toNat (by show ((j.toNat : Nat) : Int) < M 74 0; omega) (by show ((f.toNat : Nat) : Int) < M 74 0; omega) (q.trans e.symm)
          omega
      · refine w_aload hZ 10 11 rfl rfl rfl ?_
        refine w_getr hZ 11 12 rfl rfl rfl rfl rfl ?_
        refine w_const hZ 12 13 rfl rfl  ?_
        refine w_iload hZ 13 14 rfl rfl rfl ?_
        refine w_add hZ 14 15 rfl rfl (by unfold InR; omega) ?_
        refine w_ialdv hZ 15 16 rfl rfl rfl (by omega) (by omega) (v := vE (YV M) k.toNat) (Y_e rfl h0 (by show k < M 74 0; omega)) ?_
        refine w_iload hZ 16 17 rfl rfl rfl ?_
        refine w_cne hZ 17 18 rfl rfl (fun c17 => ?_) (fun c17 => ?_)
        · refine w_iload hZ 20 21 rfl rfl rfl ?_
          refine w_st4_2 hZ 21 22 rfl rfl rfl ?_
          refine w_in4_3 hZ 22 23 rfl rfl rfl (by unfold InR; omega) ?_
          refine w_goto hZ 23 4 rfl ?_
          refine ih (M 74 0 - (k + 1)).toNat (by omega) _ (k + 1) rfl (by omega) (by omega) ?_
          first
            | exact Or.inr ⟨h0, by omega, c17⟩
            | (rcases hI.u with ⟨a, b⟩ | ⟨a, b, e⟩
               · refine Or.inl ⟨a, fun j j0 j1 => ?_⟩
                 by_cases q : j = k
                 · rw [q]; exact c17
                 · exact b j j0 (by omega)
               · exact Or.inr ⟨a, by omega, e⟩)
        · refine w_iload hZ 18 19 rfl rfl rfl ?_
          refine w_goto hZ 19 21 rfl ?_
          refine w_st4_2 hZ 21 22 rfl rfl rfl ?_
          refine w_in4_3 hZ 22 23 rfl rfl rfl (by unfold InR; omega) ?_
          refine w_goto hZ 23 4 rfl ?_
          refine ih (M 74 0 - (k + 1)).toNat (by omega) _ (k + 1) rfl (by omega) (by omega) ?_
          first
            | exact Or.inr ⟨h0, by omega, c17⟩
            | (rcases hI.u with ⟨a, b⟩ | ⟨a, b, e⟩
               · refine Or.inl ⟨a, fun j j0 j1 => ?_⟩
                 by_cases q : j = k
                 · rw [q]; exact c17
                 · exact b j j0 (by omega)
               · exact Or.inr ⟨a, by omega, e⟩)
  refine w_const hZ 0 1 rfl rfl  ?_
  refine w_st4_2 hZ 1 2 rfl rfl rfl ?_
  refine w_const hZ 2 3 rfl rfl  ?_
  refine w_st4_3 hZ 3 4 rfl rfl rfl ?_
  exact loop _ (-1) 0 rfl (Int.le_refl _) b1 (Or.inl ⟨rfl, fun j j0 j1 => absurd j1 (by omega)⟩)
set_option maxRecDepth 100000 in
set_option maxHeartbeats 4000000 in
theorem ao_X7_ruleBy : AllOk yX7_ruleBy.cls cX7_ruleBy 4 0 0 (some .int) none pc_X7_ruleBy 0 cd_X7_ruleBy := ⟨s_iconst (by decide +kernel) rfl ⟨by decide, by decide⟩, ⟨s_istore_n (k := 2) (by decide +kernel) rfl rfl, ⟨s_iconst (by decide +kernel) rfl ⟨by decide, by decide⟩, ⟨s_istore_n (k := 3) (by decide +kernel) rfl rfl, ⟨s_iload_n (k := 3) (by decide +kernel) rfl rfl, ⟨s_aload_n (k := 0) (by decide +kernel) rfl rfl, ⟨s_get (C := RX7) (T := TX7) (N := 22) rfl inT7 (by decide) tw_3_159 (by decide +kernel) rfl, ⟨s_iconst (by decide +kernel) rfl ⟨by decide, by decide⟩, ⟨s_iald (by decide +kernel) rfl, ⟨s_cge (off := (28)) (by decide +kernel) rfl rfl, ⟨s_aload_n (k := 0) (by decide +kernel) rfl rfl, ⟨s_get (C := RX7) (T := TX7) (N := 22) rfl inT7 (by decide) tw_3_159 (by decide +kernel) rfl, ⟨s_bipush (by decide +kernel) rfl ⟨by decide, by decide⟩ (by decide +kernel), ⟨s_iload_n (k := 3) (by decide +kernel) rfl rfl, ⟨s_add (by decide +kernel) rfl, ⟨s_iald (by decide +kernel) rfl, ⟨s_iload_n (k := 1) (by decide +kernel) rfl rfl, ⟨s_cne (off := (7)) (by decide +kernel) rfl rfl, ⟨s_iload_n (k := 3) (by decide +kernel) rfl rfl, ⟨s_goto (off := (4)) (by decide +kernel) rfl, ⟨s_iload_n (k := 2) (by decide +kernel) rfl rfl, ⟨s_istore_n (k := 2) (by decide +kernel) rfl rfl, ⟨s_iinc (by decide +kernel) rfl, ⟨s_goto (off := (-32)) (by decide +kernel) rfl, ⟨s_iload_n (k := 2) (by decide +kernel) rfl rfl, ⟨s_iret rfl (by decide +kernel), trivial⟩⟩⟩⟩⟩⟩⟩⟩⟩⟩⟩⟩⟩⟩⟩⟩⟩⟩⟩⟩⟩⟩⟩⟩⟩⟩
theorem ct_X7_ruleBy : Ctr yX7_ruleBy cX7_ruleBy 4 (some .int) 0 0 sp_X7_ruleBy := by
  refine ctr_of (by decide +kernel) ao_X7_ruleBy rfl ?_
  rintro av M Ret ⟨c, rfl, hp, hR⟩ hok hM
  exact ⟨Nat.le_of_ble_eq_true rfl, fun Z hZ => b_X7_ruleBy  c (hok _ (List.mem_of_getElem? (i := 1) rfl)) M Ret hp hR hM Z hZ⟩
def sp_X7_by : SP := fun av M Ret => ∃ s : St, ∃ c : Int, av = [mr 73, mi c] ∧ (YR s M ∧ stOk s) ∧ (∀ M2 : Mem, (YR s M2 ∧ ∀ k, k < 73 → M2 k = M k) → Ret (some (mi (rBy s c))) M2)
theorem k_X7_by {code : List Sem} {Z : KZ} {Ret : KR} {ls : List (Option MV)} {M : Mem} {r : List MV} (hZ : Sim code Z Ret) (ip np : Nat) {s : St} {c : Int} (hc : code[ip]? = some (I_callV 7 1 sp_X7_by)) (hn : ip + 1 = np) (h3 : catS r ≤ 8)  (hp : YR s M ∧ stOk s) (kz : ∀ M2 : Mem, (YR s M2 ∧ ∀ k, k < 73 → M2 k = M k) → Z np ls (mi (rBy s c) :: r) M2) : Z ip ls (mi c :: mr 73 :: r) M := w_callV1 hZ ip np hc hn rfl rfl h3 ⟨_, _, rfl, hp, fun M2 h => kz M2 h⟩
def cd_X7_by : List Sem := [I_iload 1, I_i2l, I_lconst (0), I_lconst (63), I_callS 3 sp_X7_in, I_ifeq 10, I_aload 0, I_iload 1, I_callV 7 1 sp_X7_ruleBy, I_goto 11, I_const (-1000000002), I_iret]
def pc_X7_by : List Nat := [0, 1, 2, 3, 6, 9, 12, 13, 14, 17, 20, 22]
set_option maxRecDepth 100000 in
set_option maxHeartbeats 4000000 in
theorem b_X7_by (s : St) (c : Int) (i_c : InR c) (M : Mem) (Ret : KR) (hp : YR s M ∧ stOk s) (hR : ∀ M2 : Mem, (YR s M2 ∧ ∀ k, k < 73 → M2 k = M k) → Ret (some (mi (rBy s c))) M2) (hM : MOk M) (Z : KZ) (hZ : Sim cd_X7_by Z Ret) : Z 0 [some (mr 73), some (mi c)] [] M := by
  obtain ⟨hx, hv⟩ := hp
  have hB := hx.yb hv
  have hvo := hx.vo hv
  have h240 : (evN (sB s) (-1)).length ≤ 240 := aEv_240 hv.1 (-1) (i := 0) (Int.le_refl _)
  have h241 : (aEv (sB s) (-1) 0).length ≤ 240 := h240
  have fin : ∀ (x : Int) (M2 : Mem), rBy s c = x → YR s M2 → (∀ k, k < 73 → M2 k = M k) → Ret (some (mi x)) M2 := by
    intro x M2 e h h2; subst e; exact hR M2 ⟨h, h2⟩
  have non : ∀ x : Int, rBy s c = x → Ret (some (mi x)) M := fun x q => fin x M q hx (fun _ _ => rfl)
  refine w_iload hZ 0 1 rfl rfl rfl ?_
  refine w_i2l hZ 1 2 rfl rfl  ?_
  refine w_lconst hZ 2 3 rfl rfl  ?_
  refine w_lconst hZ 3 4 rfl rfl  ?_
  refine k_X7_in hZ 4 5 rfl rfl (Nat.le_of_ble_eq_true rfl)  ?_
  refine w_ifeq hZ 5 6 rfl rfl (fun c5 => ?_) (fun c5 => ?_)
  · refine w_const hZ 10 11 rfl rfl  ?_
    refine w_iret hZ 11 rfl ?_
    first
      | exact non _ (by unfold rBy; rw [if_neg (b2i_z.mp c5)])
      | exact non _ (by unfold rBy; rw [if_pos (b2i_e.mp c5), ← hx.1])
  · refine w_aload hZ 6 7 rfl rfl rfl ?_
    refine w_iload hZ 7 8 rfl rfl rfl ?_
    refine k_X7_ruleBy hZ 8 9 rfl rfl (Nat.le_of_ble_eq_true rfl) hvo ?_
    refine w_goto hZ 9 11 rfl ?_
    refine w_iret hZ 11 rfl ?_
    first
      | exact non _ (by unfold rBy; rw [if_neg (b2i_z.mp c5)])
      | exact non _ (by unfold rBy; rw [if_pos (b2i_e.mp c5), ← hx.1])
set_option maxRecDepth 100000 in
set_option maxHeartbeats 4000000 in
theorem ao_X7_by : AllOk yX7_by.cls cX7_by 2 1 25 (some .int) none pc_X7_by 0 cd_X7_by := ⟨s_iload_n (k := 1) (by decide +kernel) rfl rfl, ⟨s_i2l (by decide +kernel) rfl, ⟨s_lconst (k := 0) (by decide +kernel) rfl ⟨by decide, by decide⟩ (by decide +kernel), ⟨s_ldc2 (v := (63)) tw_4_194 (by decide +kernel) rfl ⟨by decide, by decide⟩ (by decide +kernel), ⟨s_callS ct_X7_in (by decide) (by decide) ⟨by decide +kernel, by decide +kernel, by decide +kernel⟩ tw_3_234 tw_3_235 tw_1_8 tw_3_236 (by decide +kernel) rfl, ⟨s_ifeq (off := (11)) (by decide +kernel) rfl rfl, ⟨s_aload_n (k := 0) (by decide +kernel) rfl rfl, ⟨s_iload_n (k := 1) (by decide +kernel) rfl rfl, ⟨s_callV (C := RX7) (T := TX7) (N := 22) rfl ct_X7_ruleBy (by decide) (by decide) ⟨rfl, by decide +kernel, by decide +kernel, by decide +kernel⟩ tw_4_195 tw_4_197 ts_4_14 tw_1_8 tw_4_198 (by decide +kernel) rfl, ⟨s_goto (off := (5)) (by decide +kernel) rfl, ⟨s_ldc (v := (-1000000002)) tw_4_7 (by decide +kernel) rfl ⟨by decide, by decide⟩ (by decide +kernel), ⟨s_iret rfl (by decide +kernel), trivial⟩⟩⟩⟩⟩⟩⟩⟩⟩⟩⟩⟩
theorem ct_X7_by : Ctr yX7_by cX7_by 2 (some .int) 1 25 sp_X7_by := by
  refine ctr_of (by decide +kernel) ao_X7_by rfl ?_
  rintro av M Ret ⟨s, c, rfl, hp, hR⟩ hok hM
  exact ⟨Nat.le_of_ble_eq_true rfl, fun Z hZ => b_X7_by s c (hok _ (List.mem_of_getElem? (i := 1) rfl)) M Ret hp hR hM Z hZ⟩
