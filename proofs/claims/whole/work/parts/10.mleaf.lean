def sp_X7_in : SP := fun av M Ret => ∃ v : Int, ∃ lo : Int, ∃ hi : Int, av = [ml v, ml lo, ml hi] ∧ (Ret (some (mi (b2i (lo ≤ v ∧ v ≤ hi)))) M)
theorem k_X7_in {code : List Sem} {Z : KZ} {Ret : KR} {ls : List (Option MV)} {M : Mem} {r : List MV} (hZ : Sim code Z Ret) (ip np : Nat) {v lo hi : Int} (hc : code[ip]? = some (I_callS 3 sp_X7_in)) (hn : ip + 1 = np) (h3 : catS r ≤ 8)   (kz : Z np ls (mi (b2i (lo ≤ v ∧ v ≤ hi)) :: r) M) : Z ip ls (ml hi :: ml lo :: ml v :: r) M := w_callS3 hZ ip np hc hn h3 ⟨_, _, _, rfl, kz⟩
def cd_X7_in : List Sem := [I_lload 0, I_lload 2, I_lcmp, I_iflt 10, I_lload 0, I_lload 4, I_lcmp, I_ifgt 10, I_const (1), I_goto 11, I_const (0), I_zret]
def pc_X7_in : List Nat := [0, 1, 2, 3, 6, 7, 9, 10, 13, 14, 17, 18]
set_option maxRecDepth 100000 in
set_option maxHeartbeats 4000000 in
theorem b_X7_in (v : Int) (i_v : InL v) (lo : Int) (i_lo : InL lo) (hi : Int) (i_hi : InL hi) (M : Mem) (Ret : KR)  (hR : Ret (some (mi (b2i (lo ≤ v ∧ v ≤ hi)))) M) (hM : MOk M) (Z : KZ) (hZ : Sim cd_X7_in Z Ret) : Z 0 [some (ml v), none, some (ml lo), none, some (ml hi), none] [] M := by
  refine w_lload hZ 0 1 rfl rfl rfl ?_
  refine w_lload hZ 1 2 rfl rfl rfl ?_
  refine w_lcmp hZ 2 3 rfl rfl  ?_
  refine w_iflt hZ 3 4 rfl rfl (fun c3 => ?_) (fun c3 => ?_)
  · refine w_const hZ 10 11 rfl rfl  ?_
    refine w_zret hZ 11 rfl (by omega) ?_
    exact ret_i hR (by (first | refine b2i_t ?_ | refine b2i_f ?_); (try simp only [isSm, isCp, isLt, isFg, isPC, isSg, isCl, isRC, isLC, isFC, isPCC, b2i_e, b2i_z, cmp3_lt, cmp3_ge, cmp3_gt, cmp3_le] at *); omega)
  · refine w_lload hZ 4 5 rfl rfl rfl ?_
    refine w_lload hZ 5 6 rfl rfl rfl ?_
    refine w_lcmp hZ 6 7 rfl rfl  ?_
    refine w_ifgt hZ 7 8 rfl rfl (fun c7 => ?_) (fun c7 => ?_)
    · refine w_const hZ 10 11 rfl rfl  ?_
      refine w_zret hZ 11 rfl (by omega) ?_
      exact ret_i hR (by (first | refine b2i_t ?_ | refine b2i_f ?_); (try simp only [isSm, isCp, isLt, isFg, isPC, isSg, isCl, isRC, isLC, isFC, isPCC, b2i_e, b2i_z, cmp3_lt, cmp3_ge, cmp3_gt, cmp3_le] at *); omega)
    · refine w_const hZ 8 9 rfl rfl  ?_
      refine w_goto hZ 9 11 rfl ?_
      refine w_zret hZ 11 rfl (by omega) ?_
      exact ret_i hR (by (first | refine b2i_t ?_ | refine b2i_f ?_); (try simp only [isSm, isCp, isLt, isFg, isPC, isSg, isCl, isRC, isLC, isFC, isPCC, b2i_e, b2i_z, cmp3_lt, cmp3_ge, cmp3_gt, cmp3_le] at *); omega)
set_option maxRecDepth 100000 in
set_option maxHeartbeats 4000000 in
theorem ao_X7_in : AllOk yX7_in.cls cX7_in 6 0 0 (some .boolean) none pc_X7_in 0 cd_X7_in := ⟨s_lload_n (k := 0) (by decide +kernel) rfl rfl, ⟨s_lload_n (k := 2) (by decide +kernel) rfl rfl, ⟨s_lcmp (by decide +kernel) rfl, ⟨s_iflt (off := (14)) (by decide +kernel) rfl rfl, ⟨s_lload_n (k := 0) (by decide +kernel) rfl rfl, ⟨s_lload (by decide +kernel) rfl, ⟨s_lcmp (by decide +kernel) rfl, ⟨s_ifgt (off := (7)) (by decide +kernel) rfl rfl, ⟨s_iconst (by decide +kernel) rfl ⟨by decide, by decide⟩, ⟨s_goto (off := (4)) (by decide +kernel) rfl, ⟨s_iconst (by decide +kernel) rfl ⟨by decide, by decide⟩, ⟨s_zret rfl (by decide +kernel), trivial⟩⟩⟩⟩⟩⟩⟩⟩⟩⟩⟩⟩
theorem ct_X7_in : Ctr yX7_in cX7_in 6 (some .boolean) 0 0 sp_X7_in := by
  refine ctr_of (by decide +kernel) ao_X7_in rfl ?_
  rintro av M Ret ⟨v, lo, hi, rfl, hR⟩ hok hM
  exact ⟨Nat.le_of_ble_eq_true rfl, fun Z hZ => b_X7_in  v (hok _ (List.mem_of_getElem? (i := 0) rfl)) lo (hok _ (List.mem_of_getElem? (i := 1) rfl)) hi (hok _ (List.mem_of_getElem? (i := 2) rfl)) M Ret  hR hM Z hZ⟩
def sp_X7_isSmall : SP := fun av M Ret => ∃ s : Int, av = [mi s] ∧ (Ret (some (mi (b2i (isSm s)))) M)
theorem k_X7_isSmall {code : List Sem} {Z : KZ} {Ret : KR} {ls : List (Option MV)} {M : Mem} {r : List MV} (hZ : Sim code Z Ret) (ip np : Nat) {s : Int} (hc : code[ip]? = some (I_callS 1 sp_X7_isSmall)) (hn : ip + 1 = np) (h3 : catS r ≤ 8)   (kz : Z np ls (mi (b2i (isSm s)) :: r) M) : Z ip ls (mi s :: r) M := w_callS1 hZ ip np hc hn h3 ⟨_, rfl, kz⟩
def cd_X7_isSmall : List Sem := [I_iload 0, I_i2l, I_lconst (97), I_lconst (122), I_callS 3 sp_X7_in, I_zret]
def pc_X7_isSmall : List Nat := [0, 1, 2, 5, 8, 11]
set_option maxRecDepth 100000 in
set_option maxHeartbeats 4000000 in
theorem b_X7_isSmall (s : Int) (i_s : InR s) (M : Mem) (Ret : KR)  (hR : Ret (some (mi (b2i (isSm s)))) M) (hM : MOk M) (Z : KZ) (hZ : Sim cd_X7_isSmall Z Ret) : Z 0 [some (mi s)] [] M := by
  refine w_iload hZ 0 1 rfl rfl rfl ?_
  refine w_i2l hZ 1 2 rfl rfl  ?_
  refine w_lconst hZ 2 3 rfl rfl  ?_
  refine w_lconst hZ 3 4 rfl rfl  ?_
  refine k_X7_in hZ 4 5 rfl rfl (Nat.le_of_ble_eq_true rfl)  ?_
  refine w_zret hZ 5 rfl (b2i_01 _) ?_
  exact hR
set_option maxRecDepth 100000 in
set_option maxHeartbeats 4000000 in
theorem ao_X7_isSmall : AllOk yX7_isSmall.cls cX7_isSmall 1 1 25 (some .boolean) none pc_X7_isSmall 0 cd_X7_isSmall := ⟨s_iload_n (k := 0) (by decide +kernel) rfl rfl, ⟨s_i2l (by decide +kernel) rfl, ⟨s_ldc2 (v := (97)) tw_4_62 (by decide +kernel) rfl ⟨by decide, by decide⟩ (by decide +kernel), ⟨s_ldc2 (v := (122)) tw_4_63 (by decide +kernel) rfl ⟨by decide, by decide⟩ (by decide +kernel), ⟨s_callS ct_X7_in (by decide) (by decide) ⟨by decide +kernel, by decide +kernel, by decide +kernel⟩ tw_3_234 tw_3_235 tw_1_8 tw_3_236 (by decide +kernel) rfl, ⟨s_zret rfl (by decide +kernel), trivial⟩⟩⟩⟩⟩⟩
theorem ct_X7_isSmall : Ctr yX7_isSmall cX7_isSmall 1 (some .boolean) 1 25 sp_X7_isSmall := by
  refine ctr_of (by decide +kernel) ao_X7_isSmall rfl ?_
  rintro av M Ret ⟨s, rfl, hR⟩ hok hM
  exact ⟨Nat.le_of_ble_eq_true rfl, fun Z hZ => b_X7_isSmall  s (hok _ (List.mem_of_getElem? (i := 0) rfl)) M Ret  hR hM Z hZ⟩
def sp_X7_isGreat : SP := fun av M Ret => ∃ s : Int, av = [mi s] ∧ (Ret (some (mi (b2i (isCp s)))) M)
theorem k_X7_isGreat {code : List Sem} {Z : KZ} {Ret : KR} {ls : List (Option MV)} {M : Mem} {r : List MV} (hZ : Sim code Z Ret) (ip np : Nat) {s : Int} (hc : code[ip]? = some (I_callS 1 sp_X7_isGreat)) (hn : ip + 1 = np) (h3 : catS r ≤ 8)   (kz : Z np ls (mi (b2i (isCp s)) :: r) M) : Z ip ls (mi s :: r) M := w_callS1 hZ ip np hc hn h3 ⟨_, rfl, kz⟩
def cd_X7_isGreat : List Sem := [I_iload 0, I_i2l, I_lconst (65), I_lconst (90), I_callS 3 sp_X7_in, I_zret]
def pc_X7_isGreat : List Nat := [0, 1, 2, 5, 8, 11]
set_option maxRecDepth 100000 in
set_option maxHeartbeats 4000000 in
theorem b_X7_isGreat (s : Int) (i_s : InR s) (M : Mem) (Ret : KR)  (hR : Ret (some (mi (b2i (isCp s)))) M) (hM : MOk M) (Z : KZ) (hZ : Sim cd_X7_isGreat Z Ret) : Z 0 [some (mi s)] [] M := by
  refine w_iload hZ 0 1 rfl rfl rfl ?_
  refine w_i2l hZ 1 2 rfl rfl  ?_
  refine w_lconst hZ 2 3 rfl rfl  ?_
  refine w_lconst hZ 3 4 rfl rfl  ?_
  refine k_X7_in hZ 4 5 rfl rfl (Nat.le_of_ble_eq_true rfl)  ?_
  refine w_zret hZ 5 rfl (b2i_01 _) ?_
  exact hR
set_option maxRecDepth 100000 in
set_option maxHeartbeats 4000000 in
theorem ao_X7_isGreat : AllOk yX7_isGreat.cls cX7_isGreat 1 1 25 (some .boolean) none pc_X7_isGreat 0 cd_X7_isGreat := ⟨s_iload_n (k := 0) (by decide +kernel) rfl rfl, ⟨s_i2l (by decide +kernel) rfl, ⟨s_ldc2 (v := (65)) tw_4_67 (by decide +kernel) rfl ⟨by decide, by decide⟩ (by decide +kernel), ⟨s_ldc2 (v := (90)) tw_4_68 (by decide +kernel) rfl ⟨by decide, by decide⟩ (by decide +kernel), ⟨s_callS ct_X7_in (by decide) (by decide) ⟨by decide +kernel, by decide +kernel, by decide +kernel⟩ tw_3_234 tw_3_235 tw_1_8 tw_3_236 (by decide +kernel) rfl, ⟨s_zret rfl (by decide +kernel), trivial⟩⟩⟩⟩⟩⟩
theorem ct_X7_isGreat : Ctr yX7_isGreat cX7_isGreat 1 (some .boolean) 1 25 sp_X7_isGreat := by
  refine ctr_of (by decide +kernel) ao_X7_isGreat rfl ?_
  rintro av M Ret ⟨s, rfl, hR⟩ hok hM
  exact ⟨Nat.le_of_ble_eq_true rfl, fun Z hZ => b_X7_isGreat  s (hok _ (List.mem_of_getElem? (i := 0) rfl)) M Ret  hR hM Z hZ⟩
def sp_X7_isFigure : SP := fun av M Ret => ∃ s : Int, av = [mi s] ∧ (Ret (some (mi (b2i (isFg s)))) M)
theorem k_X7_isFigure {code : List Sem} {Z : KZ} {Ret : KR} {ls : List (Option MV)} {M : Mem} {r : List MV} (hZ : Sim code Z Ret) (ip np : Nat) {s : Int} (hc : code[ip]? = some (I_callS 1 sp_X7_isFigure)) (hn : ip + 1 = np) (h3 : catS r ≤ 8)   (kz : Z np ls (mi (b2i (isFg s)) :: r) M) : Z ip ls (mi s :: r) M := w_callS1 hZ ip np hc hn h3 ⟨_, rfl, kz⟩
def cd_X7_isFigure : List Sem := [I_iload 0, I_i2l, I_lconst (48), I_lconst (57), I_callS 3 sp_X7_in, I_zret]
def pc_X7_isFigure : List Nat := [0, 1, 2, 5, 8, 11]
set_option maxRecDepth 100000 in
set_option maxHeartbeats 4000000 in
theorem b_X7_isFigure (s : Int) (i_s : InR s) (M : Mem) (Ret : KR)  (hR : Ret (some (mi (b2i (isFg s)))) M) (hM : MOk M) (Z : KZ) (hZ : Sim cd_X7_isFigure Z Ret) : Z 0 [some (mi s)] [] M := by
  refine w_iload hZ 0 1 rfl rfl rfl ?_
  refine w_i2l hZ 1 2 rfl rfl  ?_
  refine w_lconst hZ 2 3 rfl rfl  ?_
  refine w_lconst hZ 3 4 rfl rfl  ?_
  refine k_X7_in hZ 4 5 rfl rfl (Nat.le_of_ble_eq_true rfl)  ?_
  refine w_zret hZ 5 rfl (b2i_01 _) ?_
  exact hR
set_option maxRecDepth 100000 in
set_option maxHeartbeats 4000000 in
theorem ao_X7_isFigure : AllOk yX7_isFigure.cls cX7_isFigure 1 1 25 (some .boolean) none pc_X7_isFigure 0 cd_X7_isFigure := ⟨s_iload_n (k := 0) (by decide +kernel) rfl rfl, ⟨s_i2l (by decide +kernel) rfl, ⟨s_ldc2 (v := (48)) tw_4_72 (by decide +kernel) rfl ⟨by decide, by decide⟩ (by decide +kernel), ⟨s_ldc2 (v := (57)) tw_4_73 (by decide +kernel) rfl ⟨by decide, by decide⟩ (by decide +kernel), ⟨s_callS ct_X7_in (by decide) (by decide) ⟨by decide +kernel, by decide +kernel, by decide +kernel⟩ tw_3_234 tw_3_235 tw_1_8 tw_3_236 (by decide +kernel) rfl, ⟨s_zret rfl (by decide +kernel), trivial⟩⟩⟩⟩⟩⟩
theorem ct_X7_isFigure : Ctr yX7_isFigure cX7_isFigure 1 (some .boolean) 1 25 sp_X7_isFigure := by
  refine ctr_of (by decide +kernel) ao_X7_isFigure rfl ?_
  rintro av M Ret ⟨s, rfl, hR⟩ hok hM
  exact ⟨Nat.le_of_ble_eq_true rfl, fun Z hZ => b_X7_isFigure  s (hok _ (List.mem_of_getElem? (i := 0) rfl)) M Ret  hR hM Z hZ⟩
def sp_X7_isLetterCell : SP := fun av M Ret => ∃ s : Int, av = [mi s] ∧ (Ret (some (mi (b2i (isLC s)))) M)
theorem k_X7_isLetterCell {code : List Sem} {Z : KZ} {Ret : KR} {ls : List (Option MV)} {M : Mem} {r : List MV} (hZ : Sim code Z Ret) (ip np : Nat) {s : Int} (hc : code[ip]? = some (I_callS 1 sp_X7_isLetterCell)) (hn : ip + 1 = np) (h3 : catS r ≤ 8)   (kz : Z np ls (mi (b2i (isLC s)) :: r) M) : Z ip ls (mi s :: r) M := w_callS1 hZ ip np hc hn h3 ⟨_, rfl, kz⟩
def cd_X7_isLetterCell : List Sem := [I_iload 0, I_i2l, I_lconst (1), I_lconst (26), I_callS 3 sp_X7_in, I_zret]
def pc_X7_isLetterCell : List Nat := [0, 1, 2, 3, 6, 9]
set_option maxRecDepth 100000 in
set_option maxHeartbeats 4000000 in
theorem b_X7_isLetterCell (s : Int) (i_s : InR s) (M : Mem) (Ret : KR)  (hR : Ret (some (mi (b2i (isLC s)))) M) (hM : MOk M) (Z : KZ) (hZ : Sim cd_X7_isLetterCell Z Ret) : Z 0 [some (mi s)] [] M := by
  refine w_iload hZ 0 1 rfl rfl rfl ?_
  refine w_i2l hZ 1 2 rfl rfl  ?_
  refine w_lconst hZ 2 3 rfl rfl  ?_
  refine w_lconst hZ 3 4 rfl rfl  ?_
  refine k_X7_in hZ 4 5 rfl rfl (Nat.le_of_ble_eq_true rfl)  ?_
  refine w_zret hZ 5 rfl (b2i_01 _) ?_
  exact hR
set_option maxRecDepth 100000 in
set_option maxHeartbeats 4000000 in
theorem ao_X7_isLetterCell : AllOk yX7_isLetterCell.cls cX7_isLetterCell 1 1 25 (some .boolean) none pc_X7_isLetterCell 0 cd_X7_isLetterCell := ⟨s_iload_n (k := 0) (by decide +kernel) rfl rfl, ⟨s_i2l (by decide +kernel) rfl, ⟨s_lconst (k := 1) (by decide +kernel) rfl ⟨by decide, by decide⟩ (by decide +kernel), ⟨s_ldc2 (v := (26)) tw_4_226 (by decide +kernel) rfl ⟨by decide, by decide⟩ (by decide +kernel), ⟨s_callS ct_X7_in (by decide) (by decide) ⟨by decide +kernel, by decide +kernel, by decide +kernel⟩ tw_3_234 tw_3_235 tw_1_8 tw_3_236 (by decide +kernel) rfl, ⟨s_zret rfl (by decide +kernel), trivial⟩⟩⟩⟩⟩⟩
theorem ct_X7_isLetterCell : Ctr yX7_isLetterCell cX7_isLetterCell 1 (some .boolean) 1 25 sp_X7_isLetterCell := by
  refine ctr_of (by decide +kernel) ao_X7_isLetterCell rfl ?_
  rintro av M Ret ⟨s, rfl, hR⟩ hok hM
  exact ⟨Nat.le_of_ble_eq_true rfl, fun Z hZ => b_X7_isLetterCell  s (hok _ (List.mem_of_getElem? (i := 0) rfl)) M Ret  hR hM Z hZ⟩
def sp_X7_isFigureCell : SP := fun av M Ret => ∃ s : Int, av = [mi s] ∧ (Ret (some (mi (b2i (isFC s)))) M)
theorem k_X7_isFigureCell {code : List Sem} {Z : KZ} {Ret : KR} {ls : List (Option MV)} {M : Mem} {r : List MV} (hZ : Sim code Z Ret) (ip np : Nat) {s : Int} (hc : code[ip]? = some (I_callS 1 sp_X7_isFigureCell)) (hn : ip + 1 = np) (h3 : catS r ≤ 8)   (kz : Z np ls (mi (b2i (isFC s)) :: r) M) : Z ip ls (mi s :: r) M := w_callS1 hZ ip np hc hn h3 ⟨_, rfl, kz⟩
def cd_X7_isFigureCell : List Sem := [I_iload 0, I_i2l, I_lconst (1), I_lconst (10), I_callS 3 sp_X7_in, I_zret]
def pc_X7_isFigureCell : List Nat := [0, 1, 2, 3, 6, 9]
set_option maxRecDepth 100000 in
set_option maxHeartbeats 4000000 in
theorem b_X7_isFigureCell (s : Int) (i_s : InR s) (M : Mem) (Ret : KR)  (hR : Ret (some (mi (b2i (isFC s)))) M) (hM : MOk M) (Z : KZ) (hZ : Sim cd_X7_isFigureCell Z Ret) : Z 0 [some (mi s)] [] M := by
  refine w_iload hZ 0 1 rfl rfl rfl ?_
  refine w_i2l hZ 1 2 rfl rfl  ?_
  refine w_lconst hZ 2 3 rfl rfl  ?_
  refine w_lconst hZ 3 4 rfl rfl  ?_
  refine k_X7_in hZ 4 5 rfl rfl (Nat.le_of_ble_eq_true rfl)  ?_
  refine w_zret hZ 5 rfl (b2i_01 _) ?_
  exact hR
set_option maxRecDepth 100000 in
set_option maxHeartbeats 4000000 in
theorem ao_X7_isFigureCell : AllOk yX7_isFigureCell.cls cX7_isFigureCell 1 1 25 (some .boolean) none pc_X7_isFigureCell 0 cd_X7_isFigureCell := ⟨s_iload_n (k := 0) (by decide +kernel) rfl rfl, ⟨s_i2l (by decide +kernel) rfl, ⟨s_lconst (k := 1) (by decide +kernel) rfl ⟨by decide, by decide⟩ (by decide +kernel), ⟨s_ldc2 (v := (10)) tw_5_14 (by decide +kernel) rfl ⟨by decide, by decide⟩ (by decide +kernel), ⟨s_callS ct_X7_in (by decide) (by decide) ⟨by decide +kernel, by decide +kernel, by decide +kernel⟩ tw_3_234 tw_3_235 tw_1_8 tw_3_236 (by decide +kernel) rfl, ⟨s_zret rfl (by decide +kernel), trivial⟩⟩⟩⟩⟩⟩
theorem ct_X7_isFigureCell : Ctr yX7_isFigureCell cX7_isFigureCell 1 (some .boolean) 1 25 sp_X7_isFigureCell := by
  refine ctr_of (by decide +kernel) ao_X7_isFigureCell rfl ?_
  rintro av M Ret ⟨s, rfl, hR⟩ hok hM
  exact ⟨Nat.le_of_ble_eq_true rfl, fun Z hZ => b_X7_isFigureCell  s (hok _ (List.mem_of_getElem? (i := 0) rfl)) M Ret  hR hM Z hZ⟩
def sp_X7_isLetter : SP := fun av M Ret => ∃ s : Int, av = [mi s] ∧ (Ret (some (mi (b2i (isLt s)))) M)
theorem k_X7_isLetter {code : List Sem} {Z : KZ} {Ret : KR} {ls : List (Option MV)} {M : Mem} {r : List MV} (hZ : Sim code Z Ret) (ip np : Nat) {s : Int} (hc : code[ip]? = some (I_callS 1 sp_X7_isLetter)) (hn : ip + 1 = np) (h3 : catS r ≤ 8)   (kz : Z np ls (mi (b2i (isLt s)) :: r) M) : Z ip ls (mi s :: r) M := w_callS1 hZ ip np hc hn h3 ⟨_, rfl, kz⟩
def cd_X7_isLetter : List Sem := [I_iload 0, I_callS 1 sp_X7_isSmall, I_ifne 6, I_iload 0, I_callS 1 sp_X7_isGreat, I_ifeq 8, I_const (1), I_goto 9, I_const (0), I_zret]
def pc_X7_isLetter : List Nat := [0, 1, 4, 7, 8, 11, 14, 15, 18, 19]
set_option maxRecDepth 100000 in
set_option maxHeartbeats 4000000 in
theorem b_X7_isLetter (s : Int) (i_s : InR s) (M : Mem) (Ret : KR)  (hR : Ret (some (mi (b2i (isLt s)))) M) (hM : MOk M) (Z : KZ) (hZ : Sim cd_X7_isLetter Z Ret) : Z 0 [some (mi s)] [] M := by
  refine w_iload hZ 0 1 rfl rfl rfl ?_
  refine k_X7_isSmall hZ 1 2 rfl rfl (Nat.le_of_ble_eq_true rfl)  ?_
  refine w_ifne hZ 2 3 rfl rfl (fun c2 => ?_) (fun c2 => ?_)
  · refine w_const hZ 6 7 rfl rfl  ?_
    refine w_goto hZ 7 9 rfl ?_
    refine w_zret hZ 9 rfl (by omega) ?_
    exact ret_i hR (by (first | refine b2i_t ?_ | refine b2i_f ?_); (try simp only [isSm, isCp, isLt, isFg, isPC, isSg, isCl, isRC, isLC, isFC, isPCC, b2i_e, b2i_z, cmp3_lt, cmp3_ge, cmp3_gt, cmp3_le] at *); omega)
  · refine w_iload hZ 3 4 rfl rfl rfl ?_
    refine k_X7_isGreat hZ 4 5 rfl rfl (Nat.le_of_ble_eq_true rfl)  ?_
    refine w_ifeq hZ 5 6 rfl rfl (fun c5 => ?_) (fun c5 => ?_)
    · refine w_const hZ 8 9 rfl rfl  ?_
      refine w_zret hZ 9 rfl (by omega) ?_
      exact ret_i hR (by (first | refine b2i_t ?_ | refine b2i_f ?_); (try simp only [isSm, isCp, isLt, isFg, isPC, isSg, isCl, isRC, isLC, isFC, isPCC, b2i_e, b2i_z, cmp3_lt, cmp3_ge, cmp3_gt, cmp3_le] at *); omega)
    · refine w_const hZ 6 7 rfl rfl  ?_
      refine w_goto hZ 7 9 rfl ?_
      refine w_zret hZ 9 rfl (by omega) ?_
      exact ret_i hR (by (first | refine b2i_t ?_ | refine b2i_f ?_); (try simp only [isSm, isCp, isLt, isFg, isPC, isSg, isCl, isRC, isLC, isFC, isPCC, b2i_e, b2i_z, cmp3_lt, cmp3_ge, cmp3_gt, cmp3_le] at *); omega)
set_option maxRecDepth 100000 in
set_option maxHeartbeats 4000000 in
theorem ao_X7_isLetter : AllOk yX7_isLetter.cls cX7_isLetter 1 2 45 (some .boolean) none pc_X7_isLetter 0 cd_X7_isLetter := ⟨s_iload_n (k := 0) (by decide +kernel) rfl rfl, ⟨s_callS ct_X7_isSmall (by decide) (by decide) ⟨by decide +kernel, by decide +kernel, by decide +kernel⟩ tw_4_59 tw_4_60 tw_1_8 tw_4_61 (by decide +kernel) rfl, ⟨s_ifne (off := (10)) (by decide +kernel) rfl rfl, ⟨s_iload_n (k := 0) (by decide +kernel) rfl rfl, ⟨s_callS ct_X7_isGreat (by decide) (by decide) ⟨by decide +kernel, by decide +kernel, by decide +kernel⟩ tw_4_64 tw_4_65 tw_1_8 tw_4_66 (by decide +kernel) rfl, ⟨s_ifeq (off := (7)) (by decide +kernel) rfl rfl, ⟨s_iconst (by decide +kernel) rfl ⟨by decide, by decide⟩, ⟨s_goto (off := (4)) (by decide +kernel) rfl, ⟨s_iconst (by decide +kernel) rfl ⟨by decide, by decide⟩, ⟨s_zret rfl (by decide +kernel), trivial⟩⟩⟩⟩⟩⟩⟩⟩⟩⟩
theorem ct_X7_isLetter : Ctr yX7_isLetter cX7_isLetter 1 (some .boolean) 2 45 sp_X7_isLetter := by
  refine ctr_of (by decide +kernel) ao_X7_isLetter rfl ?_
  rintro av M Ret ⟨s, rfl, hR⟩ hok hM
  exact ⟨Nat.le_of_ble_eq_true rfl, fun Z hZ => b_X7_isLetter  s (hok _ (List.mem_of_getElem? (i := 0) rfl)) M Ret  hR hM Z hZ⟩
def sp_X7_isSign : SP := fun av M Ret => ∃ s : Int, av = [mi s] ∧ (Ret (some (mi (b2i (isSg s)))) M)
theorem k_X7_isSign {code : List Sem} {Z : KZ} {Ret : KR} {ls : List (Option MV)} {M : Mem} {r : List MV} (hZ : Sim code Z Ret) (ip np : Nat) {s : Int} (hc : code[ip]? = some (I_callS 1 sp_X7_isSign)) (hn : ip + 1 = np) (h3 : catS r ≤ 8)   (kz : Z np ls (mi (b2i (isSg s)) :: r) M) : Z ip ls (mi s :: r) M := w_callS1 hZ ip np hc hn h3 ⟨_, rfl, kz⟩
def cd_X7_isSign : List Sem := [I_iload 0, I_callS 1 sp_X7_isLetter, I_ifne 18, I_iload 0, I_callS 1 sp_X7_isFigure, I_ifne 18, I_iload 0, I_const (46), I_ceq 18, I_iload 0, I_const (44), I_ceq 18, I_iload 0, I_const (45), I_ceq 18, I_iload 0, I_const (32), I_cne 20, I_const (1), I_goto 21, I_const (0), I_zret]
def pc_X7_isSign : List Nat := [0, 1, 4, 7, 8, 11, 14, 15, 17, 20, 21, 23, 26, 27, 29, 32, 33, 35, 38, 39, 42, 43]
set_option maxRecDepth 100000 in
set_option maxHeartbeats 4000000 in
theorem b_X7_isSign (s : Int) (i_s : InR s) (M : Mem) (Ret : KR)  (hR : Ret (some (mi (b2i (isSg s)))) M) (hM : MOk M) (Z : KZ) (hZ : Sim cd_X7_isSign Z Ret) : Z 0 [some (mi s)] [] M := by
  refine w_iload hZ 0 1 rfl rfl rfl ?_
  refine k_X7_isLetter hZ 1 2 rfl rfl (Nat.le_of_ble_eq_true rfl)  ?_
  refine w_ifne hZ 2 3 rfl rfl (fun c2 => ?_) (fun c2 => ?_)
  · refine w_const hZ 18 19 rfl rfl  ?_
    refine w_goto hZ 19 21 rfl ?_
    refine w_zret hZ 21 rfl (by omega) ?_
    exact ret_i hR (by (first | refine b2i_t ?_ | refine b2i_f ?_); (try simp only [isSm, isCp, isLt, isFg, isPC, isSg, isCl, isRC, isLC, isFC, isPCC, b2i_e, b2i_z, cmp3_lt, cmp3_ge, cmp3_gt, cmp3_le] at *); omega)
  · refine w_iload hZ 3 4 rfl rfl rfl ?_
    refine k_X7_isFigure hZ 4 5 rfl rfl (Nat.le_of_ble_eq_true rfl)  ?_
    refine w_ifne hZ 5 6 rfl rfl (fun c5 => ?_) (fun c5 => ?_)
    · refine w_const hZ 18 19 rfl rfl  ?_
      refine w_goto hZ 19 21 rfl ?_
      refine w_zret hZ 21 rfl (by omega) ?_
      exact ret_i hR (by (first | refine b2i_t ?_ | refine b2i_f ?_); (try simp only [isSm, isCp, isLt, isFg, isPC, isSg, isCl, isRC, isLC, isFC, isPCC, b2i_e, b2i_z, cmp3_lt, cmp3_ge, cmp3_gt, cmp3_le] at *); omega)
    · refine w_iload hZ 6 7 rfl rfl rfl ?_
      refine w_const hZ 7 8 rfl rfl  ?_
      refine w_ceq hZ 8 9 rfl rfl (fun c8 => ?_) (fun c8 => ?_)
      · refine w_const hZ 18 19 rfl rfl  ?_
        refine w_goto hZ 19 21 rfl ?_
        refine w_zret hZ 21 rfl (by omega) ?_
        exact ret_i hR (by (first | refine b2i_t ?_ | refine b2i_f ?_); (try simp only [isSm, isCp, isLt, isFg, isPC, isSg, isCl, isRC, isLC, isFC, isPCC, b2i_e, b2i_z, cmp3_lt, cmp3_ge, cmp3_gt, cmp3_le] at *); omega)
      · refine w_iload hZ 9 10 rfl rfl rfl ?_
        refine w_const hZ 10 11 rfl rfl  ?_
        refine w_ceq hZ 11 12 rfl rfl (fun c11 => ?_) (fun c11 => ?_)
        · refine w_const hZ 18 19 rfl rfl  ?_
          refine w_goto hZ 19 21 rfl ?_
          refine w_zret hZ 21 rfl (by omega) ?_
          exact ret_i hR (by (first | refine b2i_t ?_ | refine b2i_f ?_); (try simp only [isSm, isCp, isLt, isFg, isPC, isSg, isCl, isRC, isLC, isFC, isPCC, b2i_e, b2i_z, cmp3_lt, cmp3_ge, cmp3_gt, cmp3_le] at *); omega)
        · refine w_iload hZ 12 13 rfl rfl rfl ?_
          refine w_const hZ 13 14 rfl rfl  ?_
          refine w_ceq hZ 14 15 rfl rfl (fun c14 => ?_) (fun c14 => ?_)
          · refine w_const hZ 18 19 rfl rfl  ?_
            refine w_goto hZ 19 21 rfl ?_
            refine w_zret hZ 21 rfl (by omega) ?_
            exact ret_i hR (by (first | refine b2i_t ?_ | refine b2i_f ?_); (try simp only [isSm, isCp, isLt, isFg, isPC, isSg, isCl, isRC, isLC, isFC, isPCC, b2i_e, b2i_z, cmp3_lt, cmp3_ge, cmp3_gt, cmp3_le] at *); omega)
          · refine w_iload hZ 15 16 rfl rfl rfl ?_
            refine w_const hZ 16 17 rfl rfl  ?_
            refine w_cne hZ 17 18 rfl rfl (fun c17 => ?_) (fun c17 => ?_)
            · refine w_const hZ 20 21 rfl rfl  ?_
              refine w_zret hZ 21 rfl (by omega) ?_
              exact ret_i hR (by (first | refine b2i_t ?_ | refine b2i_f ?_); (try simp only [isSm, isCp, isLt, isFg, isPC, isSg, isCl, isRC, isLC, isFC, isPCC, b2i_e, b2i_z, cmp3_lt, cmp3_ge, cmp3_gt, cmp3_le] at *); omega)
            · refine w_const hZ 18 19 rfl rfl  ?_
              refine w_goto hZ 19 21 rfl ?_
              refine w_zret hZ 21 rfl (by omega) ?_
              exact ret_i hR (by (first | refine b2i_t ?_ | refine b2i_f ?_); (try simp only [isSm, isCp, isLt, isFg, isPC, isSg, isCl, isRC, isLC, isFC, isPCC, b2i_e, b2i_z, cmp3_lt, cmp3_ge, cmp3_gt, cmp3_le] at *); omega)
set_option maxRecDepth 100000 in
set_option maxHeartbeats 4000000 in
theorem ao_X7_isSign : AllOk yX7_isSign.cls cX7_isSign 1 3 65 (some .boolean) none pc_X7_isSign 0 cd_X7_isSign := ⟨s_iload_n (k := 0) (by decide +kernel) rfl rfl, ⟨s_callS ct_X7_isLetter (by decide) (by decide) ⟨by decide +kernel, by decide +kernel, by decide +kernel⟩ tw_4_56 tw_4_57 tw_1_8 tw_4_58 (by decide +kernel) rfl, ⟨s_ifne (off := (34)) (by decide +kernel) rfl rfl, ⟨s_iload_n (k := 0) (by decide +kernel) rfl rfl, ⟨s_callS ct_X7_isFigure (by decide) (by decide) ⟨by decide +kernel, by decide +kernel, by decide +kernel⟩ tw_4_69 tw_4_70 tw_1_8 tw_4_71 (by decide +kernel) rfl, ⟨s_ifne (off := (27)) (by decide +kernel) rfl rfl, ⟨s_iload_n (k := 0) (by decide +kernel) rfl rfl, ⟨s_bipush (by decide +kernel) rfl ⟨by decide, by decide⟩ (by decide +kernel), ⟨s_ceq (off := (21)) (by decide +kernel) rfl rfl, ⟨s_iload_n (k := 0) (by decide +kernel) rfl rfl, ⟨s_bipush (by decide +kernel) rfl ⟨by decide, by decide⟩ (by decide +kernel), ⟨s_ceq (off := (15)) (by decide +kernel) rfl rfl, ⟨s_iload_n (k := 0) (by decide +kernel) rfl rfl, ⟨s_bipush (by decide +kernel) rfl ⟨by decide, by decide⟩ (by decide +kernel), ⟨s_ceq (off := (9)) (by decide +kernel) rfl rfl, ⟨s_iload_n (k := 0) (by decide +kernel) rfl rfl, ⟨s_bipush (by decide +kernel) rfl ⟨by decide, by decide⟩ (by decide +kernel), ⟨s_cne (off := (7)) (by decide +kernel) rfl rfl, ⟨s_iconst (by decide +kernel) rfl ⟨by decide, by decide⟩, ⟨s_goto (off := (4)) (by decide +kernel) rfl, ⟨s_iconst (by decide +kernel) rfl ⟨by decide, by decide⟩, ⟨s_zret rfl (by decide +kernel), trivial⟩⟩⟩⟩⟩⟩⟩⟩⟩⟩⟩⟩⟩⟩⟩⟩⟩⟩⟩⟩⟩⟩
theorem ct_X7_isSign : Ctr yX7_isSign cX7_isSign 1 (some .boolean) 3 65 sp_X7_isSign := by
  refine ctr_of (by decide +kernel) ao_X7_isSign rfl ?_
  rintro av M Ret ⟨s, rfl, hR⟩ hok hM
  exact ⟨Nat.le_of_ble_eq_true rfl, fun Z hZ => b_X7_isSign  s (hok _ (List.mem_of_getElem? (i := 0) rfl)) M Ret  hR hM Z hZ⟩
def sp_X7_lettersOf : SP := fun av M Ret => ∃ c : Int, av = [mi c] ∧ (c < 531441) ∧ (Ret (some (mi (lnC c))) M)
theorem k_X7_lettersOf {code : List Sem} {Z : KZ} {Ret : KR} {ls : List (Option MV)} {M : Mem} {r : List MV} (hZ : Sim code Z Ret) (ip np : Nat) {c : Int} (hc : code[ip]? = some (I_callS 1 sp_X7_lettersOf)) (hn : ip + 1 = np) (h3 : catS r ≤ 8)  (hp : c < 531441) (kz : Z np ls (mi (lnC c) :: r) M) : Z ip ls (mi c :: r) M := w_callS1 hZ ip np hc hn h3 ⟨_, rfl, hp, kz⟩
def cd_X7_lettersOf : List Sem := [I_const (0), I_istore 1, I_iload 0, I_istore 2, I_iload 2, I_ifle 12, I_iinc 1 (1), I_iload 2, I_const (27), I_div, I_istore 2, I_goto 4, I_iload 1, I_iret]
def pc_X7_lettersOf : List Nat := [0, 1, 2, 3, 4, 5, 8, 11, 12, 14, 15, 16, 19, 20]
set_option maxRecDepth 100000 in
set_option maxHeartbeats 4000000 in
theorem b_X7_lettersOf (c : Int) (i_c : InR c) (M : Mem) (Ret : KR) (hp : c < 531441) (hR : Ret (some (mi (lnC c))) M) (hM : MOk M) (Z : KZ) (hZ : Sim cd_X7_lettersOf Z Ret) : Z 0 [some (mi c), none, none] [] M := by
  have loop : ∀ (d : Nat) (n cc : Int), d = cc.toNat → cc < 531441 → 0 ≤ n → n + lnC cc = lnC c → Z 4 [some (mi c), some (mi n), some (mi cc)] [] M := by
    intro d
    induction d using Nat.strongRecOn with
    | ind d ih =>
      intro n cc hd hB hn hs
      have hl4 := lnC_le c
      have hl5 := lnC_le cc
      refine w_iload hZ 4 5 rfl rfl rfl ?_
      refine w_ifle hZ 5 6 rfl rfl (fun c5 => ?_) (fun c5 => ?_)
      · refine w_iload hZ 12 13 rfl rfl rfl ?_
        refine w_iret hZ 13 rfl ?_
        exact ret_i hR (by have e := lnC_0 c5; omega)
      · refine w_in3_1 hZ 6 7 rfl rfl rfl (by unfold InR; omega) ?_
        refine w_iload hZ 7 8 rfl rfl rfl ?_
        refine w_const hZ 8 9 rfl rfl  ?_
        refine w_div hZ 9 10 rfl rfl (by omega) (by omega) ?_
        refine w_st3_2 hZ 10 11 rfl rfl rfl ?_
        refine w_goto hZ 11 4 rfl ?_
        exact ih ((cc / 27).toNat) (by omega) (n + 1) (cc / 27) rfl (by omega) (by omega) (by have := lnC_step c5 hB; omega)
  refine w_const hZ 0 1 rfl rfl  ?_
  refine w_st3_1 hZ 1 2 rfl rfl rfl ?_
  refine w_iload hZ 2 3 rfl rfl rfl ?_
  refine w_st3_2 hZ 3 4 rfl rfl rfl ?_
  exact loop _ 0 c rfl (by omega) (by omega) (by omega)
set_option maxRecDepth 100000 in
set_option maxHeartbeats 4000000 in
theorem ao_X7_lettersOf : AllOk yX7_lettersOf.cls cX7_lettersOf 3 0 0 (some .int) none pc_X7_lettersOf 0 cd_X7_lettersOf := ⟨s_iconst (by decide +kernel) rfl ⟨by decide, by decide⟩, ⟨s_istore_n (k := 1) (by decide +kernel) rfl rfl, ⟨s_iload_n (k := 0) (by decide +kernel) rfl rfl, ⟨s_istore_n (k := 2) (by decide +kernel) rfl rfl, ⟨s_iload_n (k := 2) (by decide +kernel) rfl rfl, ⟨s_ifle (off := (14)) (by decide +kernel) rfl rfl, ⟨s_iinc (by decide +kernel) rfl, ⟨s_iload_n (k := 2) (by decide +kernel) rfl rfl, ⟨s_bipush (by decide +kernel) rfl ⟨by decide, by decide⟩ (by decide +kernel), ⟨s_div (by decide +kernel) rfl, ⟨s_istore_n (k := 2) (by decide +kernel) rfl rfl, ⟨s_goto (off := (-12)) (by decide +kernel) rfl, ⟨s_iload_n (k := 1) (by decide +kernel) rfl rfl, ⟨s_iret rfl (by decide +kernel), trivial⟩⟩⟩⟩⟩⟩⟩⟩⟩⟩⟩⟩⟩⟩
theorem ct_X7_lettersOf : Ctr yX7_lettersOf cX7_lettersOf 3 (some .int) 0 0 sp_X7_lettersOf := by
  refine ctr_of (by decide +kernel) ao_X7_lettersOf rfl ?_
  rintro av M Ret ⟨c, rfl, hp, hR⟩ hok hM
  exact ⟨Nat.le_of_ble_eq_true rfl, fun Z hZ => b_X7_lettersOf  c (hok _ (List.mem_of_getElem? (i := 0) rfl)) M Ret hp hR hM Z hZ⟩
def sp_X7_letterOf : SP := fun av M Ret => ∃ c : Int, ∃ k : Int, av = [mi c, mi k] ∧ (0 ≤ c ∧ c < 531441 ∧ 0 ≤ k ∧ k < lnC c) ∧ (Ret (some (mi (dgC c k + 96))) M)
theorem k_X7_letterOf {code : List Sem} {Z : KZ} {Ret : KR} {ls : List (Option MV)} {M : Mem} {r : List MV} (hZ : Sim code Z Ret) (ip np : Nat) {c k : Int} (hc : code[ip]? = some (I_callS 2 sp_X7_letterOf)) (hn : ip + 1 = np) (h3 : catS r ≤ 8)  (hp : 0 ≤ c ∧ c < 531441 ∧ 0 ≤ k ∧ k < lnC c) (kz : Z np ls (mi (dgC c k + 96) :: r) M) : Z ip ls (mi k :: mi c :: r) M := w_callS2 hZ ip np hc hn h3 ⟨_, _, rfl, hp, kz⟩
def cd_X7_letterOf : List Sem := [I_iload 0, I_istore 2, I_iload 0, I_callS 1 sp_X7_lettersOf, I_const (1), I_sub, I_istore 3, I_iload 3, I_iload 1, I_cle 16, I_iload 2, I_const (27), I_div, I_istore 2, I_iinc 3 (-1), I_goto 7, I_iload 2, I_const (27), I_rem, I_const (96), I_add, I_iret]
def pc_X7_letterOf : List Nat := [0, 1, 2, 3, 6, 7, 8, 9, 10, 11, 14, 15, 17, 18, 19, 22, 25, 26, 28, 29, 31, 32]
set_option maxRecDepth 100000 in
set_option maxHeartbeats 4000000 in
theorem b_X7_letterOf (c : Int) (i_c : InR c) (k : Int) (i_k : InR k) (M : Mem) (Ret : KR) (hp : 0 ≤ c ∧ c < 531441 ∧ 0 ≤ k ∧ k < lnC c) (hR : Ret (some (mi (dgC c k + 96))) M) (hM : MOk M) (Z : KZ) (hZ : Sim cd_X7_letterOf Z Ret) : Z 0 [some (mi c), some (mi k), none, none] [] M := by
  obtain ⟨p0, p1, p2, p3⟩ := hp
  have hl4 := lnC_le c
  have loop : ∀ (d : Nat) (i cc : Int), d = (i - k).toNat → k ≤ i → i ≤ lnC c - 1 → cc = c / p27 (lnC c - 1 - i) → Z 7 [some (mi c), some (mi k), some (mi cc), some (mi i)] [] M := by
    intro d
    induction d using Nat.strongRecOn with
    | ind d ih =>
      intro i cc hd hk hi hcc
      have h0 : 0 ≤ cc := by rw [hcc]; exact Int.ediv_nonneg p0 (Int.le_of_lt (p27_pos _))
      refine w_iload hZ 7 8 rfl rfl rfl ?_
      refine w_iload hZ 8 9 rfl rfl rfl ?_
      refine w_cle hZ 9 10 rfl rfl (fun c9 => ?_) (fun c9 => ?_)
      · refine w_iload hZ 16 17 rfl rfl rfl ?_
        refine w_const hZ 17 18 rfl rfl  ?_
        refine w_rem hZ 18 19 rfl rfl (by omega) (by omega) ?_
        refine w_const hZ 19 20 rfl rfl  ?_
        refine w_add hZ 20 21 rfl rfl (by unfold InR; omega) ?_
        refine w_iret hZ 21 rfl ?_
        exact ret_i hR (by unfold dgC; rw [hcc]; congr 4; omega)
      · refine w_iload hZ 10 11 rfl rfl rfl ?_
        refine w_const hZ 11 12 rfl rfl  ?_
        refine w_div hZ 12 13 rfl rfl (by omega) (by omega) ?_
        refine w_st4_2 hZ 13 14 rfl rfl rfl ?_
        refine w_in4_3 hZ 14 15 rfl rfl rfl (by unfold InR; omega) ?_
        refine w_goto hZ 15 7 rfl ?_
        refine ih ((i + -1 - k).toNat) (by omega) (i + -1) (cc / 27) rfl (by omega) (by omega) ?_
        rw [hcc, p27_div (by omega) (by omega)]
        congr 2
        omega
  refine w_iload hZ 0 1 rfl rfl rfl ?_
  refine w_st4_2 hZ 1 2 rfl rfl rfl ?_
  refine w_iload hZ 2 3 rfl rfl rfl ?_
  refine k_X7_lettersOf hZ 3 4 rfl rfl (Nat.le_of_ble_eq_true rfl) p1 ?_
  refine w_const hZ 4 5 rfl rfl  ?_
  refine w_sub hZ 5 6 rfl rfl (by unfold InR; omega) ?_
  refine w_st4_3 hZ 6 7 rfl rfl rfl ?_
  exact loop _ _ c rfl (by omega) (by omega) (by simp [p27])
set_option maxRecDepth 100000 in
set_option maxHeartbeats 4000000 in
theorem ao_X7_letterOf : AllOk yX7_letterOf.cls cX7_letterOf 4 1 22 (some .int) none pc_X7_letterOf 0 cd_X7_letterOf := ⟨s_iload_n (k := 0) (by decide +kernel) rfl rfl, ⟨s_istore_n (k := 2) (by decide +kernel) rfl rfl, ⟨s_iload_n (k := 0) (by decide +kernel) rfl rfl, ⟨s_callS ct_X7_lettersOf (by decide) (by decide) ⟨by decide +kernel, by decide +kernel, by decide +kernel⟩ tw_3_237 tw_3_238 tw_1_8 tw_3_239 (by decide +kernel) rfl, ⟨s_iconst (by decide +kernel) rfl ⟨by decide, by decide⟩, ⟨s_sub (by decide +kernel) rfl, ⟨s_istore_n (k := 3) (by decide +kernel) rfl rfl, ⟨s_iload_n (k := 3) (by decide +kernel) rfl rfl, ⟨s_iload_n (k := 1) (by decide +kernel) rfl rfl, ⟨s_cle (off := (14)) (by decide +kernel) rfl rfl, ⟨s_iload_n (k := 2) (by decide +kernel) rfl rfl, ⟨s_bipush (by decide +kernel) rfl ⟨by decide, by decide⟩ (by decide +kernel), ⟨s_div (by decide +kernel) rfl, ⟨s_istore_n (k := 2) (by decide +kernel) rfl rfl, ⟨s_iinc (by decide +kernel) rfl, ⟨s_goto (off := (-13)) (by decide +kernel) rfl, ⟨s_iload_n (k := 2) (by decide +kernel) rfl rfl, ⟨s_bipush (by decide +kernel) rfl ⟨by decide, by decide⟩ (by decide +kernel), ⟨s_rem (by decide +kernel) rfl, ⟨s_bipush (by decide +kernel) rfl ⟨by decide, by decide⟩ (by decide +kernel), ⟨s_add (by decide +kernel) rfl, ⟨s_iret rfl (by decide +kernel), trivial⟩⟩⟩⟩⟩⟩⟩⟩⟩⟩⟩⟩⟩⟩⟩⟩⟩⟩⟩⟩⟩⟩
theorem ct_X7_letterOf : Ctr yX7_letterOf cX7_letterOf 4 (some .int) 1 22 sp_X7_letterOf := by
  refine ctr_of (by decide +kernel) ao_X7_letterOf rfl ?_
  rintro av M Ret ⟨c, k, rfl, hp, hR⟩ hok hM
  exact ⟨Nat.le_of_ble_eq_true rfl, fun Z hZ => b_X7_letterOf  c (hok _ (List.mem_of_getElem? (i := 0) rfl)) k (hok _ (List.mem_of_getElem? (i := 1) rfl)) M Ret hp hR hM Z hZ⟩
def sp_X7_isCode : SP := fun av M Ret => ∃ c : Int, av = [mi c] ∧ (Ret (some (mi (b2i (vC c)))) M)
theorem k_X7_isCode {code : List Sem} {Z : KZ} {Ret : KR} {ls : List (Option MV)} {M : Mem} {r : List MV} (hZ : Sim code Z Ret) (ip np : Nat) {c : Int} (hc : code[ip]? = some (I_callS 1 sp_X7_isCode)) (hn : ip + 1 = np) (h3 : catS r ≤ 8)   (kz : Z np ls (mi (b2i (vC c)) :: r) M) : Z ip ls (mi c :: r) M := w_callS1 hZ ip np hc hn h3 ⟨_, rfl, kz⟩
def cd_X7_isCode : List Sem := [I_iload 0, I_i2l, I_lconst (1), I_lconst (531440), I_callS 3 sp_X7_in, I_ifeq 13, I_iload 0, I_callS 1 sp_X7_lettersOf, I_i2l, I_lconst (2), I_lconst (4), I_callS 3 sp_X7_in, I_ifne 15, I_const (0), I_zret, I_const (1), I_istore 1, I_const (0), I_istore 2, I_iload 2, I_iload 0, I_callS 1 sp_X7_lettersOf, I_cge 36, I_iload 1, I_ifeq 32, I_iload 0, I_iload 2, I_callS 2 sp_X7_letterOf, I_const (96), I_cle 32, I_const (1), I_goto 33, I_const (0), I_istore 1, I_iinc 2 (1), I_goto 19, I_iload 1, I_zret]
def pc_X7_isCode : List Nat := [0, 1, 2, 3, 6, 9, 12, 13, 16, 17, 20, 23, 26, 29, 30, 31, 32, 33, 34, 35, 36, 37, 40, 43, 44, 47, 48, 49, 52, 54, 57, 58, 61, 62, 63, 66, 69, 70]
set_option maxRecDepth 100000 in
set_option maxHeartbeats 4000000 in
theorem b_X7_isCode (c : Int) (i_c : InR c) (M : Mem) (Ret : KR)  (hR : Ret (some (mi (b2i (vC c)))) M) (hM : MOk M) (Z : KZ) (hZ : Sim cd_X7_isCode Z Ret) : Z 0 [some (mi c), none, none] [] M := by
  have hl4 := lnC_le c
  have loop : ∀ (d : Nat) (is k : Int), d = (4 - k).toNat → 27 ≤ c → c < 531441 → 0 ≤ k → k ≤ lnC c → ((is = 1 ∧ ∀ j, 0 ≤ j → j < k → 0 < dgC c j) ∨ (is = 0 ∧ ∃ j, 0 ≤ j ∧ j < k ∧ ¬ 0 < dgC c j)) → Z 19 [some (mi c), some (mi is), some (mi k)] [] M := by
    intro d
    induction d using Nat.strongRecOn with
    | ind d ih =>
      intro is k hd h0 h1 hk hkl hI
      have step : ∀ is2 : Int, ((is2 = 1 ∧ is = 1 ∧ 0 < dgC c k) ∨ (is2 = 0 ∧ (is = 0 ∨ ¬ 0 < dgC c k))) → k < lnC c → Z 34 [some (mi c), some (mi is2), some (mi k)] [] M := by
        intro is2 h2 hk2
        refine w_in3_2 hZ 34 35 rfl rfl rfl (by unfold InR; omega) ?_
        refine w_goto hZ 35 19 rfl ?_
        refine ih ((4 - (k + 1)).toNat) (by clear hI; omega) is2 (k + 1) rfl h0 h1 (by clear hI; omega) (by clear hI; omega) ?_
        rcases h2 with ⟨a, b, e⟩ | ⟨a, b⟩
        · refine Or.inl ⟨a, fun j j0 j1 => ?_⟩
          rcases hI with ⟨-, q⟩ | ⟨q, -⟩
          · by_cases hj : j = k
            · rw [hj]; exact e
            · exact q j j0 (by omega)
          · omega
        · refine Or.inr ⟨a, ?_⟩
          rcases hI with ⟨q, -⟩ | ⟨-, j, j0, j1, j2⟩
          · rcases b with b | b
            · omega
            · exact ⟨k, hk, by omega, b⟩
          · exact ⟨j, j0, by omega, j2⟩
      refine w_iload hZ 19 20 rfl rfl rfl ?_
      refine w_iload hZ 20 21 rfl rfl rfl ?_
      refine k_X7_lettersOf hZ 21 22 rfl rfl (Nat.le_of_ble_eq_true rfl) h1 ?_
      refine w_cge hZ 22 23 rfl rfl (fun c22 => ?_) (fun c22 => ?_)
      · refine w_iload hZ 36 37 rfl rfl rfl ?_
        refine w_zret hZ 37 rfl (by omega) ?_
        rcases hI with ⟨a, b⟩ | ⟨a, j, j0, j1, j2⟩
        · exact ret_i hR (by rw [a]; exact b2i_t ((vC_iff h0 h1).mpr fun j a1 a2 => b j a1 (by omega)))
        · exact ret_i hR (by rw [a]; exact b2i_f fun q => j2 ((vC_iff h0 h1).mp q j j0 (by omega)))
      · refine w_iload hZ 23 24 rfl rfl rfl ?_
        refine w_ifeq hZ 24 25 rfl rfl (fun c24 => ?_) (fun c24 => ?_)
        · refine w_const hZ 32 33 rfl rfl  ?_
          refine w_st3_1 hZ 33 34 rfl rfl rfl ?_
          exact step _ (by omega) c22
        · refine w_iload hZ 25 26 rfl rfl rfl ?_
          refine w_iload hZ 26 27 rfl rfl rfl ?_
          refine k_X7_letterOf hZ 27 28 rfl rfl (Nat.le_of_ble_eq_true rfl) ⟨by omega, h1, hk, c22⟩ ?_
          refine w_const hZ 28 29 rfl rfl  ?_
          refine w_cle hZ 29 30 rfl rfl (fun c29 => ?_) (fun c29 => ?_)
          · refine w_const hZ 32 33 rfl rfl  ?_
            refine w_st3_1 hZ 33 34 rfl rfl rfl ?_
            exact step _ (by omega) c22
          · refine w_const hZ 30 31 rfl rfl  ?_
            refine w_goto hZ 31 33 rfl ?_
            refine w_st3_1 hZ 33 34 rfl rfl rfl ?_
            exact step _ (by omega) c22
  refine w_iload hZ 0 1 rfl rfl rfl ?_
  refine w_i2l hZ 1 2 rfl rfl  ?_
  refine w_lconst hZ 2 3 rfl rfl  ?_
  refine w_lconst hZ 3 4 rfl rfl  ?_
  refine k_X7_in hZ 4 5 rfl rfl (Nat.le_of_ble_eq_true rfl)  ?_
  refine w_ifeq hZ 5 6 rfl rfl (fun c5 => ?_) (fun c5 => ?_)
  · refine w_const hZ 13 14 rfl rfl  ?_
    refine w_zret hZ 14 rfl (by omega) ?_
    exact ret_i hR (b2i_f (fun q => by
      have := q.1
      have := q.2.1
      have := (lnC_2 (c := c)).mpr q.1
      (first | replace c5 := b2i_z.mp c5 | replace c12 := b2i_z.mp c12)
      omega))
  · refine w_iload hZ 6 7 rfl rfl rfl ?_
    refine k_X7_lettersOf hZ 7 8 rfl rfl (Nat.le_of_ble_eq_true rfl) (by have := (b2i_e.mp c5); omega) ?_
    refine w_i2l hZ 8 9 rfl rfl  ?_
    refine w_lconst hZ 9 10 rfl rfl  ?_
    refine w_lconst hZ 10 11 rfl rfl  ?_
    refine k_X7_in hZ 11 12 rfl rfl (Nat.le_of_ble_eq_true rfl)  ?_
    refine w_ifne hZ 12 13 rfl rfl (fun c12 => ?_) (fun c12 => ?_)
    · replace c5 := b2i_e.mp c5
      replace c12 := b2i_e.mp c12
      refine w_const hZ 15 16 rfl rfl  ?_
      refine w_st3_1 hZ 16 17 rfl rfl rfl ?_
      refine w_const hZ 17 18 rfl rfl  ?_
      refine w_st3_2 hZ 18 19 rfl rfl rfl ?_
      exact loop 4 1 0 rfl (lnC_2.mp c12.1) (by omega) (by omega) (by omega) (Or.inl ⟨rfl, fun j a b => by omega⟩)
    · refine w_const hZ 13 14 rfl rfl  ?_
      refine w_zret hZ 14 rfl (by omega) ?_
      exact ret_i hR (b2i_f (fun q => by
        have := q.1
        have := q.2.1
        have := (lnC_2 (c := c)).mpr q.1
        (first | replace c5 := b2i_z.mp c5 | replace c12 := b2i_z.mp c12)
        omega))
set_option maxRecDepth 100000 in
set_option maxHeartbeats 4000000 in
theorem ao_X7_isCode : AllOk yX7_isCode.cls cX7_isCode 3 2 45 (some .boolean) none pc_X7_isCode 0 cd_X7_isCode := ⟨s_iload_n (k := 0) (by decide +kernel) rfl rfl, ⟨s_i2l (by decide +kernel) rfl, ⟨s_lconst (k := 1) (by decide +kernel) rfl ⟨by decide, by decide⟩ (by decide +kernel), ⟨s_ldc2 (v := (531440)) tw_3_233 (by decide +kernel) rfl ⟨by decide, by decide⟩ (by decide +kernel), ⟨s_callS ct_X7_in (by decide) (by decide) ⟨by decide +kernel, by decide +kernel, by decide +kernel⟩ tw_3_234 tw_3_235 tw_1_8 tw_3_236 (by decide +kernel) rfl, ⟨s_ifeq (off := (20)) (by decide +kernel) rfl rfl, ⟨s_iload_n (k := 0) (by decide +kernel) rfl rfl, ⟨s_callS ct_X7_lettersOf (by decide) (by decide) ⟨by decide +kernel, by decide +kernel, by decide +kernel⟩ tw_3_237 tw_3_238 tw_1_8 tw_3_239 (by decide +kernel) rfl, ⟨s_i2l (by decide +kernel) rfl, ⟨s_ldc2 (v := (2)) tw_4_0 (by decide +kernel) rfl ⟨by decide, by decide⟩ (by decide +kernel), ⟨s_ldc2 (v := (4)) tw_4_1 (by decide +kernel) rfl ⟨by decide, by decide⟩ (by decide +kernel), ⟨s_callS ct_X7_in (by decide) (by decide) ⟨by decide +kernel, by decide +kernel, by decide +kernel⟩ tw_3_234 tw_3_235 tw_1_8 tw_3_236 (by decide +kernel) rfl, ⟨s_ifne (off := (5)) (by decide +kernel) rfl rfl, ⟨s_iconst (by decide +kernel) rfl ⟨by decide, by decide⟩, ⟨s_zret rfl (by decide +kernel), ⟨s_iconst (by decide +kernel) rfl ⟨by decide, by decide⟩, ⟨s_istore_n (k := 1) (by decide +kernel) rfl rfl, ⟨s_iconst (by decide +kernel) rfl ⟨by decide, by decide⟩, ⟨s_istore_n (k := 2) (by decide +kernel) rfl rfl, ⟨s_iload_n (k := 2) (by decide +kernel) rfl rfl, ⟨s_iload_n (k := 0) (by decide +kernel) rfl rfl, ⟨s_callS ct_X7_lettersOf (by decide) (by decide) ⟨by decide +kernel, by decide +kernel, by decide +kernel⟩ tw_3_237 tw_3_238 tw_1_8 tw_3_239 (by decide +kernel) rfl, ⟨s_cge (off := (29)) (by decide +kernel) rfl rfl, ⟨s_iload_n (k := 1) (by decide +kernel) rfl rfl, ⟨s_ifeq (off := (17)) (by decide +kernel) rfl rfl, ⟨s_iload_n (k := 0) (by decide +kernel) rfl rfl, ⟨s_iload_n (k := 2) (by decide +kernel) rfl rfl, ⟨s_callS ct_X7_letterOf (by decide) (by decide) ⟨by decide +kernel, by decide +kernel, by decide +kernel⟩ tw_4_2 tw_4_3 tw_1_8 tw_4_4 (by decide +kernel) rfl, ⟨s_bipush (by decide +kernel) rfl ⟨by decide, by decide⟩ (by decide +kernel), ⟨s_cle (off := (7)) (by decide +kernel) rfl rfl, ⟨s_iconst (by decide +kernel) rfl ⟨by decide, by decide⟩, ⟨s_goto (off := (4)) (by decide +kernel) rfl, ⟨s_iconst (by decide +kernel) rfl ⟨by decide, by decide⟩, ⟨s_istore_n (k := 1) (by decide +kernel) rfl rfl, ⟨s_iinc (by decide +kernel) rfl, ⟨s_goto (off := (-31)) (by decide +kernel) rfl, ⟨s_iload_n (k := 1) (by decide +kernel) rfl rfl, ⟨s_zret rfl (by decide +kernel), trivial⟩⟩⟩⟩⟩⟩⟩⟩⟩⟩⟩⟩⟩⟩⟩⟩⟩⟩⟩⟩⟩⟩⟩⟩⟩⟩⟩⟩⟩⟩⟩⟩⟩⟩⟩⟩⟩⟩
theorem ct_X7_isCode : Ctr yX7_isCode cX7_isCode 3 (some .boolean) 2 45 sp_X7_isCode := by
  refine ctr_of (by decide +kernel) ao_X7_isCode rfl ?_
  rintro av M Ret ⟨c, rfl, hR⟩ hok hM
  exact ⟨Nat.le_of_ble_eq_true rfl, fun Z hZ => b_X7_isCode  c (hok _ (List.mem_of_getElem? (i := 0) rfl)) M Ret  hR hM Z hZ⟩
def sp_X7_mayByKind : SP := fun av M Ret => ∃ kd : Int, ∃ fr : Int, ∃ to : Int, ∃ a : Int, ∃ b : Int, av = [mi kd, mi fr, mi to, mi a, mi b] ∧ (Ret (some (mi (b2i (kdOk kd fr to a b)))) M)
theorem k_X7_mayByKind {code : List Sem} {Z : KZ} {Ret : KR} {ls : List (Option MV)} {M : Mem} {r : List MV} (hZ : Sim code Z Ret) (ip np : Nat) {kd fr to a b : Int} (hc : code[ip]? = some (I_callS 5 sp_X7_mayByKind)) (hn : ip + 1 = np) (h3 : catS r ≤ 8)   (kz : Z np ls (mi (b2i (kdOk kd fr to a b)) :: r) M) : Z ip ls (mi b :: mi a :: mi to :: mi fr :: mi kd :: r) M := w_callS5 hZ ip np hc hn h3 ⟨_, _, _, _, _, rfl, kz⟩
def cd_X7_mayByKind : List Sem := [I_iload 0, I_tsw (0) [2, 4, 14, 24] 34, I_const (1), I_zret, I_iload 1, I_iload 3, I_cne 12, I_iload 2, I_iload 4, I_cne 12, I_const (1), I_goto 13, I_const (0), I_zret, I_iload 1, I_iload 3, I_cne 22, I_iload 2, I_iload 4, I_cge 22, I_const (1), I_goto 23, I_const (0), I_zret, I_iload 1, I_iload 3, I_cle 32, I_iload 2, I_iload 4, I_cne 32, I_const (1), I_goto 33, I_const (0), I_zret, I_iload 1, I_iload 3, I_cle 42, I_iload 2, I_iload 4, I_cge 42, I_const (1), I_goto 43, I_const (0), I_zret]
def pc_X7_mayByKind : List Nat := [0, 1, 32, 33, 34, 35, 36, 39, 40, 42, 45, 46, 49, 50, 51, 52, 53, 56, 57, 59, 62, 63, 66, 67, 68, 69, 70, 73, 74, 76, 79, 80, 83, 84, 85, 86, 87, 90, 91, 93, 96, 97, 100, 101]
set_option maxRecDepth 100000 in
set_option maxHeartbeats 4000000 in
theorem b_X7_mayByKind (kd : Int) (i_kd : InR kd) (fr : Int) (i_fr : InR fr) (to : Int) (i_to : InR to) (a : Int) (i_a : InR a) (b : Int) (i_b : InR b) (M : Mem) (Ret : KR)  (hR : Ret (some (mi (b2i (kdOk kd fr to a b)))) M) (hM : MOk M) (Z : KZ) (hZ : Sim cd_X7_mayByKind Z Ret) : Z 0 [some (mi kd), some (mi fr), some (mi to), some (mi a), some (mi b)] [] M := by
  refine w_iload hZ 0 1 rfl rfl rfl ?_
  refine w_tsw4 hZ 1 rfl (fun c1 => ?_) (fun c1 => ?_) (fun c1 => ?_) (fun c1 => ?_) (fun c1 => ?_)
  · refine w_const hZ 2 3 rfl rfl  ?_
    refine w_zret hZ 3 rfl (by omega) ?_
    exact ret_i hR (by (first | refine b2i_t ?_ | refine b2i_f ?_); unfold kdOk; omega)
  · refine w_iload hZ 4 5 rfl rfl rfl ?_
    refine w_iload hZ 5 6 rfl rfl rfl ?_
    refine w_cne hZ 6 7 rfl rfl (fun c6 => ?_) (fun c6 => ?_)
    · refine w_const hZ 12 13 rfl rfl  ?_
      refine w_zret hZ 13 rfl (by omega) ?_
      exact ret_i hR (by (first | refine b2i_t ?_ | refine b2i_f ?_); unfold kdOk; omega)
    · refine w_iload hZ 7 8 rfl rfl rfl ?_
      refine w_iload hZ 8 9 rfl rfl rfl ?_
      refine w_cne hZ 9 10 rfl rfl (fun c9 => ?_) (fun c9 => ?_)
      · refine w_const hZ 12 13 rfl rfl  ?_
        refine w_zret hZ 13 rfl (by omega) ?_
        exact ret_i hR (by (first | refine b2i_t ?_ | refine b2i_f ?_); unfold kdOk; omega)
      · refine w_const hZ 10 11 rfl rfl  ?_
        refine w_goto hZ 11 13 rfl ?_
        refine w_zret hZ 13 rfl (by omega) ?_
        exact ret_i hR (by (first | refine b2i_t ?_ | refine b2i_f ?_); unfold kdOk; omega)
  · refine w_iload hZ 14 15 rfl rfl rfl ?_
    refine w_iload hZ 15 16 rfl rfl rfl ?_
    refine w_cne hZ 16 17 rfl rfl (fun c16 => ?_) (fun c16 => ?_)
    · refine w_const hZ 22 23 rfl rfl  ?_
      refine w_zret hZ 23 rfl (by omega) ?_
      exact ret_i hR (by (first | refine b2i_t ?_ | refine b2i_f ?_); unfold kdOk; omega)
    · refine w_iload hZ 17 18 rfl rfl rfl ?_
      refine w_iload hZ 18 19 rfl rfl rfl ?_
      refine w_cge hZ 19 20 rfl rfl (fun c19 => ?_) (fun c19 => ?_)
      · refine w_const hZ 22 23 rfl rfl  ?_
        refine w_zret hZ 23 rfl (by omega) ?_
        exact ret_i hR (by (first | refine b2i_t ?_ | refine b2i_f ?_); unfold kdOk; omega)
      · refine w_const hZ 20 21 rfl rfl  ?_
        refine w_goto hZ 21 23 rfl ?_
        refine w_zret hZ 23 rfl (by omega) ?_
        exact ret_i hR (by (first | refine b2i_t ?_ | refine b2i_f ?_); unfold kdOk; omega)
  · refine w_iload hZ 24 25 rfl rfl rfl ?_
    refine w_iload hZ 25 26 rfl rfl rfl ?_
    refine w_cle hZ 26 27 rfl rfl (fun c26 => ?_) (fun c26 => ?_)
    · refine w_const hZ 32 33 rfl rfl  ?_
      refine w_zret hZ 33 rfl (by omega) ?_
      exact ret_i hR (by (first | refine b2i_t ?_ | refine b2i_f ?_); unfold kdOk; omega)
    · refine w_iload hZ 27 28 rfl rfl rfl ?_
      refine w_iload hZ 28 29 rfl rfl rfl ?_
      refine w_cne hZ 29 30 rfl rfl (fun c29 => ?_) (fun c29 => ?_)
      · refine w_const hZ 32 33 rfl rfl  ?_
        refine w_zret hZ 33 rfl (by omega) ?_
        exact ret_i hR (by (first | refine b2i_t ?_ | refine b2i_f ?_); unfold kdOk; omega)
      · refine w_const hZ 30 31 rfl rfl  ?_
        refine w_goto hZ 31 33 rfl ?_
        refine w_zret hZ 33 rfl (by omega) ?_
        exact ret_i hR (by (first | refine b2i_t ?_ | refine b2i_f ?_); unfold kdOk; omega)
  · refine w_iload hZ 34 35 rfl rfl rfl ?_
    refine w_iload hZ 35 36 rfl rfl rfl ?_
    refine w_cle hZ 36 37 rfl rfl (fun c36 => ?_) (fun c36 => ?_)
    · refine w_const hZ 42 43 rfl rfl  ?_
      refine w_zret hZ 43 rfl (by omega) ?_
      exact ret_i hR (by (first | refine b2i_t ?_ | refine b2i_f ?_); unfold kdOk; omega)
    · refine w_iload hZ 37 38 rfl rfl rfl ?_
      refine w_iload hZ 38 39 rfl rfl rfl ?_
      refine w_cge hZ 39 40 rfl rfl (fun c39 => ?_) (fun c39 => ?_)
      · refine w_const hZ 42 43 rfl rfl  ?_
        refine w_zret hZ 43 rfl (by omega) ?_
        exact ret_i hR (by (first | refine b2i_t ?_ | refine b2i_f ?_); unfold kdOk; omega)
      · refine w_const hZ 40 41 rfl rfl  ?_
        refine w_goto hZ 41 43 rfl ?_
        refine w_zret hZ 43 rfl (by omega) ?_
        exact ret_i hR (by (first | refine b2i_t ?_ | refine b2i_f ?_); unfold kdOk; omega)
set_option maxRecDepth 100000 in
set_option maxHeartbeats 4000000 in
theorem ao_X7_mayByKind : AllOk yX7_mayByKind.cls cX7_mayByKind 5 0 0 (some .boolean) none pc_X7_mayByKind 0 cd_X7_mayByKind := ⟨s_iload_n (k := 0) (by decide +kernel) rfl rfl, ⟨s_tsw (dfl := 84) (hi0 := 3) (offs := #[31, 33, 50, 67]) (len := 31) (by decide +kernel) rfl rfl rfl, ⟨s_iconst (by decide +kernel) rfl ⟨by decide, by decide⟩, ⟨s_zret rfl (by decide +kernel), ⟨s_iload_n (k := 1) (by decide +kernel) rfl rfl, ⟨s_iload_n (k := 3) (by decide +kernel) rfl rfl, ⟨s_cne (off := (13)) (by decide +kernel) rfl rfl, ⟨s_iload_n (k := 2) (by decide +kernel) rfl rfl, ⟨s_iload (by decide +kernel) rfl, ⟨s_cne (off := (7)) (by decide +kernel) rfl rfl, ⟨s_iconst (by decide +kernel) rfl ⟨by decide, by decide⟩, ⟨s_goto (off := (4)) (by decide +kernel) rfl, ⟨s_iconst (by decide +kernel) rfl ⟨by decide, by decide⟩, ⟨s_zret rfl (by decide +kernel), ⟨s_iload_n (k := 1) (by decide +kernel) rfl rfl, ⟨s_iload_n (k := 3) (by decide +kernel) rfl rfl, ⟨s_cne (off := (13)) (by decide +kernel) rfl rfl, ⟨s_iload_n (k := 2) (by decide +kernel) rfl rfl, ⟨s_iload (by decide +kernel) rfl, ⟨s_cge (off := (7)) (by decide +kernel) rfl rfl, ⟨s_iconst (by decide +kernel) rfl ⟨by decide, by decide⟩, ⟨s_goto (off := (4)) (by decide +kernel) rfl, ⟨s_iconst (by decide +kernel) rfl ⟨by decide, by decide⟩, ⟨s_zret rfl (by decide +kernel), ⟨s_iload_n (k := 1) (by decide +kernel) rfl rfl, ⟨s_iload_n (k := 3) (by decide +kernel) rfl rfl, ⟨s_cle (off := (13)) (by decide +kernel) rfl rfl, ⟨s_iload_n (k := 2) (by decide +kernel) rfl rfl, ⟨s_iload (by decide +kernel) rfl, ⟨s_cne (off := (7)) (by decide +kernel) rfl rfl, ⟨s_iconst (by decide +kernel) rfl ⟨by decide, by decide⟩, ⟨s_goto (off := (4)) (by decide +kernel) rfl, ⟨s_iconst (by decide +kernel) rfl ⟨by decide, by decide⟩, ⟨s_zret rfl (by decide +kernel), ⟨s_iload_n (k := 1) (by decide +kernel) rfl rfl, ⟨s_iload_n (k := 3) (by decide +kernel) rfl rfl, ⟨s_cle (off := (13)) (by decide +kernel) rfl rfl, ⟨s_iload_n (k := 2) (by decide +kernel) rfl rfl, ⟨s_iload (by decide +kernel) rfl, ⟨s_cge (off := (7)) (by decide +kernel) rfl rfl, ⟨s_iconst (by decide +kernel) rfl ⟨by decide, by decide⟩, ⟨s_goto (off := (4)) (by decide +kernel) rfl, ⟨s_iconst (by decide +kernel) rfl ⟨by decide, by decide⟩, ⟨s_zret rfl (by decide +kernel), trivial⟩⟩⟩⟩⟩⟩⟩⟩⟩⟩⟩⟩⟩⟩⟩⟩⟩⟩⟩⟩⟩⟩⟩⟩⟩⟩⟩⟩⟩⟩⟩⟩⟩⟩⟩⟩⟩⟩⟩⟩⟩⟩⟩⟩
theorem ct_X7_mayByKind : Ctr yX7_mayByKind cX7_mayByKind 5 (some .boolean) 0 0 sp_X7_mayByKind := by
  refine ctr_of (by decide +kernel) ao_X7_mayByKind rfl ?_
  rintro av M Ret ⟨kd, fr, to, a, b, rfl, hR⟩ hok hM
  exact ⟨Nat.le_of_ble_eq_true rfl, fun Z hZ => b_X7_mayByKind  kd (hok _ (List.mem_of_getElem? (i := 0) rfl)) fr (hok _ (List.mem_of_getElem? (i := 1) rfl)) to (hok _ (List.mem_of_getElem? (i := 2) rfl)) a (hok _ (List.mem_of_getElem? (i := 3) rfl)) b (hok _ (List.mem_of_getElem? (i := 4) rfl)) M Ret  hR hM Z hZ⟩
