def sp_X6_isSmall : SP := fun av M Ret => ∃ s : Int, av = [mi s] ∧ (Ret (some (mi (b2i (isSm s)))) M)
theorem k_X6_isSmall {code : List Sem} {Z : KZ} {Ret : KR} {ls : List (Option MV)} {M : Mem} {r : List MV} (hZ : Sim code Z Ret) (ip np : Nat) {s : Int} (hc : code[ip]? = some (I_callS 1 sp_X6_isSmall)) (hn : ip + 1 = np) (h3 : catS r ≤ 8)   (kz : Z np ls (mi (b2i (isSm s)) :: r) M) : Z ip ls (mi s :: r) M := w_callS1 hZ ip np hc hn h3 ⟨_, rfl, kz⟩
def cd_X6_isSmall : List Sem := [I_iload 0, I_const (97), I_clt 8, I_iload 0, I_const (123), I_cge 8, I_const (1), I_goto 9, I_const (0), I_zret]
def pc_X6_isSmall : List Nat := [0, 1, 3, 6, 7, 9, 12, 13, 16, 17]
set_option maxRecDepth 100000 in
set_option maxHeartbeats 4000000 in
theorem b_X6_isSmall (s : Int) (i_s : InR s) (M : Mem) (Ret : KR)  (hR : Ret (some (mi (b2i (isSm s)))) M) (hM : MOk M) (Z : KZ) (hZ : Sim cd_X6_isSmall Z Ret) : Z 0 [some (mi s)] [] M := by
  refine w_iload hZ 0 1 rfl rfl rfl ?_
  refine w_const hZ 1 2 rfl rfl  ?_
  refine w_clt hZ 2 3 rfl rfl (fun c2 => ?_) (fun c2 => ?_)
  · refine w_const hZ 8 9 rfl rfl  ?_
    refine w_zret hZ 9 rfl (by omega) ?_
    exact ret_i hR (by (first | refine b2i_t ?_ | refine b2i_f ?_); (try simp only [isSm, isCp, isLt, isFg, isPC, isSg, isCl, isRC, isLC, isFC, isPCC, b2i_e, b2i_z] at *); omega)
  · refine w_iload hZ 3 4 rfl rfl rfl ?_
    refine w_const hZ 4 5 rfl rfl  ?_
    refine w_cge hZ 5 6 rfl rfl (fun c5 => ?_) (fun c5 => ?_)
    · refine w_const hZ 8 9 rfl rfl  ?_
      refine w_zret hZ 9 rfl (by omega) ?_
      exact ret_i hR (by (first | refine b2i_t ?_ | refine b2i_f ?_); (try simp only [isSm, isCp, isLt, isFg, isPC, isSg, isCl, isRC, isLC, isFC, isPCC, b2i_e, b2i_z] at *); omega)
    · refine w_const hZ 6 7 rfl rfl  ?_
      refine w_goto hZ 7 9 rfl ?_
      refine w_zret hZ 9 rfl (by omega) ?_
      exact ret_i hR (by (first | refine b2i_t ?_ | refine b2i_f ?_); (try simp only [isSm, isCp, isLt, isFg, isPC, isSg, isCl, isRC, isLC, isFC, isPCC, b2i_e, b2i_z] at *); omega)
set_option maxRecDepth 100000 in
set_option maxHeartbeats 4000000 in
theorem ao_X6_isSmall : AllOk yX6_isSmall.cls cX6_isSmall 1 0 0 (some .boolean) none pc_X6_isSmall 0 cd_X6_isSmall := ⟨s_iload_n (k := 0) (by decide +kernel) rfl rfl, ⟨s_bipush (by decide +kernel) rfl ⟨by decide, by decide⟩ (by decide +kernel), ⟨s_clt (off := (13)) (by decide +kernel) rfl rfl, ⟨s_iload_n (k := 0) (by decide +kernel) rfl rfl, ⟨s_bipush (by decide +kernel) rfl ⟨by decide, by decide⟩ (by decide +kernel), ⟨s_cge (off := (7)) (by decide +kernel) rfl rfl, ⟨s_iconst (by decide +kernel) rfl ⟨by decide, by decide⟩, ⟨s_goto (off := (4)) (by decide +kernel) rfl, ⟨s_iconst (by decide +kernel) rfl ⟨by decide, by decide⟩, ⟨s_zret rfl (by decide +kernel), trivial⟩⟩⟩⟩⟩⟩⟩⟩⟩⟩
theorem ct_X6_isSmall : Ctr yX6_isSmall cX6_isSmall 1 (some .boolean) 0 0 sp_X6_isSmall := by
  refine ctr_of (by decide +kernel) ao_X6_isSmall rfl ?_
  rintro av M Ret ⟨s, rfl, hR⟩ hok hM
  exact ⟨Nat.le_of_ble_eq_true rfl, fun Z hZ => b_X6_isSmall  s (hok _ (List.mem_of_getElem? (i := 0) rfl)) M Ret  hR hM Z hZ⟩
def sp_X6_isCapital : SP := fun av M Ret => ∃ s : Int, av = [mi s] ∧ (Ret (some (mi (b2i (isCp s)))) M)
theorem k_X6_isCapital {code : List Sem} {Z : KZ} {Ret : KR} {ls : List (Option MV)} {M : Mem} {r : List MV} (hZ : Sim code Z Ret) (ip np : Nat) {s : Int} (hc : code[ip]? = some (I_callS 1 sp_X6_isCapital)) (hn : ip + 1 = np) (h3 : catS r ≤ 8)   (kz : Z np ls (mi (b2i (isCp s)) :: r) M) : Z ip ls (mi s :: r) M := w_callS1 hZ ip np hc hn h3 ⟨_, rfl, kz⟩
def cd_X6_isCapital : List Sem := [I_iload 0, I_const (65), I_clt 8, I_iload 0, I_const (91), I_cge 8, I_const (1), I_goto 9, I_const (0), I_zret]
def pc_X6_isCapital : List Nat := [0, 1, 3, 6, 7, 9, 12, 13, 16, 17]
set_option maxRecDepth 100000 in
set_option maxHeartbeats 4000000 in
theorem b_X6_isCapital (s : Int) (i_s : InR s) (M : Mem) (Ret : KR)  (hR : Ret (some (mi (b2i (isCp s)))) M) (hM : MOk M) (Z : KZ) (hZ : Sim cd_X6_isCapital Z Ret) : Z 0 [some (mi s)] [] M := by
  refine w_iload hZ 0 1 rfl rfl rfl ?_
  refine w_const hZ 1 2 rfl rfl  ?_
  refine w_clt hZ 2 3 rfl rfl (fun c2 => ?_) (fun c2 => ?_)
  · refine w_const hZ 8 9 rfl rfl  ?_
    refine w_zret hZ 9 rfl (by omega) ?_
    exact ret_i hR (by (first | refine b2i_t ?_ | refine b2i_f ?_); (try simp only [isSm, isCp, isLt, isFg, isPC, isSg, isCl, isRC, isLC, isFC, isPCC, b2i_e, b2i_z] at *); omega)
  · refine w_iload hZ 3 4 rfl rfl rfl ?_
    refine w_const hZ 4 5 rfl rfl  ?_
    refine w_cge hZ 5 6 rfl rfl (fun c5 => ?_) (fun c5 => ?_)
    · refine w_const hZ 8 9 rfl rfl  ?_
      refine w_zret hZ 9 rfl (by omega) ?_
      exact ret_i hR (by (first | refine b2i_t ?_ | refine b2i_f ?_); (try simp only [isSm, isCp, isLt, isFg, isPC, isSg, isCl, isRC, isLC, isFC, isPCC, b2i_e, b2i_z] at *); omega)
    · refine w_const hZ 6 7 rfl rfl  ?_
      refine w_goto hZ 7 9 rfl ?_
      refine w_zret hZ 9 rfl (by omega) ?_
      exact ret_i hR (by (first | refine b2i_t ?_ | refine b2i_f ?_); (try simp only [isSm, isCp, isLt, isFg, isPC, isSg, isCl, isRC, isLC, isFC, isPCC, b2i_e, b2i_z] at *); omega)
set_option maxRecDepth 100000 in
set_option maxHeartbeats 4000000 in
theorem ao_X6_isCapital : AllOk yX6_isCapital.cls cX6_isCapital 1 0 0 (some .boolean) none pc_X6_isCapital 0 cd_X6_isCapital := ⟨s_iload_n (k := 0) (by decide +kernel) rfl rfl, ⟨s_bipush (by decide +kernel) rfl ⟨by decide, by decide⟩ (by decide +kernel), ⟨s_clt (off := (13)) (by decide +kernel) rfl rfl, ⟨s_iload_n (k := 0) (by decide +kernel) rfl rfl, ⟨s_bipush (by decide +kernel) rfl ⟨by decide, by decide⟩ (by decide +kernel), ⟨s_cge (off := (7)) (by decide +kernel) rfl rfl, ⟨s_iconst (by decide +kernel) rfl ⟨by decide, by decide⟩, ⟨s_goto (off := (4)) (by decide +kernel) rfl, ⟨s_iconst (by decide +kernel) rfl ⟨by decide, by decide⟩, ⟨s_zret rfl (by decide +kernel), trivial⟩⟩⟩⟩⟩⟩⟩⟩⟩⟩
theorem ct_X6_isCapital : Ctr yX6_isCapital cX6_isCapital 1 (some .boolean) 0 0 sp_X6_isCapital := by
  refine ctr_of (by decide +kernel) ao_X6_isCapital rfl ?_
  rintro av M Ret ⟨s, rfl, hR⟩ hok hM
  exact ⟨Nat.le_of_ble_eq_true rfl, fun Z hZ => b_X6_isCapital  s (hok _ (List.mem_of_getElem? (i := 0) rfl)) M Ret  hR hM Z hZ⟩
def sp_X6_isOfWord : SP := fun av M Ret => ∃ s : Int, av = [mi s] ∧ (Ret (some (mi (b2i (isLt s)))) M)
theorem k_X6_isOfWord {code : List Sem} {Z : KZ} {Ret : KR} {ls : List (Option MV)} {M : Mem} {r : List MV} (hZ : Sim code Z Ret) (ip np : Nat) {s : Int} (hc : code[ip]? = some (I_callS 1 sp_X6_isOfWord)) (hn : ip + 1 = np) (h3 : catS r ≤ 8)   (kz : Z np ls (mi (b2i (isLt s)) :: r) M) : Z ip ls (mi s :: r) M := w_callS1 hZ ip np hc hn h3 ⟨_, rfl, kz⟩
def cd_X6_isOfWord : List Sem := [I_iload 0, I_callS 1 sp_X6_isSmall, I_ifne 6, I_iload 0, I_callS 1 sp_X6_isCapital, I_ifeq 8, I_const (1), I_goto 9, I_const (0), I_zret]
def pc_X6_isOfWord : List Nat := [0, 1, 4, 7, 8, 11, 14, 15, 18, 19]
set_option maxRecDepth 100000 in
set_option maxHeartbeats 4000000 in
theorem b_X6_isOfWord (s : Int) (i_s : InR s) (M : Mem) (Ret : KR)  (hR : Ret (some (mi (b2i (isLt s)))) M) (hM : MOk M) (Z : KZ) (hZ : Sim cd_X6_isOfWord Z Ret) : Z 0 [some (mi s)] [] M := by
  refine w_iload hZ 0 1 rfl rfl rfl ?_
  refine k_X6_isSmall hZ 1 2 rfl rfl (Nat.le_of_ble_eq_true rfl)  ?_
  refine w_ifne hZ 2 3 rfl rfl (fun c2 => ?_) (fun c2 => ?_)
  · refine w_const hZ 6 7 rfl rfl  ?_
    refine w_goto hZ 7 9 rfl ?_
    refine w_zret hZ 9 rfl (by omega) ?_
    exact ret_i hR (by (first | refine b2i_t ?_ | refine b2i_f ?_); (try simp only [isSm, isCp, isLt, isFg, isPC, isSg, isCl, isRC, isLC, isFC, isPCC, b2i_e, b2i_z] at *); omega)
  · refine w_iload hZ 3 4 rfl rfl rfl ?_
    refine k_X6_isCapital hZ 4 5 rfl rfl (Nat.le_of_ble_eq_true rfl)  ?_
    refine w_ifeq hZ 5 6 rfl rfl (fun c5 => ?_) (fun c5 => ?_)
    · refine w_const hZ 8 9 rfl rfl  ?_
      refine w_zret hZ 9 rfl (by omega) ?_
      exact ret_i hR (by (first | refine b2i_t ?_ | refine b2i_f ?_); (try simp only [isSm, isCp, isLt, isFg, isPC, isSg, isCl, isRC, isLC, isFC, isPCC, b2i_e, b2i_z] at *); omega)
    · refine w_const hZ 6 7 rfl rfl  ?_
      refine w_goto hZ 7 9 rfl ?_
      refine w_zret hZ 9 rfl (by omega) ?_
      exact ret_i hR (by (first | refine b2i_t ?_ | refine b2i_f ?_); (try simp only [isSm, isCp, isLt, isFg, isPC, isSg, isCl, isRC, isLC, isFC, isPCC, b2i_e, b2i_z] at *); omega)
set_option maxRecDepth 100000 in
set_option maxHeartbeats 4000000 in
theorem ao_X6_isOfWord : AllOk yX6_isOfWord.cls cX6_isOfWord 1 1 20 (some .boolean) none pc_X6_isOfWord 0 cd_X6_isOfWord := ⟨s_iload_n (k := 0) (by decide +kernel) rfl rfl, ⟨s_callS ct_X6_isSmall (by decide) (by decide) ⟨by decide +kernel, by decide +kernel, by decide +kernel⟩ tw_2_89 tw_2_90 tw_1_1 tw_2_91 (by decide +kernel) rfl, ⟨s_ifne (off := (10)) (by decide +kernel) rfl rfl, ⟨s_iload_n (k := 0) (by decide +kernel) rfl rfl, ⟨s_callS ct_X6_isCapital (by decide) (by decide) ⟨by decide +kernel, by decide +kernel, by decide +kernel⟩ tw_2_92 tw_2_93 tw_1_1 tw_2_94 (by decide +kernel) rfl, ⟨s_ifeq (off := (7)) (by decide +kernel) rfl rfl, ⟨s_iconst (by decide +kernel) rfl ⟨by decide, by decide⟩, ⟨s_goto (off := (4)) (by decide +kernel) rfl, ⟨s_iconst (by decide +kernel) rfl ⟨by decide, by decide⟩, ⟨s_zret rfl (by decide +kernel), trivial⟩⟩⟩⟩⟩⟩⟩⟩⟩⟩
theorem ct_X6_isOfWord : Ctr yX6_isOfWord cX6_isOfWord 1 (some .boolean) 1 20 sp_X6_isOfWord := by
  refine ctr_of (by decide +kernel) ao_X6_isOfWord rfl ?_
  rintro av M Ret ⟨s, rfl, hR⟩ hok hM
  exact ⟨Nat.le_of_ble_eq_true rfl, fun Z hZ => b_X6_isOfWord  s (hok _ (List.mem_of_getElem? (i := 0) rfl)) M Ret  hR hM Z hZ⟩
def sp_X6_letterOf : SP := fun av M Ret => ∃ s : Int, av = [mi s] ∧ (InR (s - 65) ∧ InR (s - 97)) ∧ (Ret (some (mi (ltN s))) M)
theorem k_X6_letterOf {code : List Sem} {Z : KZ} {Ret : KR} {ls : List (Option MV)} {M : Mem} {r : List MV} (hZ : Sim code Z Ret) (ip np : Nat) {s : Int} (hc : code[ip]? = some (I_callS 1 sp_X6_letterOf)) (hn : ip + 1 = np) (h3 : catS r ≤ 8)  (hp : InR (s - 65) ∧ InR (s - 97)) (kz : Z np ls (mi (ltN s) :: r) M) : Z ip ls (mi s :: r) M := w_callS1 hZ ip np hc hn h3 ⟨_, rfl, hp, kz⟩
def cd_X6_letterOf : List Sem := [I_iload 0, I_callS 1 sp_X6_isCapital, I_ifeq 9, I_iload 0, I_const (65), I_sub, I_const (1), I_add, I_goto 14, I_iload 0, I_const (97), I_sub, I_const (1), I_add, I_iret]
def pc_X6_letterOf : List Nat := [0, 1, 4, 7, 8, 10, 11, 12, 13, 16, 17, 19, 20, 21, 22]
set_option maxRecDepth 100000 in
set_option maxHeartbeats 4000000 in
theorem b_X6_letterOf (s : Int) (i_s : InR s) (M : Mem) (Ret : KR) (hp : InR (s - 65) ∧ InR (s - 97)) (hR : Ret (some (mi (ltN s))) M) (hM : MOk M) (Z : KZ) (hZ : Sim cd_X6_letterOf Z Ret) : Z 0 [some (mi s)] [] M := by
  unfold InR at *
  refine w_iload hZ 0 1 rfl rfl rfl ?_
  refine k_X6_isCapital hZ 1 2 rfl rfl (Nat.le_of_ble_eq_true rfl)  ?_
  refine w_ifeq hZ 2 3 rfl rfl (fun c2 => ?_) (fun c2 => ?_)
  · refine w_iload hZ 9 10 rfl rfl rfl ?_
    refine w_const hZ 10 11 rfl rfl  ?_
    refine w_sub hZ 11 12 rfl rfl (by unfold InR; omega) ?_
    refine w_const hZ 12 13 rfl rfl  ?_
    refine w_add hZ 13 14 rfl rfl (by unfold InR; omega) ?_
    refine w_iret hZ 14 rfl ?_
    exact ret_i hR (by simp only [b2i_e, b2i_z] at *; unfold ltN; split <;> (try simp only [isCp] at *) <;> omega)
  · refine w_iload hZ 3 4 rfl rfl rfl ?_
    refine w_const hZ 4 5 rfl rfl  ?_
    refine w_sub hZ 5 6 rfl rfl (by unfold InR; omega) ?_
    refine w_const hZ 6 7 rfl rfl  ?_
    refine w_add hZ 7 8 rfl rfl (by unfold InR; omega) ?_
    refine w_goto hZ 8 14 rfl ?_
    refine w_iret hZ 14 rfl ?_
    exact ret_i hR (by simp only [b2i_e, b2i_z] at *; unfold ltN; split <;> (try simp only [isCp] at *) <;> omega)
set_option maxRecDepth 100000 in
set_option maxHeartbeats 4000000 in
theorem ao_X6_letterOf : AllOk yX6_letterOf.cls cX6_letterOf 1 1 20 (some .int) none pc_X6_letterOf 0 cd_X6_letterOf := ⟨s_iload_n (k := 0) (by decide +kernel) rfl rfl, ⟨s_callS ct_X6_isCapital (by decide) (by decide) ⟨by decide +kernel, by decide +kernel, by decide +kernel⟩ tw_2_92 tw_2_93 tw_1_1 tw_2_94 (by decide +kernel) rfl, ⟨s_ifeq (off := (12)) (by decide +kernel) rfl rfl, ⟨s_iload_n (k := 0) (by decide +kernel) rfl rfl, ⟨s_bipush (by decide +kernel) rfl ⟨by decide, by decide⟩ (by decide +kernel), ⟨s_sub (by decide +kernel) rfl, ⟨s_iconst (by decide +kernel) rfl ⟨by decide, by decide⟩, ⟨s_add (by decide +kernel) rfl, ⟨s_goto (off := (9)) (by decide +kernel) rfl, ⟨s_iload_n (k := 0) (by decide +kernel) rfl rfl, ⟨s_bipush (by decide +kernel) rfl ⟨by decide, by decide⟩ (by decide +kernel), ⟨s_sub (by decide +kernel) rfl, ⟨s_iconst (by decide +kernel) rfl ⟨by decide, by decide⟩, ⟨s_add (by decide +kernel) rfl, ⟨s_iret rfl (by decide +kernel), trivial⟩⟩⟩⟩⟩⟩⟩⟩⟩⟩⟩⟩⟩⟩⟩
theorem ct_X6_letterOf : Ctr yX6_letterOf cX6_letterOf 1 (some .int) 1 20 sp_X6_letterOf := by
  refine ctr_of (by decide +kernel) ao_X6_letterOf rfl ?_
  rintro av M Ret ⟨s, rfl, hp, hR⟩ hok hM
  exact ⟨Nat.le_of_ble_eq_true rfl, fun Z hZ => b_X6_letterOf  s (hok _ (List.mem_of_getElem? (i := 0) rfl)) M Ret hp hR hM Z hZ⟩
def sp_X6_isFigure : SP := fun av M Ret => ∃ s : Int, av = [mi s] ∧ (Ret (some (mi (b2i (isFg s)))) M)
theorem k_X6_isFigure {code : List Sem} {Z : KZ} {Ret : KR} {ls : List (Option MV)} {M : Mem} {r : List MV} (hZ : Sim code Z Ret) (ip np : Nat) {s : Int} (hc : code[ip]? = some (I_callS 1 sp_X6_isFigure)) (hn : ip + 1 = np) (h3 : catS r ≤ 8)   (kz : Z np ls (mi (b2i (isFg s)) :: r) M) : Z ip ls (mi s :: r) M := w_callS1 hZ ip np hc hn h3 ⟨_, rfl, kz⟩
def cd_X6_isFigure : List Sem := [I_iload 0, I_const (48), I_clt 8, I_iload 0, I_const (57), I_cgt 8, I_const (1), I_goto 9, I_const (0), I_zret]
def pc_X6_isFigure : List Nat := [0, 1, 3, 6, 7, 9, 12, 13, 16, 17]
set_option maxRecDepth 100000 in
set_option maxHeartbeats 4000000 in
theorem b_X6_isFigure (s : Int) (i_s : InR s) (M : Mem) (Ret : KR)  (hR : Ret (some (mi (b2i (isFg s)))) M) (hM : MOk M) (Z : KZ) (hZ : Sim cd_X6_isFigure Z Ret) : Z 0 [some (mi s)] [] M := by
  refine w_iload hZ 0 1 rfl rfl rfl ?_
  refine w_const hZ 1 2 rfl rfl  ?_
  refine w_clt hZ 2 3 rfl rfl (fun c2 => ?_) (fun c2 => ?_)
  · refine w_const hZ 8 9 rfl rfl  ?_
    refine w_zret hZ 9 rfl (by omega) ?_
    exact ret_i hR (by (first | refine b2i_t ?_ | refine b2i_f ?_); (try simp only [isSm, isCp, isLt, isFg, isPC, isSg, isCl, isRC, isLC, isFC, isPCC, b2i_e, b2i_z] at *); omega)
  · refine w_iload hZ 3 4 rfl rfl rfl ?_
    refine w_const hZ 4 5 rfl rfl  ?_
    refine w_cgt hZ 5 6 rfl rfl (fun c5 => ?_) (fun c5 => ?_)
    · refine w_const hZ 8 9 rfl rfl  ?_
      refine w_zret hZ 9 rfl (by omega) ?_
      exact ret_i hR (by (first | refine b2i_t ?_ | refine b2i_f ?_); (try simp only [isSm, isCp, isLt, isFg, isPC, isSg, isCl, isRC, isLC, isFC, isPCC, b2i_e, b2i_z] at *); omega)
    · refine w_const hZ 6 7 rfl rfl  ?_
      refine w_goto hZ 7 9 rfl ?_
      refine w_zret hZ 9 rfl (by omega) ?_
      exact ret_i hR (by (first | refine b2i_t ?_ | refine b2i_f ?_); (try simp only [isSm, isCp, isLt, isFg, isPC, isSg, isCl, isRC, isLC, isFC, isPCC, b2i_e, b2i_z] at *); omega)
set_option maxRecDepth 100000 in
set_option maxHeartbeats 4000000 in
theorem ao_X6_isFigure : AllOk yX6_isFigure.cls cX6_isFigure 1 0 0 (some .boolean) none pc_X6_isFigure 0 cd_X6_isFigure := ⟨s_iload_n (k := 0) (by decide +kernel) rfl rfl, ⟨s_bipush (by decide +kernel) rfl ⟨by decide, by decide⟩ (by decide +kernel), ⟨s_clt (off := (13)) (by decide +kernel) rfl rfl, ⟨s_iload_n (k := 0) (by decide +kernel) rfl rfl, ⟨s_bipush (by decide +kernel) rfl ⟨by decide, by decide⟩ (by decide +kernel), ⟨s_cgt (off := (7)) (by decide +kernel) rfl rfl, ⟨s_iconst (by decide +kernel) rfl ⟨by decide, by decide⟩, ⟨s_goto (off := (4)) (by decide +kernel) rfl, ⟨s_iconst (by decide +kernel) rfl ⟨by decide, by decide⟩, ⟨s_zret rfl (by decide +kernel), trivial⟩⟩⟩⟩⟩⟩⟩⟩⟩⟩
theorem ct_X6_isFigure : Ctr yX6_isFigure cX6_isFigure 1 (some .boolean) 0 0 sp_X6_isFigure := by
  refine ctr_of (by decide +kernel) ao_X6_isFigure rfl ?_
  rintro av M Ret ⟨s, rfl, hR⟩ hok hM
  exact ⟨Nat.le_of_ble_eq_true rfl, fun Z hZ => b_X6_isFigure  s (hok _ (List.mem_of_getElem? (i := 0) rfl)) M Ret  hR hM Z hZ⟩
def sp_X6_isPointOrComma : SP := fun av M Ret => ∃ s : Int, av = [mi s] ∧ (Ret (some (mi (b2i (isPC s)))) M)
theorem k_X6_isPointOrComma {code : List Sem} {Z : KZ} {Ret : KR} {ls : List (Option MV)} {M : Mem} {r : List MV} (hZ : Sim code Z Ret) (ip np : Nat) {s : Int} (hc : code[ip]? = some (I_callS 1 sp_X6_isPointOrComma)) (hn : ip + 1 = np) (h3 : catS r ≤ 8)   (kz : Z np ls (mi (b2i (isPC s)) :: r) M) : Z ip ls (mi s :: r) M := w_callS1 hZ ip np hc hn h3 ⟨_, rfl, kz⟩
def cd_X6_isPointOrComma : List Sem := [I_iload 0, I_const (46), I_ceq 6, I_iload 0, I_const (44), I_cne 8, I_const (1), I_goto 9, I_const (0), I_zret]
def pc_X6_isPointOrComma : List Nat := [0, 1, 3, 6, 7, 9, 12, 13, 16, 17]
set_option maxRecDepth 100000 in
set_option maxHeartbeats 4000000 in
theorem b_X6_isPointOrComma (s : Int) (i_s : InR s) (M : Mem) (Ret : KR)  (hR : Ret (some (mi (b2i (isPC s)))) M) (hM : MOk M) (Z : KZ) (hZ : Sim cd_X6_isPointOrComma Z Ret) : Z 0 [some (mi s)] [] M := by
  refine w_iload hZ 0 1 rfl rfl rfl ?_
  refine w_const hZ 1 2 rfl rfl  ?_
  refine w_ceq hZ 2 3 rfl rfl (fun c2 => ?_) (fun c2 => ?_)
  · refine w_const hZ 6 7 rfl rfl  ?_
    refine w_goto hZ 7 9 rfl ?_
    refine w_zret hZ 9 rfl (by omega) ?_
    exact ret_i hR (by (first | refine b2i_t ?_ | refine b2i_f ?_); (try simp only [isSm, isCp, isLt, isFg, isPC, isSg, isCl, isRC, isLC, isFC, isPCC, b2i_e, b2i_z] at *); omega)
  · refine w_iload hZ 3 4 rfl rfl rfl ?_
    refine w_const hZ 4 5 rfl rfl  ?_
    refine w_cne hZ 5 6 rfl rfl (fun c5 => ?_) (fun c5 => ?_)
    · refine w_const hZ 8 9 rfl rfl  ?_
      refine w_zret hZ 9 rfl (by omega) ?_
      exact ret_i hR (by (first | refine b2i_t ?_ | refine b2i_f ?_); (try simp only [isSm, isCp, isLt, isFg, isPC, isSg, isCl, isRC, isLC, isFC, isPCC, b2i_e, b2i_z] at *); omega)
    · refine w_const hZ 6 7 rfl rfl  ?_
      refine w_goto hZ 7 9 rfl ?_
      refine w_zret hZ 9 rfl (by omega) ?_
      exact ret_i hR (by (first | refine b2i_t ?_ | refine b2i_f ?_); (try simp only [isSm, isCp, isLt, isFg, isPC, isSg, isCl, isRC, isLC, isFC, isPCC, b2i_e, b2i_z] at *); omega)
set_option maxRecDepth 100000 in
set_option maxHeartbeats 4000000 in
theorem ao_X6_isPointOrComma : AllOk yX6_isPointOrComma.cls cX6_isPointOrComma 1 0 0 (some .boolean) none pc_X6_isPointOrComma 0 cd_X6_isPointOrComma := ⟨s_iload_n (k := 0) (by decide +kernel) rfl rfl, ⟨s_bipush (by decide +kernel) rfl ⟨by decide, by decide⟩ (by decide +kernel), ⟨s_ceq (off := (9)) (by decide +kernel) rfl rfl, ⟨s_iload_n (k := 0) (by decide +kernel) rfl rfl, ⟨s_bipush (by decide +kernel) rfl ⟨by decide, by decide⟩ (by decide +kernel), ⟨s_cne (off := (7)) (by decide +kernel) rfl rfl, ⟨s_iconst (by decide +kernel) rfl ⟨by decide, by decide⟩, ⟨s_goto (off := (4)) (by decide +kernel) rfl, ⟨s_iconst (by decide +kernel) rfl ⟨by decide, by decide⟩, ⟨s_zret rfl (by decide +kernel), trivial⟩⟩⟩⟩⟩⟩⟩⟩⟩⟩
theorem ct_X6_isPointOrComma : Ctr yX6_isPointOrComma cX6_isPointOrComma 1 (some .boolean) 0 0 sp_X6_isPointOrComma := by
  refine ctr_of (by decide +kernel) ao_X6_isPointOrComma rfl ?_
  rintro av M Ret ⟨s, rfl, hR⟩ hok hM
  exact ⟨Nat.le_of_ble_eq_true rfl, fun Z hZ => b_X6_isPointOrComma  s (hok _ (List.mem_of_getElem? (i := 0) rfl)) M Ret  hR hM Z hZ⟩
def sp_X6_isSign : SP := fun av M Ret => ∃ s : Int, av = [mi s] ∧ (Ret (some (mi (b2i (isSg s)))) M)
theorem k_X6_isSign {code : List Sem} {Z : KZ} {Ret : KR} {ls : List (Option MV)} {M : Mem} {r : List MV} (hZ : Sim code Z Ret) (ip np : Nat) {s : Int} (hc : code[ip]? = some (I_callS 1 sp_X6_isSign)) (hn : ip + 1 = np) (h3 : catS r ≤ 8)   (kz : Z np ls (mi (b2i (isSg s)) :: r) M) : Z ip ls (mi s :: r) M := w_callS1 hZ ip np hc hn h3 ⟨_, rfl, kz⟩
def cd_X6_isSign : List Sem := [I_iload 0, I_callS 1 sp_X6_isOfWord, I_ifne 15, I_iload 0, I_callS 1 sp_X6_isFigure, I_ifne 15, I_iload 0, I_callS 1 sp_X6_isPointOrComma, I_ifne 15, I_iload 0, I_const (45), I_ceq 15, I_iload 0, I_const (32), I_cne 17, I_const (1), I_goto 18, I_const (0), I_zret]
def pc_X6_isSign : List Nat := [0, 1, 4, 7, 8, 11, 14, 15, 18, 21, 22, 24, 27, 28, 30, 33, 34, 37, 38]
set_option maxRecDepth 100000 in
set_option maxHeartbeats 4000000 in
theorem b_X6_isSign (s : Int) (i_s : InR s) (M : Mem) (Ret : KR)  (hR : Ret (some (mi (b2i (isSg s)))) M) (hM : MOk M) (Z : KZ) (hZ : Sim cd_X6_isSign Z Ret) : Z 0 [some (mi s)] [] M := by
  refine w_iload hZ 0 1 rfl rfl rfl ?_
  refine k_X6_isOfWord hZ 1 2 rfl rfl (Nat.le_of_ble_eq_true rfl)  ?_
  refine w_ifne hZ 2 3 rfl rfl (fun c2 => ?_) (fun c2 => ?_)
  · refine w_const hZ 15 16 rfl rfl  ?_
    refine w_goto hZ 16 18 rfl ?_
    refine w_zret hZ 18 rfl (by omega) ?_
    exact ret_i hR (by (first | refine b2i_t ?_ | refine b2i_f ?_); (try simp only [isSm, isCp, isLt, isFg, isPC, isSg, isCl, isRC, isLC, isFC, isPCC, b2i_e, b2i_z] at *); omega)
  · refine w_iload hZ 3 4 rfl rfl rfl ?_
    refine k_X6_isFigure hZ 4 5 rfl rfl (Nat.le_of_ble_eq_true rfl)  ?_
    refine w_ifne hZ 5 6 rfl rfl (fun c5 => ?_) (fun c5 => ?_)
    · refine w_const hZ 15 16 rfl rfl  ?_
      refine w_goto hZ 16 18 rfl ?_
      refine w_zret hZ 18 rfl (by omega) ?_
      exact ret_i hR (by (first | refine b2i_t ?_ | refine b2i_f ?_); (try simp only [isSm, isCp, isLt, isFg, isPC, isSg, isCl, isRC, isLC, isFC, isPCC, b2i_e, b2i_z] at *); omega)
    · refine w_iload hZ 6 7 rfl rfl rfl ?_
      refine k_X6_isPointOrComma hZ 7 8 rfl rfl (Nat.le_of_ble_eq_true rfl)  ?_
      refine w_ifne hZ 8 9 rfl rfl (fun c8 => ?_) (fun c8 => ?_)
      · refine w_const hZ 15 16 rfl rfl  ?_
        refine w_goto hZ 16 18 rfl ?_
        refine w_zret hZ 18 rfl (by omega) ?_
        exact ret_i hR (by (first | refine b2i_t ?_ | refine b2i_f ?_); (try simp only [isSm, isCp, isLt, isFg, isPC, isSg, isCl, isRC, isLC, isFC, isPCC, b2i_e, b2i_z] at *); omega)
      · refine w_iload hZ 9 10 rfl rfl rfl ?_
        refine w_const hZ 10 11 rfl rfl  ?_
        refine w_ceq hZ 11 12 rfl rfl (fun c11 => ?_) (fun c11 => ?_)
        · refine w_const hZ 15 16 rfl rfl  ?_
          refine w_goto hZ 16 18 rfl ?_
          refine w_zret hZ 18 rfl (by omega) ?_
          exact ret_i hR (by (first | refine b2i_t ?_ | refine b2i_f ?_); (try simp only [isSm, isCp, isLt, isFg, isPC, isSg, isCl, isRC, isLC, isFC, isPCC, b2i_e, b2i_z] at *); omega)
        · refine w_iload hZ 12 13 rfl rfl rfl ?_
          refine w_const hZ 13 14 rfl rfl  ?_
          refine w_cne hZ 14 15 rfl rfl (fun c14 => ?_) (fun c14 => ?_)
          · refine w_const hZ 17 18 rfl rfl  ?_
            refine w_zret hZ 18 rfl (by omega) ?_
            exact ret_i hR (by (first | refine b2i_t ?_ | refine b2i_f ?_); (try simp only [isSm, isCp, isLt, isFg, isPC, isSg, isCl, isRC, isLC, isFC, isPCC, b2i_e, b2i_z] at *); omega)
          · refine w_const hZ 15 16 rfl rfl  ?_
            refine w_goto hZ 16 18 rfl ?_
            refine w_zret hZ 18 rfl (by omega) ?_
            exact ret_i hR (by (first | refine b2i_t ?_ | refine b2i_f ?_); (try simp only [isSm, isCp, isLt, isFg, isPC, isSg, isCl, isRC, isLC, isFC, isPCC, b2i_e, b2i_z] at *); omega)
set_option maxRecDepth 100000 in
set_option maxHeartbeats 4000000 in
theorem ao_X6_isSign : AllOk yX6_isSign.cls cX6_isSign 1 2 40 (some .boolean) none pc_X6_isSign 0 cd_X6_isSign := ⟨s_iload_n (k := 0) (by decide +kernel) rfl rfl, ⟨s_callS ct_X6_isOfWord (by decide) (by decide) ⟨by decide +kernel, by decide +kernel, by decide +kernel⟩ tw_2_86 tw_2_87 tw_1_1 tw_2_88 (by decide +kernel) rfl, ⟨s_ifne (off := (29)) (by decide +kernel) rfl rfl, ⟨s_iload_n (k := 0) (by decide +kernel) rfl rfl, ⟨s_callS ct_X6_isFigure (by decide) (by decide) ⟨by decide +kernel, by decide +kernel, by decide +kernel⟩ tw_2_95 tw_2_96 tw_1_1 tw_2_97 (by decide +kernel) rfl, ⟨s_ifne (off := (22)) (by decide +kernel) rfl rfl, ⟨s_iload_n (k := 0) (by decide +kernel) rfl rfl, ⟨s_callS ct_X6_isPointOrComma (by decide) (by decide) ⟨by decide +kernel, by decide +kernel, by decide +kernel⟩ tw_2_98 tw_2_99 tw_1_1 tw_2_100 (by decide +kernel) rfl, ⟨s_ifne (off := (15)) (by decide +kernel) rfl rfl, ⟨s_iload_n (k := 0) (by decide +kernel) rfl rfl, ⟨s_bipush (by decide +kernel) rfl ⟨by decide, by decide⟩ (by decide +kernel), ⟨s_ceq (off := (9)) (by decide +kernel) rfl rfl, ⟨s_iload_n (k := 0) (by decide +kernel) rfl rfl, ⟨s_bipush (by decide +kernel) rfl ⟨by decide, by decide⟩ (by decide +kernel), ⟨s_cne (off := (7)) (by decide +kernel) rfl rfl, ⟨s_iconst (by decide +kernel) rfl ⟨by decide, by decide⟩, ⟨s_goto (off := (4)) (by decide +kernel) rfl, ⟨s_iconst (by decide +kernel) rfl ⟨by decide, by decide⟩, ⟨s_zret rfl (by decide +kernel), trivial⟩⟩⟩⟩⟩⟩⟩⟩⟩⟩⟩⟩⟩⟩⟩⟩⟩⟩⟩
theorem ct_X6_isSign : Ctr yX6_isSign cX6_isSign 1 (some .boolean) 2 40 sp_X6_isSign := by
  refine ctr_of (by decide +kernel) ao_X6_isSign rfl ?_
  rintro av M Ret ⟨s, rfl, hR⟩ hok hM
  exact ⟨Nat.le_of_ble_eq_true rfl, fun Z hZ => b_X6_isSign  s (hok _ (List.mem_of_getElem? (i := 0) rfl)) M Ret  hR hM Z hZ⟩
def sp_X6_isCell : SP := fun av M Ret => ∃ s : Int, av = [mi s] ∧ (Ret (some (mi (b2i (isCl s)))) M)
theorem k_X6_isCell {code : List Sem} {Z : KZ} {Ret : KR} {ls : List (Option MV)} {M : Mem} {r : List MV} (hZ : Sim code Z Ret) (ip np : Nat) {s : Int} (hc : code[ip]? = some (I_callS 1 sp_X6_isCell)) (hn : ip + 1 = np) (h3 : catS r ≤ 8)   (kz : Z np ls (mi (b2i (isCl s)) :: r) M) : Z ip ls (mi s :: r) M := w_callS1 hZ ip np hc hn h3 ⟨_, rfl, kz⟩
def cd_X6_isCell : List Sem := [I_iload 0, I_iflt 7, I_iload 0, I_const (63), I_cgt 7, I_const (1), I_goto 8, I_const (0), I_zret]
def pc_X6_isCell : List Nat := [0, 1, 4, 5, 7, 10, 11, 14, 15]
set_option maxRecDepth 100000 in
set_option maxHeartbeats 4000000 in
theorem b_X6_isCell (s : Int) (i_s : InR s) (M : Mem) (Ret : KR)  (hR : Ret (some (mi (b2i (isCl s)))) M) (hM : MOk M) (Z : KZ) (hZ : Sim cd_X6_isCell Z Ret) : Z 0 [some (mi s)] [] M := by
  refine w_iload hZ 0 1 rfl rfl rfl ?_
  refine w_iflt hZ 1 2 rfl rfl (fun c1 => ?_) (fun c1 => ?_)
  · refine w_const hZ 7 8 rfl rfl  ?_
    refine w_zret hZ 8 rfl (by omega) ?_
    exact ret_i hR (by (first | refine b2i_t ?_ | refine b2i_f ?_); (try simp only [isSm, isCp, isLt, isFg, isPC, isSg, isCl, isRC, isLC, isFC, isPCC, b2i_e, b2i_z] at *); omega)
  · refine w_iload hZ 2 3 rfl rfl rfl ?_
    refine w_const hZ 3 4 rfl rfl  ?_
    refine w_cgt hZ 4 5 rfl rfl (fun c4 => ?_) (fun c4 => ?_)
    · refine w_const hZ 7 8 rfl rfl  ?_
      refine w_zret hZ 8 rfl (by omega) ?_
      exact ret_i hR (by (first | refine b2i_t ?_ | refine b2i_f ?_); (try simp only [isSm, isCp, isLt, isFg, isPC, isSg, isCl, isRC, isLC, isFC, isPCC, b2i_e, b2i_z] at *); omega)
    · refine w_const hZ 5 6 rfl rfl  ?_
      refine w_goto hZ 6 8 rfl ?_
      refine w_zret hZ 8 rfl (by omega) ?_
      exact ret_i hR (by (first | refine b2i_t ?_ | refine b2i_f ?_); (try simp only [isSm, isCp, isLt, isFg, isPC, isSg, isCl, isRC, isLC, isFC, isPCC, b2i_e, b2i_z] at *); omega)
set_option maxRecDepth 100000 in
set_option maxHeartbeats 4000000 in
theorem ao_X6_isCell : AllOk yX6_isCell.cls cX6_isCell 1 0 0 (some .boolean) none pc_X6_isCell 0 cd_X6_isCell := ⟨s_iload_n (k := 0) (by decide +kernel) rfl rfl, ⟨s_iflt (off := (13)) (by decide +kernel) rfl rfl, ⟨s_iload_n (k := 0) (by decide +kernel) rfl rfl, ⟨s_bipush (by decide +kernel) rfl ⟨by decide, by decide⟩ (by decide +kernel), ⟨s_cgt (off := (7)) (by decide +kernel) rfl rfl, ⟨s_iconst (by decide +kernel) rfl ⟨by decide, by decide⟩, ⟨s_goto (off := (4)) (by decide +kernel) rfl, ⟨s_iconst (by decide +kernel) rfl ⟨by decide, by decide⟩, ⟨s_zret rfl (by decide +kernel), trivial⟩⟩⟩⟩⟩⟩⟩⟩⟩
theorem ct_X6_isCell : Ctr yX6_isCell cX6_isCell 1 (some .boolean) 0 0 sp_X6_isCell := by
  refine ctr_of (by decide +kernel) ao_X6_isCell rfl ?_
  rintro av M Ret ⟨s, rfl, hR⟩ hok hM
  exact ⟨Nat.le_of_ble_eq_true rfl, fun Z hZ => b_X6_isCell  s (hok _ (List.mem_of_getElem? (i := 0) rfl)) M Ret  hR hM Z hZ⟩
def sp_X6_isRuleCell : SP := fun av M Ret => ∃ s : Int, av = [mi s] ∧ (Ret (some (mi (b2i (isRC s)))) M)
theorem k_X6_isRuleCell {code : List Sem} {Z : KZ} {Ret : KR} {ls : List (Option MV)} {M : Mem} {r : List MV} (hZ : Sim code Z Ret) (ip np : Nat) {s : Int} (hc : code[ip]? = some (I_callS 1 sp_X6_isRuleCell)) (hn : ip + 1 = np) (h3 : catS r ≤ 8)   (kz : Z np ls (mi (b2i (isRC s)) :: r) M) : Z ip ls (mi s :: r) M := w_callS1 hZ ip np hc hn h3 ⟨_, rfl, kz⟩
def cd_X6_isRuleCell : List Sem := [I_iload 0, I_const (30), I_clt 8, I_iload 0, I_const (59), I_cgt 8, I_const (1), I_goto 9, I_const (0), I_zret]
def pc_X6_isRuleCell : List Nat := [0, 1, 3, 6, 7, 9, 12, 13, 16, 17]
set_option maxRecDepth 100000 in
set_option maxHeartbeats 4000000 in
theorem b_X6_isRuleCell (s : Int) (i_s : InR s) (M : Mem) (Ret : KR)  (hR : Ret (some (mi (b2i (isRC s)))) M) (hM : MOk M) (Z : KZ) (hZ : Sim cd_X6_isRuleCell Z Ret) : Z 0 [some (mi s)] [] M := by
  refine w_iload hZ 0 1 rfl rfl rfl ?_
  refine w_const hZ 1 2 rfl rfl  ?_
  refine w_clt hZ 2 3 rfl rfl (fun c2 => ?_) (fun c2 => ?_)
  · refine w_const hZ 8 9 rfl rfl  ?_
    refine w_zret hZ 9 rfl (by omega) ?_
    exact ret_i hR (by (first | refine b2i_t ?_ | refine b2i_f ?_); (try simp only [isSm, isCp, isLt, isFg, isPC, isSg, isCl, isRC, isLC, isFC, isPCC, b2i_e, b2i_z] at *); omega)
  · refine w_iload hZ 3 4 rfl rfl rfl ?_
    refine w_const hZ 4 5 rfl rfl  ?_
    refine w_cgt hZ 5 6 rfl rfl (fun c5 => ?_) (fun c5 => ?_)
    · refine w_const hZ 8 9 rfl rfl  ?_
      refine w_zret hZ 9 rfl (by omega) ?_
      exact ret_i hR (by (first | refine b2i_t ?_ | refine b2i_f ?_); (try simp only [isSm, isCp, isLt, isFg, isPC, isSg, isCl, isRC, isLC, isFC, isPCC, b2i_e, b2i_z] at *); omega)
    · refine w_const hZ 6 7 rfl rfl  ?_
      refine w_goto hZ 7 9 rfl ?_
      refine w_zret hZ 9 rfl (by omega) ?_
      exact ret_i hR (by (first | refine b2i_t ?_ | refine b2i_f ?_); (try simp only [isSm, isCp, isLt, isFg, isPC, isSg, isCl, isRC, isLC, isFC, isPCC, b2i_e, b2i_z] at *); omega)
set_option maxRecDepth 100000 in
set_option maxHeartbeats 4000000 in
theorem ao_X6_isRuleCell : AllOk yX6_isRuleCell.cls cX6_isRuleCell 1 0 0 (some .boolean) none pc_X6_isRuleCell 0 cd_X6_isRuleCell := ⟨s_iload_n (k := 0) (by decide +kernel) rfl rfl, ⟨s_bipush (by decide +kernel) rfl ⟨by decide, by decide⟩ (by decide +kernel), ⟨s_clt (off := (13)) (by decide +kernel) rfl rfl, ⟨s_iload_n (k := 0) (by decide +kernel) rfl rfl, ⟨s_bipush (by decide +kernel) rfl ⟨by decide, by decide⟩ (by decide +kernel), ⟨s_cgt (off := (7)) (by decide +kernel) rfl rfl, ⟨s_iconst (by decide +kernel) rfl ⟨by decide, by decide⟩, ⟨s_goto (off := (4)) (by decide +kernel) rfl, ⟨s_iconst (by decide +kernel) rfl ⟨by decide, by decide⟩, ⟨s_zret rfl (by decide +kernel), trivial⟩⟩⟩⟩⟩⟩⟩⟩⟩⟩
theorem ct_X6_isRuleCell : Ctr yX6_isRuleCell cX6_isRuleCell 1 (some .boolean) 0 0 sp_X6_isRuleCell := by
  refine ctr_of (by decide +kernel) ao_X6_isRuleCell rfl ?_
  rintro av M Ret ⟨s, rfl, hR⟩ hok hM
  exact ⟨Nat.le_of_ble_eq_true rfl, fun Z hZ => b_X6_isRuleCell  s (hok _ (List.mem_of_getElem? (i := 0) rfl)) M Ret  hR hM Z hZ⟩
def sp_X6_isLetterCell : SP := fun av M Ret => ∃ s : Int, av = [mi s] ∧ (Ret (some (mi (b2i (isLC s)))) M)
theorem k_X6_isLetterCell {code : List Sem} {Z : KZ} {Ret : KR} {ls : List (Option MV)} {M : Mem} {r : List MV} (hZ : Sim code Z Ret) (ip np : Nat) {s : Int} (hc : code[ip]? = some (I_callS 1 sp_X6_isLetterCell)) (hn : ip + 1 = np) (h3 : catS r ≤ 8)   (kz : Z np ls (mi (b2i (isLC s)) :: r) M) : Z ip ls (mi s :: r) M := w_callS1 hZ ip np hc hn h3 ⟨_, rfl, kz⟩
def cd_X6_isLetterCell : List Sem := [I_iload 0, I_const (1), I_clt 8, I_iload 0, I_const (26), I_cgt 8, I_const (1), I_goto 9, I_const (0), I_zret]
def pc_X6_isLetterCell : List Nat := [0, 1, 2, 5, 6, 8, 11, 12, 15, 16]
set_option maxRecDepth 100000 in
set_option maxHeartbeats 4000000 in
theorem b_X6_isLetterCell (s : Int) (i_s : InR s) (M : Mem) (Ret : KR)  (hR : Ret (some (mi (b2i (isLC s)))) M) (hM : MOk M) (Z : KZ) (hZ : Sim cd_X6_isLetterCell Z Ret) : Z 0 [some (mi s)] [] M := by
  refine w_iload hZ 0 1 rfl rfl rfl ?_
  refine w_const hZ 1 2 rfl rfl  ?_
  refine w_clt hZ 2 3 rfl rfl (fun c2 => ?_) (fun c2 => ?_)
  · refine w_const hZ 8 9 rfl rfl  ?_
    refine w_zret hZ 9 rfl (by omega) ?_
    exact ret_i hR (by (first | refine b2i_t ?_ | refine b2i_f ?_); (try simp only [isSm, isCp, isLt, isFg, isPC, isSg, isCl, isRC, isLC, isFC, isPCC, b2i_e, b2i_z] at *); omega)
  · refine w_iload hZ 3 4 rfl rfl rfl ?_
    refine w_const hZ 4 5 rfl rfl  ?_
    refine w_cgt hZ 5 6 rfl rfl (fun c5 => ?_) (fun c5 => ?_)
    · refine w_const hZ 8 9 rfl rfl  ?_
      refine w_zret hZ 9 rfl (by omega) ?_
      exact ret_i hR (by (first | refine b2i_t ?_ | refine b2i_f ?_); (try simp only [isSm, isCp, isLt, isFg, isPC, isSg, isCl, isRC, isLC, isFC, isPCC, b2i_e, b2i_z] at *); omega)
    · refine w_const hZ 6 7 rfl rfl  ?_
      refine w_goto hZ 7 9 rfl ?_
      refine w_zret hZ 9 rfl (by omega) ?_
      exact ret_i hR (by (first | refine b2i_t ?_ | refine b2i_f ?_); (try simp only [isSm, isCp, isLt, isFg, isPC, isSg, isCl, isRC, isLC, isFC, isPCC, b2i_e, b2i_z] at *); omega)
set_option maxRecDepth 100000 in
set_option maxHeartbeats 4000000 in
theorem ao_X6_isLetterCell : AllOk yX6_isLetterCell.cls cX6_isLetterCell 1 0 0 (some .boolean) none pc_X6_isLetterCell 0 cd_X6_isLetterCell := ⟨s_iload_n (k := 0) (by decide +kernel) rfl rfl, ⟨s_iconst (by decide +kernel) rfl ⟨by decide, by decide⟩, ⟨s_clt (off := (13)) (by decide +kernel) rfl rfl, ⟨s_iload_n (k := 0) (by decide +kernel) rfl rfl, ⟨s_bipush (by decide +kernel) rfl ⟨by decide, by decide⟩ (by decide +kernel), ⟨s_cgt (off := (7)) (by decide +kernel) rfl rfl, ⟨s_iconst (by decide +kernel) rfl ⟨by decide, by decide⟩, ⟨s_goto (off := (4)) (by decide +kernel) rfl, ⟨s_iconst (by decide +kernel) rfl ⟨by decide, by decide⟩, ⟨s_zret rfl (by decide +kernel), trivial⟩⟩⟩⟩⟩⟩⟩⟩⟩⟩
theorem ct_X6_isLetterCell : Ctr yX6_isLetterCell cX6_isLetterCell 1 (some .boolean) 0 0 sp_X6_isLetterCell := by
  refine ctr_of (by decide +kernel) ao_X6_isLetterCell rfl ?_
  rintro av M Ret ⟨s, rfl, hR⟩ hok hM
  exact ⟨Nat.le_of_ble_eq_true rfl, fun Z hZ => b_X6_isLetterCell  s (hok _ (List.mem_of_getElem? (i := 0) rfl)) M Ret  hR hM Z hZ⟩
def sp_X6_isFigureCell : SP := fun av M Ret => ∃ s : Int, av = [mi s] ∧ (Ret (some (mi (b2i (isFC s)))) M)
theorem k_X6_isFigureCell {code : List Sem} {Z : KZ} {Ret : KR} {ls : List (Option MV)} {M : Mem} {r : List MV} (hZ : Sim code Z Ret) (ip np : Nat) {s : Int} (hc : code[ip]? = some (I_callS 1 sp_X6_isFigureCell)) (hn : ip + 1 = np) (h3 : catS r ≤ 8)   (kz : Z np ls (mi (b2i (isFC s)) :: r) M) : Z ip ls (mi s :: r) M := w_callS1 hZ ip np hc hn h3 ⟨_, rfl, kz⟩
def cd_X6_isFigureCell : List Sem := [I_iload 0, I_const (1), I_clt 8, I_iload 0, I_const (10), I_cgt 8, I_const (1), I_goto 9, I_const (0), I_zret]
def pc_X6_isFigureCell : List Nat := [0, 1, 2, 5, 6, 8, 11, 12, 15, 16]
set_option maxRecDepth 100000 in
set_option maxHeartbeats 4000000 in
theorem b_X6_isFigureCell (s : Int) (i_s : InR s) (M : Mem) (Ret : KR)  (hR : Ret (some (mi (b2i (isFC s)))) M) (hM : MOk M) (Z : KZ) (hZ : Sim cd_X6_isFigureCell Z Ret) : Z 0 [some (mi s)] [] M := by
  refine w_iload hZ 0 1 rfl rfl rfl ?_
  refine w_const hZ 1 2 rfl rfl  ?_
  refine w_clt hZ 2 3 rfl rfl (fun c2 => ?_) (fun c2 => ?_)
  · refine w_const hZ 8 9 rfl rfl  ?_
    refine w_zret hZ 9 rfl (by omega) ?_
    exact ret_i hR (by (first | refine b2i_t ?_ | refine b2i_f ?_); (try simp only [isSm, isCp, isLt, isFg, isPC, isSg, isCl, isRC, isLC, isFC, isPCC, b2i_e, b2i_z] at *); omega)
  · refine w_iload hZ 3 4 rfl rfl rfl ?_
    refine w_const hZ 4 5 rfl rfl  ?_
    refine w_cgt hZ 5 6 rfl rfl (fun c5 => ?_) (fun c5 => ?_)
    · refine w_const hZ 8 9 rfl rfl  ?_
      refine w_zret hZ 9 rfl (by omega) ?_
      exact ret_i hR (by (first | refine b2i_t ?_ | refine b2i_f ?_); (try simp only [isSm, isCp, isLt, isFg, isPC, isSg, isCl, isRC, isLC, isFC, isPCC, b2i_e, b2i_z] at *); omega)
    · refine w_const hZ 6 7 rfl rfl  ?_
      refine w_goto hZ 7 9 rfl ?_
      refine w_zret hZ 9 rfl (by omega) ?_
      exact ret_i hR (by (first | refine b2i_t ?_ | refine b2i_f ?_); (try simp only [isSm, isCp, isLt, isFg, isPC, isSg, isCl, isRC, isLC, isFC, isPCC, b2i_e, b2i_z] at *); omega)
set_option maxRecDepth 100000 in
set_option maxHeartbeats 4000000 in
theorem ao_X6_isFigureCell : AllOk yX6_isFigureCell.cls cX6_isFigureCell 1 0 0 (some .boolean) none pc_X6_isFigureCell 0 cd_X6_isFigureCell := ⟨s_iload_n (k := 0) (by decide +kernel) rfl rfl, ⟨s_iconst (by decide +kernel) rfl ⟨by decide, by decide⟩, ⟨s_clt (off := (13)) (by decide +kernel) rfl rfl, ⟨s_iload_n (k := 0) (by decide +kernel) rfl rfl, ⟨s_bipush (by decide +kernel) rfl ⟨by decide, by decide⟩ (by decide +kernel), ⟨s_cgt (off := (7)) (by decide +kernel) rfl rfl, ⟨s_iconst (by decide +kernel) rfl ⟨by decide, by decide⟩, ⟨s_goto (off := (4)) (by decide +kernel) rfl, ⟨s_iconst (by decide +kernel) rfl ⟨by decide, by decide⟩, ⟨s_zret rfl (by decide +kernel), trivial⟩⟩⟩⟩⟩⟩⟩⟩⟩⟩
theorem ct_X6_isFigureCell : Ctr yX6_isFigureCell cX6_isFigureCell 1 (some .boolean) 0 0 sp_X6_isFigureCell := by
  refine ctr_of (by decide +kernel) ao_X6_isFigureCell rfl ?_
  rintro av M Ret ⟨s, rfl, hR⟩ hok hM
  exact ⟨Nat.le_of_ble_eq_true rfl, fun Z hZ => b_X6_isFigureCell  s (hok _ (List.mem_of_getElem? (i := 0) rfl)) M Ret  hR hM Z hZ⟩
def sp_X6_isPointOrCommaCell : SP := fun av M Ret => ∃ s : Int, av = [mi s] ∧ (Ret (some (mi (b2i (isPCC s)))) M)
theorem k_X6_isPointOrCommaCell {code : List Sem} {Z : KZ} {Ret : KR} {ls : List (Option MV)} {M : Mem} {r : List MV} (hZ : Sim code Z Ret) (ip np : Nat) {s : Int} (hc : code[ip]? = some (I_callS 1 sp_X6_isPointOrCommaCell)) (hn : ip + 1 = np) (h3 : catS r ≤ 8)   (kz : Z np ls (mi (b2i (isPCC s)) :: r) M) : Z ip ls (mi s :: r) M := w_callS1 hZ ip np hc hn h3 ⟨_, rfl, kz⟩
def cd_X6_isPointOrCommaCell : List Sem := [I_iload 0, I_const (27), I_ceq 6, I_iload 0, I_const (28), I_cne 8, I_const (1), I_goto 9, I_const (0), I_zret]
def pc_X6_isPointOrCommaCell : List Nat := [0, 1, 3, 6, 7, 9, 12, 13, 16, 17]
set_option maxRecDepth 100000 in
set_option maxHeartbeats 4000000 in
theorem b_X6_isPointOrCommaCell (s : Int) (i_s : InR s) (M : Mem) (Ret : KR)  (hR : Ret (some (mi (b2i (isPCC s)))) M) (hM : MOk M) (Z : KZ) (hZ : Sim cd_X6_isPointOrCommaCell Z Ret) : Z 0 [some (mi s)] [] M := by
  refine w_iload hZ 0 1 rfl rfl rfl ?_
  refine w_const hZ 1 2 rfl rfl  ?_
  refine w_ceq hZ 2 3 rfl rfl (fun c2 => ?_) (fun c2 => ?_)
  · refine w_const hZ 6 7 rfl rfl  ?_
    refine w_goto hZ 7 9 rfl ?_
    refine w_zret hZ 9 rfl (by omega) ?_
    exact ret_i hR (by (first | refine b2i_t ?_ | refine b2i_f ?_); (try simp only [isSm, isCp, isLt, isFg, isPC, isSg, isCl, isRC, isLC, isFC, isPCC, b2i_e, b2i_z] at *); omega)
  · refine w_iload hZ 3 4 rfl rfl rfl ?_
    refine w_const hZ 4 5 rfl rfl  ?_
    refine w_cne hZ 5 6 rfl rfl (fun c5 => ?_) (fun c5 => ?_)
    · refine w_const hZ 8 9 rfl rfl  ?_
      refine w_zret hZ 9 rfl (by omega) ?_
      exact ret_i hR (by (first | refine b2i_t ?_ | refine b2i_f ?_); (try simp only [isSm, isCp, isLt, isFg, isPC, isSg, isCl, isRC, isLC, isFC, isPCC, b2i_e, b2i_z] at *); omega)
    · refine w_const hZ 6 7 rfl rfl  ?_
      refine w_goto hZ 7 9 rfl ?_
      refine w_zret hZ 9 rfl (by omega) ?_
      exact ret_i hR (by (first | refine b2i_t ?_ | refine b2i_f ?_); (try simp only [isSm, isCp, isLt, isFg, isPC, isSg, isCl, isRC, isLC, isFC, isPCC, b2i_e, b2i_z] at *); omega)
set_option maxRecDepth 100000 in
set_option maxHeartbeats 4000000 in
theorem ao_X6_isPointOrCommaCell : AllOk yX6_isPointOrCommaCell.cls cX6_isPointOrCommaCell 1 0 0 (some .boolean) none pc_X6_isPointOrCommaCell 0 cd_X6_isPointOrCommaCell := ⟨s_iload_n (k := 0) (by decide +kernel) rfl rfl, ⟨s_bipush (by decide +kernel) rfl ⟨by decide, by decide⟩ (by decide +kernel), ⟨s_ceq (off := (9)) (by decide +kernel) rfl rfl, ⟨s_iload_n (k := 0) (by decide +kernel) rfl rfl, ⟨s_bipush (by decide +kernel) rfl ⟨by decide, by decide⟩ (by decide +kernel), ⟨s_cne (off := (7)) (by decide +kernel) rfl rfl, ⟨s_iconst (by decide +kernel) rfl ⟨by decide, by decide⟩, ⟨s_goto (off := (4)) (by decide +kernel) rfl, ⟨s_iconst (by decide +kernel) rfl ⟨by decide, by decide⟩, ⟨s_zret rfl (by decide +kernel), trivial⟩⟩⟩⟩⟩⟩⟩⟩⟩⟩
theorem ct_X6_isPointOrCommaCell : Ctr yX6_isPointOrCommaCell cX6_isPointOrCommaCell 1 (some .boolean) 0 0 sp_X6_isPointOrCommaCell := by
  refine ctr_of (by decide +kernel) ao_X6_isPointOrCommaCell rfl ?_
  rintro av M Ret ⟨s, rfl, hR⟩ hok hM
  exact ⟨Nat.le_of_ble_eq_true rfl, fun Z hZ => b_X6_isPointOrCommaCell  s (hok _ (List.mem_of_getElem? (i := 0) rfl)) M Ret  hR hM Z hZ⟩
def sp_X6_cellOfMark : SP := fun av M Ret => ∃ s : Int, av = [mi s] ∧ (Ret (some (mi (mkC s))) M)
theorem k_X6_cellOfMark {code : List Sem} {Z : KZ} {Ret : KR} {ls : List (Option MV)} {M : Mem} {r : List MV} (hZ : Sim code Z Ret) (ip np : Nat) {s : Int} (hc : code[ip]? = some (I_callS 1 sp_X6_cellOfMark)) (hn : ip + 1 = np) (h3 : catS r ≤ 8)   (kz : Z np ls (mi (mkC s) :: r) M) : Z ip ls (mi s :: r) M := w_callS1 hZ ip np hc hn h3 ⟨_, rfl, kz⟩
def cd_X6_cellOfMark : List Sem := [I_iload 0, I_tsw (44) [4, 6, 2] 8, I_const (27), I_iret, I_const (28), I_iret, I_const (29), I_iret, I_const (0), I_iret]
def pc_X6_cellOfMark : List Nat := [0, 1, 28, 30, 31, 33, 34, 36, 37, 38]
set_option maxRecDepth 100000 in
set_option maxHeartbeats 4000000 in
theorem b_X6_cellOfMark (s : Int) (i_s : InR s) (M : Mem) (Ret : KR)  (hR : Ret (some (mi (mkC s))) M) (hM : MOk M) (Z : KZ) (hZ : Sim cd_X6_cellOfMark Z Ret) : Z 0 [some (mi s)] [] M := by
  refine w_iload hZ 0 1 rfl rfl rfl ?_
  refine w_tsw3 hZ 1 rfl (fun c1 => ?_) (fun c1 => ?_) (fun c1 => ?_) (fun c1 => ?_)
  · refine w_const hZ 4 5 rfl rfl  ?_
    refine w_iret hZ 5 rfl ?_
    exact ret_i hR (by unfold mkC; repeat' split <;> omega)
  · refine w_const hZ 6 7 rfl rfl  ?_
    refine w_iret hZ 7 rfl ?_
    exact ret_i hR (by unfold mkC; repeat' split <;> omega)
  · refine w_const hZ 2 3 rfl rfl  ?_
    refine w_iret hZ 3 rfl ?_
    exact ret_i hR (by unfold mkC; repeat' split <;> omega)
  · refine w_const hZ 8 9 rfl rfl  ?_
    refine w_iret hZ 9 rfl ?_
    exact ret_i hR (by unfold mkC; repeat' split <;> omega)
set_option maxRecDepth 100000 in
set_option maxHeartbeats 4000000 in
theorem ao_X6_cellOfMark : AllOk yX6_cellOfMark.cls cX6_cellOfMark 1 0 0 (some .int) none pc_X6_cellOfMark 0 cd_X6_cellOfMark := ⟨s_iload_n (k := 0) (by decide +kernel) rfl rfl, ⟨s_tsw (dfl := 36) (hi0 := 46) (offs := #[30, 33, 27]) (len := 27) (by decide +kernel) rfl rfl rfl, ⟨s_bipush (by decide +kernel) rfl ⟨by decide, by decide⟩ (by decide +kernel), ⟨s_iret rfl (by decide +kernel), ⟨s_bipush (by decide +kernel) rfl ⟨by decide, by decide⟩ (by decide +kernel), ⟨s_iret rfl (by decide +kernel), ⟨s_bipush (by decide +kernel) rfl ⟨by decide, by decide⟩ (by decide +kernel), ⟨s_iret rfl (by decide +kernel), ⟨s_iconst (by decide +kernel) rfl ⟨by decide, by decide⟩, ⟨s_iret rfl (by decide +kernel), trivial⟩⟩⟩⟩⟩⟩⟩⟩⟩⟩
theorem ct_X6_cellOfMark : Ctr yX6_cellOfMark cX6_cellOfMark 1 (some .int) 0 0 sp_X6_cellOfMark := by
  refine ctr_of (by decide +kernel) ao_X6_cellOfMark rfl ?_
  rintro av M Ret ⟨s, rfl, hR⟩ hok hM
  exact ⟨Nat.le_of_ble_eq_true rfl, fun Z hZ => b_X6_cellOfMark  s (hok _ (List.mem_of_getElem? (i := 0) rfl)) M Ret  hR hM Z hZ⟩
def sp_X6_signOfMarkCell : SP := fun av M Ret => ∃ s : Int, av = [mi s] ∧ (Ret (some (mi (mkS s))) M)
theorem k_X6_signOfMarkCell {code : List Sem} {Z : KZ} {Ret : KR} {ls : List (Option MV)} {M : Mem} {r : List MV} (hZ : Sim code Z Ret) (ip np : Nat) {s : Int} (hc : code[ip]? = some (I_callS 1 sp_X6_signOfMarkCell)) (hn : ip + 1 = np) (h3 : catS r ≤ 8)   (kz : Z np ls (mi (mkS s) :: r) M) : Z ip ls (mi s :: r) M := w_callS1 hZ ip np hc hn h3 ⟨_, rfl, kz⟩
def cd_X6_signOfMarkCell : List Sem := [I_iload 0, I_tsw (27) [2, 4, 6] 8, I_const (46), I_iret, I_const (44), I_iret, I_const (45), I_iret, I_const (32), I_iret]
def pc_X6_signOfMarkCell : List Nat := [0, 1, 28, 30, 31, 33, 34, 36, 37, 39]
set_option maxRecDepth 100000 in
set_option maxHeartbeats 4000000 in
theorem b_X6_signOfMarkCell (s : Int) (i_s : InR s) (M : Mem) (Ret : KR)  (hR : Ret (some (mi (mkS s))) M) (hM : MOk M) (Z : KZ) (hZ : Sim cd_X6_signOfMarkCell Z Ret) : Z 0 [some (mi s)] [] M := by
  refine w_iload hZ 0 1 rfl rfl rfl ?_
  refine w_tsw3 hZ 1 rfl (fun c1 => ?_) (fun c1 => ?_) (fun c1 => ?_) (fun c1 => ?_)
  · refine w_const hZ 2 3 rfl rfl  ?_
    refine w_iret hZ 3 rfl ?_
    exact ret_i hR (by unfold mkS; repeat' split <;> omega)
  · refine w_const hZ 4 5 rfl rfl  ?_
    refine w_iret hZ 5 rfl ?_
    exact ret_i hR (by unfold mkS; repeat' split <;> omega)
  · refine w_const hZ 6 7 rfl rfl  ?_
    refine w_iret hZ 7 rfl ?_
    exact ret_i hR (by unfold mkS; repeat' split <;> omega)
  · refine w_const hZ 8 9 rfl rfl  ?_
    refine w_iret hZ 9 rfl ?_
    exact ret_i hR (by unfold mkS; repeat' split <;> omega)
set_option maxRecDepth 100000 in
set_option maxHeartbeats 4000000 in
theorem ao_X6_signOfMarkCell : AllOk yX6_signOfMarkCell.cls cX6_signOfMarkCell 1 0 0 (some .int) none pc_X6_signOfMarkCell 0 cd_X6_signOfMarkCell := ⟨s_iload_n (k := 0) (by decide +kernel) rfl rfl, ⟨s_tsw (dfl := 36) (hi0 := 29) (offs := #[27, 30, 33]) (len := 27) (by decide +kernel) rfl rfl rfl, ⟨s_bipush (by decide +kernel) rfl ⟨by decide, by decide⟩ (by decide +kernel), ⟨s_iret rfl (by decide +kernel), ⟨s_bipush (by decide +kernel) rfl ⟨by decide, by decide⟩ (by decide +kernel), ⟨s_iret rfl (by decide +kernel), ⟨s_bipush (by decide +kernel) rfl ⟨by decide, by decide⟩ (by decide +kernel), ⟨s_iret rfl (by decide +kernel), ⟨s_bipush (by decide +kernel) rfl ⟨by decide, by decide⟩ (by decide +kernel), ⟨s_iret rfl (by decide +kernel), trivial⟩⟩⟩⟩⟩⟩⟩⟩⟩⟩
theorem ct_X6_signOfMarkCell : Ctr yX6_signOfMarkCell cX6_signOfMarkCell 1 (some .int) 0 0 sp_X6_signOfMarkCell := by
  refine ctr_of (by decide +kernel) ao_X6_signOfMarkCell rfl ?_
  rintro av M Ret ⟨s, rfl, hR⟩ hok hM
  exact ⟨Nat.le_of_ble_eq_true rfl, fun Z hZ => b_X6_signOfMarkCell  s (hok _ (List.mem_of_getElem? (i := 0) rfl)) M Ret  hR hM Z hZ⟩
def sp_X6_cellOfFigure : SP := fun av M Ret => ∃ s : Int, av = [mi s] ∧ (0 ≤ s ∧ s ≤ 1000) ∧ (Ret (some (mi (fgC s))) M)
theorem k_X6_cellOfFigure {code : List Sem} {Z : KZ} {Ret : KR} {ls : List (Option MV)} {M : Mem} {r : List MV} (hZ : Sim code Z Ret) (ip np : Nat) {s : Int} (hc : code[ip]? = some (I_callS 1 sp_X6_cellOfFigure)) (hn : ip + 1 = np) (h3 : catS r ≤ 8)  (hp : 0 ≤ s ∧ s ≤ 1000) (kz : Z np ls (mi (fgC s) :: r) M) : Z ip ls (mi s :: r) M := w_callS1 hZ ip np hc hn h3 ⟨_, rfl, hp, kz⟩
def cd_X6_cellOfFigure : List Sem := [I_iload 0, I_const (48), I_cne 5, I_const (10), I_goto 8, I_iload 0, I_const (48), I_sub, I_iret]
def pc_X6_cellOfFigure : List Nat := [0, 1, 3, 6, 8, 11, 12, 14, 15]
set_option maxRecDepth 100000 in
set_option maxHeartbeats 4000000 in
theorem b_X6_cellOfFigure (s : Int) (i_s : InR s) (M : Mem) (Ret : KR) (hp : 0 ≤ s ∧ s ≤ 1000) (hR : Ret (some (mi (fgC s))) M) (hM : MOk M) (Z : KZ) (hZ : Sim cd_X6_cellOfFigure Z Ret) : Z 0 [some (mi s)] [] M := by
  refine w_iload hZ 0 1 rfl rfl rfl ?_
  refine w_const hZ 1 2 rfl rfl  ?_
  refine w_cne hZ 2 3 rfl rfl (fun c2 => ?_) (fun c2 => ?_)
  · refine w_iload hZ 5 6 rfl rfl rfl ?_
    refine w_const hZ 6 7 rfl rfl  ?_
    refine w_sub hZ 7 8 rfl rfl (by unfold InR; omega) ?_
    refine w_iret hZ 8 rfl ?_
    exact ret_i hR (by unfold fgC; repeat' split <;> omega)
  · refine w_const hZ 3 4 rfl rfl  ?_
    refine w_goto hZ 4 8 rfl ?_
    refine w_iret hZ 8 rfl ?_
    exact ret_i hR (by unfold fgC; repeat' split <;> omega)
set_option maxRecDepth 100000 in
set_option maxHeartbeats 4000000 in
theorem ao_X6_cellOfFigure : AllOk yX6_cellOfFigure.cls cX6_cellOfFigure 1 0 0 (some .int) none pc_X6_cellOfFigure 0 cd_X6_cellOfFigure := ⟨s_iload_n (k := 0) (by decide +kernel) rfl rfl, ⟨s_bipush (by decide +kernel) rfl ⟨by decide, by decide⟩ (by decide +kernel), ⟨s_cne (off := (8)) (by decide +kernel) rfl rfl, ⟨s_bipush (by decide +kernel) rfl ⟨by decide, by decide⟩ (by decide +kernel), ⟨s_goto (off := (7)) (by decide +kernel) rfl, ⟨s_iload_n (k := 0) (by decide +kernel) rfl rfl, ⟨s_bipush (by decide +kernel) rfl ⟨by decide, by decide⟩ (by decide +kernel), ⟨s_sub (by decide +kernel) rfl, ⟨s_iret rfl (by decide +kernel), trivial⟩⟩⟩⟩⟩⟩⟩⟩⟩
theorem ct_X6_cellOfFigure : Ctr yX6_cellOfFigure cX6_cellOfFigure 1 (some .int) 0 0 sp_X6_cellOfFigure := by
  refine ctr_of (by decide +kernel) ao_X6_cellOfFigure rfl ?_
  rintro av M Ret ⟨s, rfl, hp, hR⟩ hok hM
  exact ⟨Nat.le_of_ble_eq_true rfl, fun Z hZ => b_X6_cellOfFigure  s (hok _ (List.mem_of_getElem? (i := 0) rfl)) M Ret hp hR hM Z hZ⟩
def sp_X6_signOfFigureCell : SP := fun av M Ret => ∃ s : Int, av = [mi s] ∧ (-100 ≤ s ∧ s ≤ 100) ∧ (Ret (some (mi (fgS s))) M)
theorem k_X6_signOfFigureCell {code : List Sem} {Z : KZ} {Ret : KR} {ls : List (Option MV)} {M : Mem} {r : List MV} (hZ : Sim code Z Ret) (ip np : Nat) {s : Int} (hc : code[ip]? = some (I_callS 1 sp_X6_signOfFigureCell)) (hn : ip + 1 = np) (h3 : catS r ≤ 8)  (hp : -100 ≤ s ∧ s ≤ 100) (kz : Z np ls (mi (fgS s) :: r) M) : Z ip ls (mi s :: r) M := w_callS1 hZ ip np hc hn h3 ⟨_, rfl, hp, kz⟩
def cd_X6_signOfFigureCell : List Sem := [I_iload 0, I_const (10), I_cne 5, I_const (48), I_goto 8, I_const (48), I_iload 0, I_add, I_iret]
def pc_X6_signOfFigureCell : List Nat := [0, 1, 3, 6, 8, 11, 13, 14, 15]
set_option maxRecDepth 100000 in
set_option maxHeartbeats 4000000 in
theorem b_X6_signOfFigureCell (s : Int) (i_s : InR s) (M : Mem) (Ret : KR) (hp : -100 ≤ s ∧ s ≤ 100) (hR : Ret (some (mi (fgS s))) M) (hM : MOk M) (Z : KZ) (hZ : Sim cd_X6_signOfFigureCell Z Ret) : Z 0 [some (mi s)] [] M := by
  refine w_iload hZ 0 1 rfl rfl rfl ?_
  refine w_const hZ 1 2 rfl rfl  ?_
  refine w_cne hZ 2 3 rfl rfl (fun c2 => ?_) (fun c2 => ?_)
  · refine w_const hZ 5 6 rfl rfl  ?_
    refine w_iload hZ 6 7 rfl rfl rfl ?_
    refine w_add hZ 7 8 rfl rfl (by unfold InR; omega) ?_
    refine w_iret hZ 8 rfl ?_
    exact ret_i hR (by unfold fgS; repeat' split <;> omega)
  · refine w_const hZ 3 4 rfl rfl  ?_
    refine w_goto hZ 4 8 rfl ?_
    refine w_iret hZ 8 rfl ?_
    exact ret_i hR (by unfold fgS; repeat' split <;> omega)
set_option maxRecDepth 100000 in
set_option maxHeartbeats 4000000 in
theorem ao_X6_signOfFigureCell : AllOk yX6_signOfFigureCell.cls cX6_signOfFigureCell 1 0 0 (some .int) none pc_X6_signOfFigureCell 0 cd_X6_signOfFigureCell := ⟨s_iload_n (k := 0) (by decide +kernel) rfl rfl, ⟨s_bipush (by decide +kernel) rfl ⟨by decide, by decide⟩ (by decide +kernel), ⟨s_cne (off := (8)) (by decide +kernel) rfl rfl, ⟨s_bipush (by decide +kernel) rfl ⟨by decide, by decide⟩ (by decide +kernel), ⟨s_goto (off := (7)) (by decide +kernel) rfl, ⟨s_bipush (by decide +kernel) rfl ⟨by decide, by decide⟩ (by decide +kernel), ⟨s_iload_n (k := 0) (by decide +kernel) rfl rfl, ⟨s_add (by decide +kernel) rfl, ⟨s_iret rfl (by decide +kernel), trivial⟩⟩⟩⟩⟩⟩⟩⟩⟩
theorem ct_X6_signOfFigureCell : Ctr yX6_signOfFigureCell cX6_signOfFigureCell 1 (some .int) 0 0 sp_X6_signOfFigureCell := by
  refine ctr_of (by decide +kernel) ao_X6_signOfFigureCell rfl ?_
  rintro av M Ret ⟨s, rfl, hp, hR⟩ hok hM
  exact ⟨Nat.le_of_ble_eq_true rfl, fun Z hZ => b_X6_signOfFigureCell  s (hok _ (List.mem_of_getElem? (i := 0) rfl)) M Ret hp hR hM Z hZ⟩
def sp_X6_lettersOf : SP := fun av M Ret => ∃ c : Int, av = [mi c] ∧ (c < 531441) ∧ (Ret (some (mi (lnC c))) M)
theorem k_X6_lettersOf {code : List Sem} {Z : KZ} {Ret : KR} {ls : List (Option MV)} {M : Mem} {r : List MV} (hZ : Sim code Z Ret) (ip np : Nat) {c : Int} (hc : code[ip]? = some (I_callS 1 sp_X6_lettersOf)) (hn : ip + 1 = np) (h3 : catS r ≤ 8)  (hp : c < 531441) (kz : Z np ls (mi (lnC c) :: r) M) : Z ip ls (mi c :: r) M := w_callS1 hZ ip np hc hn h3 ⟨_, rfl, hp, kz⟩
def cd_X6_lettersOf : List Sem := [I_const (0), I_istore 1, I_iload 0, I_istore 2, I_const (0), I_istore 3, I_iload 3, I_const (4), I_cge 18, I_iload 2, I_ifle 18, I_iload 2, I_const (27), I_div, I_istore 2, I_iinc 1 (1), I_iinc 3 (1), I_goto 6, I_iload 1, I_iret]
def pc_X6_lettersOf : List Nat := [0, 1, 2, 3, 4, 5, 6, 7, 8, 11, 12, 15, 16, 18, 19, 20, 23, 26, 29, 30]
set_option maxRecDepth 100000 in
set_option maxHeartbeats 4000000 in
theorem b_X6_lettersOf (c : Int) (i_c : InR c) (M : Mem) (Ret : KR) (hp : c < 531441) (hR : Ret (some (mi (lnC c))) M) (hM : MOk M) (Z : KZ) (hZ : Sim cd_X6_lettersOf Z Ret) : Z 0 [some (mi c), none, none, none] [] M := by
  have loop : ∀ (d : Nat) (i left : Int), d = (4 - i).toNat → ((i = 0 ∧ left < 531441) ∨ (i = 1 ∧ left < 19683) ∨ (i = 2 ∧ left < 729) ∨ (i = 3 ∧ left < 27) ∨ (i = 4 ∧ left < 1)) → i + lnC left = lnC c → Z 6 [some (mi c), some (mi i), some (mi left), some (mi i)] [] M := by
    intro d
    induction d using Nat.strongRecOn with
    | ind d ih =>
      intro i left hd hB hs
      refine w_iload hZ 6 7 rfl rfl rfl ?_
      refine w_const hZ 7 8 rfl rfl  ?_
      refine w_cge hZ 8 9 rfl rfl (fun c8 => ?_) (fun c8 => ?_)
      · refine w_iload hZ 18 19 rfl rfl rfl ?_
        refine w_iret hZ 19 rfl ?_
        exact ret_i hR (by have e := lnC_0 (c := left) (by omega); omega)
      · refine w_iload hZ 9 10 rfl rfl rfl ?_
        refine w_ifle hZ 10 11 rfl rfl (fun c10 => ?_) (fun c10 => ?_)
        · refine w_iload hZ 18 19 rfl rfl rfl ?_
          refine w_iret hZ 19 rfl ?_
          exact ret_i hR (by have e := lnC_0 (c := left) (by omega); omega)
        · refine w_iload hZ 11 12 rfl rfl rfl ?_
          refine w_const hZ 12 13 rfl rfl  ?_
          refine w_div hZ 13 14 rfl rfl (by omega) (by omega) ?_
          refine w_st4_2 hZ 14 15 rfl rfl rfl ?_
          refine w_in4_1 hZ 15 16 rfl rfl rfl (by unfold InR; omega) ?_
          refine w_in4_3 hZ 16 17 rfl rfl rfl (by unfold InR; omega) ?_
          refine w_goto hZ 17 6 rfl ?_
          exact ih ((4 - (i + 1)).toNat) (by omega) (i + 1) (left / 27) rfl (by omega) (by have := lnC_step c10 (by omega); omega)
  refine w_const hZ 0 1 rfl rfl  ?_
  refine w_st4_1 hZ 1 2 rfl rfl rfl ?_
  refine w_iload hZ 2 3 rfl rfl rfl ?_
  refine w_st4_2 hZ 3 4 rfl rfl rfl ?_
  refine w_const hZ 4 5 rfl rfl  ?_
  refine w_st4_3 hZ 5 6 rfl rfl rfl ?_
  exact loop 4 0 c rfl (by omega) (by omega)
set_option maxRecDepth 100000 in
set_option maxHeartbeats 4000000 in
theorem ao_X6_lettersOf : AllOk yX6_lettersOf.cls cX6_lettersOf 4 0 0 (some .int) none pc_X6_lettersOf 0 cd_X6_lettersOf := ⟨s_iconst (by decide +kernel) rfl ⟨by decide, by decide⟩, ⟨s_istore_n (k := 1) (by decide +kernel) rfl rfl, ⟨s_iload_n (k := 0) (by decide +kernel) rfl rfl, ⟨s_istore_n (k := 2) (by decide +kernel) rfl rfl, ⟨s_iconst (by decide +kernel) rfl ⟨by decide, by decide⟩, ⟨s_istore_n (k := 3) (by decide +kernel) rfl rfl, ⟨s_iload_n (k := 3) (by decide +kernel) rfl rfl, ⟨s_iconst (by decide +kernel) rfl ⟨by decide, by decide⟩, ⟨s_cge (off := (21)) (by decide +kernel) rfl rfl, ⟨s_iload_n (k := 2) (by decide +kernel) rfl rfl, ⟨s_ifle (off := (17)) (by decide +kernel) rfl rfl, ⟨s_iload_n (k := 2) (by decide +kernel) rfl rfl, ⟨s_bipush (by decide +kernel) rfl ⟨by decide, by decide⟩ (by decide +kernel), ⟨s_div (by decide +kernel) rfl, ⟨s_istore_n (k := 2) (by decide +kernel) rfl rfl, ⟨s_iinc (by decide +kernel) rfl, ⟨s_iinc (by decide +kernel) rfl, ⟨s_goto (off := (-20)) (by decide +kernel) rfl, ⟨s_iload_n (k := 1) (by decide +kernel) rfl rfl, ⟨s_iret rfl (by decide +kernel), trivial⟩⟩⟩⟩⟩⟩⟩⟩⟩⟩⟩⟩⟩⟩⟩⟩⟩⟩⟩⟩
theorem ct_X6_lettersOf : Ctr yX6_lettersOf cX6_lettersOf 4 (some .int) 0 0 sp_X6_lettersOf := by
  refine ctr_of (by decide +kernel) ao_X6_lettersOf rfl ?_
  rintro av M Ret ⟨c, rfl, hp, hR⟩ hok hM
  exact ⟨Nat.le_of_ble_eq_true rfl, fun Z hZ => b_X6_lettersOf  c (hok _ (List.mem_of_getElem? (i := 0) rfl)) M Ret hp hR hM Z hZ⟩
def sp_X6_isCode : SP := fun av M Ret => ∃ c : Int, av = [mi c] ∧ (Ret (some (mi (b2i (vC c)))) M)
theorem k_X6_isCode {code : List Sem} {Z : KZ} {Ret : KR} {ls : List (Option MV)} {M : Mem} {r : List MV} (hZ : Sim code Z Ret) (ip np : Nat) {c : Int} (hc : code[ip]? = some (I_callS 1 sp_X6_isCode)) (hn : ip + 1 = np) (h3 : catS r ≤ 8)   (kz : Z np ls (mi (b2i (vC c)) :: r) M) : Z ip ls (mi c :: r) M := w_callS1 hZ ip np hc hn h3 ⟨_, rfl, kz⟩
def cd_X6_isCode : List Sem := [I_iload 0, I_iflt 5, I_iload 0, I_const (531441), I_clt 7, I_const (0), I_zret, I_iload 0, I_callS 1 sp_X6_lettersOf, I_istore 1, I_iload 0, I_istore 2, I_const (0), I_istore 3, I_iload 3, I_iload 1, I_cge 29, I_iload 2, I_const (27), I_rem, I_ifne 23, I_const (0), I_zret, I_iload 2, I_const (27), I_div, I_istore 2, I_iinc 3 (1), I_goto 14, I_iload 1, I_const (2), I_clt 34, I_const (1), I_goto 35, I_const (0), I_zret]
def pc_X6_isCode : List Nat := [0, 1, 4, 5, 7, 10, 11, 12, 13, 16, 17, 18, 19, 20, 21, 22, 23, 26, 27, 29, 30, 33, 34, 35, 36, 38, 39, 40, 43, 46, 47, 48, 51, 52, 55, 56]
set_option maxRecDepth 100000 in
set_option maxHeartbeats 4000000 in
theorem b_X6_isCode (c : Int) (i_c : InR c) (M : Mem) (Ret : KR)  (hR : Ret (some (mi (b2i (vC c)))) M) (hM : MOk M) (Z : KZ) (hZ : Sim cd_X6_isCode Z Ret) : Z 0 [some (mi c), none, none, none] [] M := by
  have loop : ∀ (k : Nat) (i left : Int), 0 ≤ c → c < 531441 → i + k = lnC c → 0 ≤ i → 0 ≤ left → (27 ≤ c → (vC c ↔ nzD k left)) → Z 14 [some (mi c), some (mi (lnC c)), some (mi left), some (mi i)] [] M := by
    intro k
    induction k with
    | zero =>
      intro i left h0 h1 hi hi0 hl hv
      refine w_iload hZ 14 15 rfl rfl rfl ?_
      refine w_iload hZ 15 16 rfl rfl rfl ?_
      refine w_cge hZ 16 17 rfl rfl (fun c16 => ?_) (fun c16 => absurd c16 (by omega))
      refine w_iload hZ 29 30 rfl rfl rfl ?_
      refine w_const hZ 30 31 rfl rfl  ?_
      refine w_clt hZ 31 32 rfl rfl (fun c31 => ?_) (fun c31 => ?_)
      · refine w_const hZ 34 35 rfl rfl  ?_
        refine w_zret hZ 35 rfl (by omega) ?_
        first
          | exact ret_i hR (b2i_t ((hv (lnC_2.mp (by omega))).mpr trivial))
          | exact ret_i hR (b2i_f (fun q => by have := lnC_2.mpr q.1; omega))
      · refine w_const hZ 32 33 rfl rfl  ?_
        refine w_goto hZ 33 35 rfl ?_
        refine w_zret hZ 35 rfl (by omega) ?_
        first
          | exact ret_i hR (b2i_t ((hv (lnC_2.mp (by omega))).mpr trivial))
          | exact ret_i hR (b2i_f (fun q => by have := lnC_2.mpr q.1; omega))
    | succ k ih =>
      intro i left h0 h1 hi hi0 hl hv
      have hl4 := lnC_le c
      refine w_iload hZ 14 15 rfl rfl rfl ?_
      refine w_iload hZ 15 16 rfl rfl rfl ?_
      refine w_cge hZ 16 17 rfl rfl (fun c16 => absurd c16 (by omega)) (fun c16 => ?_)
      refine w_iload hZ 17 18 rfl rfl rfl ?_
      refine w_const hZ 18 19 rfl rfl  ?_
      refine w_rem hZ 19 20 rfl rfl (by omega) (by omega) ?_
      refine w_ifne hZ 20 21 rfl rfl (fun c20 => ?_) (fun c20 => ?_)
      · refine w_iload hZ 23 24 rfl rfl rfl ?_
        refine w_const hZ 24 25 rfl rfl  ?_
        refine w_div hZ 25 26 rfl rfl (by omega) (by omega) ?_
        refine w_st4_2 hZ 26 27 rfl rfl rfl ?_
        refine w_in4_3 hZ 27 28 rfl rfl rfl (by unfold InR; omega) ?_
        refine w_goto hZ 28 14 rfl ?_
        exact ih (i + 1) (left / 27) h0 h1 (by omega) (by omega) (by omega) (fun h => (hv h).trans ⟨fun q => q.2, fun q => ⟨c20, q⟩⟩)
      · refine w_const hZ 21 22 rfl rfl  ?_
        refine w_zret hZ 22 rfl (by omega) ?_
        exact ret_i hR (b2i_f (fun q => ((hv q.1).mp q).1 c20))
  refine w_iload hZ 0 1 rfl rfl rfl ?_
  refine w_iflt hZ 1 2 rfl rfl (fun c1 => ?_) (fun c1 => ?_)
  · refine w_const hZ 5 6 rfl rfl  ?_
    refine w_zret hZ 6 rfl (by omega) ?_
    exact ret_i hR (b2i_f (fun q => by have := q.1; have := q.2.1; omega))
  · refine w_iload hZ 2 3 rfl rfl rfl ?_
    refine w_const hZ 3 4 rfl rfl  ?_
    refine w_clt hZ 4 5 rfl rfl (fun c4 => ?_) (fun c4 => ?_)
    · refine w_iload hZ 7 8 rfl rfl rfl ?_
      refine k_X6_lettersOf hZ 8 9 rfl rfl (Nat.le_of_ble_eq_true rfl) c4 ?_
      refine w_st4_1 hZ 9 10 rfl rfl rfl ?_
      refine w_iload hZ 10 11 rfl rfl rfl ?_
      refine w_st4_2 hZ 11 12 rfl rfl rfl ?_
      refine w_const hZ 12 13 rfl rfl  ?_
      refine w_st4_3 hZ 13 14 rfl rfl rfl ?_
      exact loop (lnC c).toNat 0 c c1 c4 (by have := lnC_le c; omega) (by omega) (by omega) (fun h => vC_nz h c4)
    · refine w_const hZ 5 6 rfl rfl  ?_
      refine w_zret hZ 6 rfl (by omega) ?_
      exact ret_i hR (b2i_f (fun q => by have := q.1; have := q.2.1; omega))
set_option maxRecDepth 100000 in
set_option maxHeartbeats 4000000 in
theorem ao_X6_isCode : AllOk yX6_isCode.cls cX6_isCode 4 1 23 (some .boolean) none pc_X6_isCode 0 cd_X6_isCode := ⟨s_iload_n (k := 0) (by decide +kernel) rfl rfl, ⟨s_iflt (off := (9)) (by decide +kernel) rfl rfl, ⟨s_iload_n (k := 0) (by decide +kernel) rfl rfl, ⟨s_ldc (v := (531441)) tw_1_235 (by decide +kernel) rfl ⟨by decide, by decide⟩ (by decide +kernel), ⟨s_clt (off := (5)) (by decide +kernel) rfl rfl, ⟨s_iconst (by decide +kernel) rfl ⟨by decide, by decide⟩, ⟨s_zret rfl (by decide +kernel), ⟨s_iload_n (k := 0) (by decide +kernel) rfl rfl, ⟨s_callS ct_X6_lettersOf (by decide) (by decide) ⟨by decide +kernel, by decide +kernel, by decide +kernel⟩ tw_1_236 tw_1_237 tw_1_1 tw_1_238 (by decide +kernel) rfl, ⟨s_istore_n (k := 1) (by decide +kernel) rfl rfl, ⟨s_iload_n (k := 0) (by decide +kernel) rfl rfl, ⟨s_istore_n (k := 2) (by decide +kernel) rfl rfl, ⟨s_iconst (by decide +kernel) rfl ⟨by decide, by decide⟩, ⟨s_istore_n (k := 3) (by decide +kernel) rfl rfl, ⟨s_iload_n (k := 3) (by decide +kernel) rfl rfl, ⟨s_iload_n (k := 1) (by decide +kernel) rfl rfl, ⟨s_cge (off := (23)) (by decide +kernel) rfl rfl, ⟨s_iload_n (k := 2) (by decide +kernel) rfl rfl, ⟨s_bipush (by decide +kernel) rfl ⟨by decide, by decide⟩ (by decide +kernel), ⟨s_rem (by decide +kernel) rfl, ⟨s_ifne (off := (5)) (by decide +kernel) rfl rfl, ⟨s_iconst (by decide +kernel) rfl ⟨by decide, by decide⟩, ⟨s_zret rfl (by decide +kernel), ⟨s_iload_n (k := 2) (by decide +kernel) rfl rfl, ⟨s_bipush (by decide +kernel) rfl ⟨by decide, by decide⟩ (by decide +kernel), ⟨s_div (by decide +kernel) rfl, ⟨s_istore_n (k := 2) (by decide +kernel) rfl rfl, ⟨s_iinc (by decide +kernel) rfl, ⟨s_goto (off := (-22)) (by decide +kernel) rfl, ⟨s_iload_n (k := 1) (by decide +kernel) rfl rfl, ⟨s_iconst (by decide +kernel) rfl ⟨by decide, by decide⟩, ⟨s_clt (off := (7)) (by decide +kernel) rfl rfl, ⟨s_iconst (by decide +kernel) rfl ⟨by decide, by decide⟩, ⟨s_goto (off := (4)) (by decide +kernel) rfl, ⟨s_iconst (by decide +kernel) rfl ⟨by decide, by decide⟩, ⟨s_zret rfl (by decide +kernel), trivial⟩⟩⟩⟩⟩⟩⟩⟩⟩⟩⟩⟩⟩⟩⟩⟩⟩⟩⟩⟩⟩⟩⟩⟩⟩⟩⟩⟩⟩⟩⟩⟩⟩⟩⟩⟩
theorem ct_X6_isCode : Ctr yX6_isCode cX6_isCode 4 (some .boolean) 1 23 sp_X6_isCode := by
  refine ctr_of (by decide +kernel) ao_X6_isCode rfl ?_
  rintro av M Ret ⟨c, rfl, hR⟩ hok hM
  exact ⟨Nat.le_of_ble_eq_true rfl, fun Z hZ => b_X6_isCode  c (hok _ (List.mem_of_getElem? (i := 0) rfl)) M Ret  hR hM Z hZ⟩
