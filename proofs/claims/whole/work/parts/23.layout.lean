/-! Layout -/
/-- the Layout's rows say: these lines -/
def LX (w : Int) (A : List (List Int)) (L : List Int) (M : Mem) : Prop := M 16 2 = (A.length : Int) + 1 ∧ M 16 3 = (A.flatten.length : Int) + L.length ∧ M 16 4 = w ∧ (∀ j : Nat, j < A.flatten.length + L.length → M 17 j = (A.flatten ++ L).getD j 0) ∧ ∀ l : Nat, l ≤ A.length → M 18 l = ((A.take l).flatten.length : Int)
def LX0 (w : Int) (M : Mem) : Prop := M 16 2 = 0 ∧ M 16 3 = 0 ∧ M 16 4 = w
def LXs (w : Int) (s : LST) (M : Mem) : Prop := match s with
  | none => LX0 w M
  | some q => LX w q.1 q.2 M
def bgL (M : Mem) : Mem := mup (mup M 18 (M 16 2).toNat (M 16 3)) 16 2 (M 16 2 + 1)
def adL (M : Mem) (c : Int) : Mem := mup (mup M 17 (M 16 3).toNat c) 16 3 (M 16 3 + 1)
theorem LX_bg {w : Int} {A : List (List Int)} {L : List Int} {M : Mem} (h : LX w A L M) : LX w (A ++ [L]) [] (bgL M) := by
  obtain ⟨h1, h2, h3, h4, h5⟩ := h
  have hf : (A ++ [L]).flatten = A.flatten ++ L := by simp
  refine ⟨by simp [bgL, mup_at, h1], ?_, by simp [bgL, mup_at, h3], fun j hj => ?_, fun l hl => ?_⟩
  · rw [hf]; simp only [List.length_append, List.length_nil]; simp [bgL, mup_at, h2]
  · rw [hf] at hj ⊢
    rw [List.append_nil]
    simp only [List.length_append, List.length_nil] at hj
    have e : bgL M 17 j = M 17 j := by simp [bgL, mup_at]
    rw [e]; exact h4 j (by omega)
  · rw [List.length_append] at hl
    simp only [List.length_cons, List.length_nil] at hl
    by_cases q : l = A.length + 1
    · have e : bgL M 18 l = M 16 3 := by
        have : l = (M 16 2).toNat := by omega
        simp [bgL, mup_at, this]
      rw [e, h2, List.take_of_length_le (by simp; omega), hf, List.length_append]; omega
    · have e : bgL M 18 l = M 18 l := by
        have : ¬ l = (M 16 2).toNat := by omega
        simp [bgL, mup_at, this]
      rw [e, h5 l (by omega), List.take_append_of_le_length (by omega)]
theorem LX_bg0 {w : Int} {M : Mem} (h : LX0 w M) : LX w [] [] (bgL M) := by
  obtain ⟨h1, h2, h3⟩ := h
  refine ⟨by simp [bgL, mup_at, h1], by simp [bgL, mup_at, h2], by simp [bgL, mup_at, h3], fun j hj => by simp at hj, fun l hl => ?_⟩
  have : l = 0 := by simpa using hl
  subst this
  simp [bgL, mup_at, h1, h2]
theorem LX_ad {w : Int} {A : List (List Int)} {L : List Int} {M : Mem} (h : LX w A L M) (c : Int) : LX w A (L ++ [c]) (adL M c) := by
  obtain ⟨h1, h2, h3, h4, h5⟩ := h
  refine ⟨by simp [adL, mup_at, h1], ?_, by simp [adL, mup_at, h3], fun j hj => ?_, fun l hl => ?_⟩
  · have e : adL M c 16 3 = M 16 3 + 1 := by simp [adL, mup_at]
    rw [e, h2]; simp only [List.length_append, List.length_cons, List.length_nil]; omega
  · simp only [List.length_append, List.length_cons, List.length_nil] at hj
    rw [← List.append_assoc]
    by_cases q : j = A.flatten.length + L.length
    · have e : adL M c 17 j = c := by
        have : j = (M 16 3).toNat := by omega
        simp [adL, mup_at, this]
      rw [e, List.getD_eq_getElem?_getD, List.getElem?_append_right (by rw [List.length_append]; omega), List.length_append, show j - (A.flatten.length + L.length) = 0 by omega]
      rfl
    · have e : adL M c 17 j = M 17 j := by
        have : ¬ j = (M 16 3).toNat := by omega
        simp [adL, mup_at, this]
      rw [e, h4 j (by omega), List.getD_eq_getElem?_getD, List.getD_eq_getElem?_getD, List.getElem?_append_left (l₁ := A.flatten ++ L) (l₂ := [c]) (by rw [List.length_append]; omega)]
  · have e : adL M c 18 l = M 18 l := by simp [adL, mup_at]
    rw [e]; exact h5 l hl
def sp_X2_beginLine : SP := fun av M Ret => av = [mr 16] ∧ (0 ≤ M 16 2 ∧ M 16 2 < 240) ∧ (∀ M2 : Mem, (M2 = bgL M) → Ret none M2)
theorem k_X2_beginLine {code : List Sem} {Z : KZ} {Ret : KR} {ls : List (Option MV)} {M : Mem} {r : List MV} (hZ : Sim code Z Ret) (ip np : Nat)  (hc : code[ip]? = some (I_callV 2 0 sp_X2_beginLine)) (hn : ip + 1 = np) (h3 : catS r ≤ 8)  (hp : 0 ≤ M 16 2 ∧ M 16 2 < 240) (kz : ∀ M2 : Mem, (M2 = bgL M) → Z np ls r M2) : Z ip ls (mr 16 :: r) M := w_callV0 hZ ip np hc hn rfl rfl h3 ⟨rfl, hp, fun M2 h => kz M2 h⟩
def cd_X2_beginLine : List Sem := [I_aload 0, I_get 2 2, I_const (240), I_cge 17, I_aload 0, I_get 2 1, I_aload 0, I_get 2 2, I_aload 0, I_get 2 3, I_iast, I_aload 0, I_dup, I_get 2 2, I_const (1), I_add, I_puti 2 2, I_vret]
def pc_X2_beginLine : List Nat := [0, 1, 4, 7, 10, 11, 14, 15, 18, 19, 22, 23, 24, 25, 28, 29, 30, 33]
set_option maxRecDepth 100000 in
set_option maxHeartbeats 4000000 in
theorem b_X2_beginLine  (M : Mem) (Ret : KR) (hp : 0 ≤ M 16 2 ∧ M 16 2 < 240) (hR : ∀ M2 : Mem, (M2 = bgL M) → Ret none M2) (hM : MOk M) (Z : KZ) (hZ : Sim cd_X2_beginLine Z Ret) : Z 0 [some (mr 16)] [] M := by
  obtain ⟨a1, a2⟩ := hp
  refine w_aload hZ 0 1 rfl rfl rfl ?_
  refine w_geti hZ 1 2 rfl rfl rfl rfl rfl ?_
  refine w_const hZ 2 3 rfl rfl  ?_
  refine w_cge hZ 3 4 rfl rfl (fun c3 => absurd c3 (by omega)) (fun c3 => ?_)
  refine w_aload hZ 4 5 rfl rfl rfl ?_
  refine w_getr hZ 5 6 rfl rfl rfl rfl rfl ?_
  refine w_aload hZ 6 7 rfl rfl rfl ?_
  refine w_geti hZ 7 8 rfl rfl rfl rfl rfl ?_
  refine w_aload hZ 8 9 rfl rfl rfl ?_
  refine w_geti hZ 9 10 rfl rfl rfl rfl rfl ?_
  refine w_iast hZ 10 11 rfl rfl rfl (by omega) (by omega) ?_
  refine w_aload hZ 11 12 rfl rfl rfl ?_
  refine w_dup hZ 12 13 rfl rfl rfl ?_
  refine w_getiv hZ 13 14 rfl rfl rfl rfl rfl (v := M 16 2) rfl ?_
  refine w_const hZ 14 15 rfl rfl  ?_
  refine w_add hZ 15 16 rfl rfl (by unfold InR; omega) ?_
  refine w_puti hZ 16 17 rfl rfl rfl rfl rfl ?_
  refine w_vret hZ 17 rfl ?_
  exact hR _ rfl
set_option maxRecDepth 100000 in
set_option maxHeartbeats 4000000 in
theorem ao_X2_beginLine : AllOk yX2_beginLine.cls cX2_beginLine 1 0 0 none none pc_X2_beginLine 0 cd_X2_beginLine := ⟨s_aload_n (k := 0) (by decide +kernel) rfl rfl, ⟨s_get (C := RX2) (T := TX2) (N := 5) rfl inT2 (by decide) tw_1_138 (by decide +kernel) rfl, ⟨s_sipush (by decide +kernel) rfl ⟨by decide, by decide⟩ (by decide +kernel), ⟨s_cge (off := (26)) (by decide +kernel) rfl rfl, ⟨s_aload_n (k := 0) (by decide +kernel) rfl rfl, ⟨s_get (C := RX2) (T := TX2) (N := 5) rfl inT2 (by decide) tw_1_137 (by decide +kernel) rfl, ⟨s_aload_n (k := 0) (by decide +kernel) rfl rfl, ⟨s_get (C := RX2) (T := TX2) (N := 5) rfl inT2 (by decide) tw_1_138 (by decide +kernel) rfl, ⟨s_aload_n (k := 0) (by decide +kernel) rfl rfl, ⟨s_get (C := RX2) (T := TX2) (N := 5) rfl inT2 (by decide) tw_1_139 (by decide +kernel) rfl, ⟨s_iast (by decide +kernel) rfl, ⟨s_aload_n (k := 0) (by decide +kernel) rfl rfl, ⟨s_dup (by decide +kernel) rfl, ⟨s_get (C := RX2) (T := TX2) (N := 5) rfl inT2 (by decide) tw_1_138 (by decide +kernel) rfl, ⟨s_iconst (by decide +kernel) rfl ⟨by decide, by decide⟩, ⟨s_add (by decide +kernel) rfl, ⟨s_puti (C := RX2) (T := TX2) (N := 5) (tyf := tyX2) rfl inT2 tyX2_ok nmX2 (by decide) rfl rfl tw_1_138 (by decide +kernel) rfl, ⟨s_vret rfl (by decide +kernel), trivial⟩⟩⟩⟩⟩⟩⟩⟩⟩⟩⟩⟩⟩⟩⟩⟩⟩⟩
theorem ct_X2_beginLine : Ctr yX2_beginLine cX2_beginLine 1 none 0 0 sp_X2_beginLine := by
  refine ctr_of (by decide +kernel) ao_X2_beginLine rfl ?_
  rintro av M Ret ⟨rfl, hp, hR⟩ hok hM
  exact ⟨Nat.le_of_ble_eq_true rfl, fun Z hZ => b_X2_beginLine   M Ret hp hR hM Z hZ⟩
def sp_X2_addLaid : SP := fun av M Ret => ∃ c : Int, av = [mr 16, mi c] ∧ (0 ≤ M 16 3 ∧ M 16 3 < 240) ∧ (∀ M2 : Mem, (M2 = adL M c) → Ret none M2)
theorem k_X2_addLaid {code : List Sem} {Z : KZ} {Ret : KR} {ls : List (Option MV)} {M : Mem} {r : List MV} (hZ : Sim code Z Ret) (ip np : Nat) {c : Int} (hc : code[ip]? = some (I_callV 2 1 sp_X2_addLaid)) (hn : ip + 1 = np) (h3 : catS r ≤ 8)  (hp : 0 ≤ M 16 3 ∧ M 16 3 < 240) (kz : ∀ M2 : Mem, (M2 = adL M c) → Z np ls r M2) : Z ip ls (mi c :: mr 16 :: r) M := w_callV1 hZ ip np hc hn rfl rfl h3 ⟨_, rfl, hp, fun M2 h => kz M2 h⟩
def cd_X2_addLaid : List Sem := [I_aload 0, I_get 2 3, I_const (240), I_cge 16, I_aload 0, I_get 2 0, I_aload 0, I_get 2 3, I_iload 1, I_iast, I_aload 0, I_dup, I_get 2 3, I_const (1), I_add, I_puti 2 3, I_vret]
def pc_X2_addLaid : List Nat := [0, 1, 4, 7, 10, 11, 14, 15, 18, 19, 20, 21, 22, 25, 26, 27, 30]
set_option maxRecDepth 100000 in
set_option maxHeartbeats 4000000 in
theorem b_X2_addLaid (c : Int) (i_c : InR c) (M : Mem) (Ret : KR) (hp : 0 ≤ M 16 3 ∧ M 16 3 < 240) (hR : ∀ M2 : Mem, (M2 = adL M c) → Ret none M2) (hM : MOk M) (Z : KZ) (hZ : Sim cd_X2_addLaid Z Ret) : Z 0 [some (mr 16), some (mi c)] [] M := by
  obtain ⟨a1, a2⟩ := hp
  refine w_aload hZ 0 1 rfl rfl rfl ?_
  refine w_geti hZ 1 2 rfl rfl rfl rfl rfl ?_
  refine w_const hZ 2 3 rfl rfl  ?_
  refine w_cge hZ 3 4 rfl rfl (fun c3 => absurd c3 (by omega)) (fun c3 => ?_)
  refine w_aload hZ 4 5 rfl rfl rfl ?_
  refine w_getr hZ 5 6 rfl rfl rfl rfl rfl ?_
  refine w_aload hZ 6 7 rfl rfl rfl ?_
  refine w_geti hZ 7 8 rfl rfl rfl rfl rfl ?_
  refine w_iload hZ 8 9 rfl rfl rfl ?_
  refine w_iast hZ 9 10 rfl rfl rfl (by omega) (by omega) ?_
  refine w_aload hZ 10 11 rfl rfl rfl ?_
  refine w_dup hZ 11 12 rfl rfl rfl ?_
  refine w_getiv hZ 12 13 rfl rfl rfl rfl rfl (v := M 16 3) rfl ?_
  refine w_const hZ 13 14 rfl rfl  ?_
  refine w_add hZ 14 15 rfl rfl (by unfold InR; omega) ?_
  refine w_puti hZ 15 16 rfl rfl rfl rfl rfl ?_
  refine w_vret hZ 16 rfl ?_
  exact hR _ rfl
set_option maxRecDepth 100000 in
set_option maxHeartbeats 4000000 in
theorem ao_X2_addLaid : AllOk yX2_addLaid.cls cX2_addLaid 2 0 0 none none pc_X2_addLaid 0 cd_X2_addLaid := ⟨s_aload_n (k := 0) (by decide +kernel) rfl rfl, ⟨s_get (C := RX2) (T := TX2) (N := 5) rfl inT2 (by decide) tw_1_139 (by decide +kernel) rfl, ⟨s_sipush (by decide +kernel) rfl ⟨by decide, by decide⟩ (by decide +kernel), ⟨s_cge (off := (23)) (by decide +kernel) rfl rfl, ⟨s_aload_n (k := 0) (by decide +kernel) rfl rfl, ⟨s_get (C := RX2) (T := TX2) (N := 5) rfl inT2 (by decide) tw_1_136 (by decide +kernel) rfl, ⟨s_aload_n (k := 0) (by decide +kernel) rfl rfl, ⟨s_get (C := RX2) (T := TX2) (N := 5) rfl inT2 (by decide) tw_1_139 (by decide +kernel) rfl, ⟨s_iload_n (k := 1) (by decide +kernel) rfl rfl, ⟨s_iast (by decide +kernel) rfl, ⟨s_aload_n (k := 0) (by decide +kernel) rfl rfl, ⟨s_dup (by decide +kernel) rfl, ⟨s_get (C := RX2) (T := TX2) (N := 5) rfl inT2 (by decide) tw_1_139 (by decide +kernel) rfl, ⟨s_iconst (by decide +kernel) rfl ⟨by decide, by decide⟩, ⟨s_add (by decide +kernel) rfl, ⟨s_puti (C := RX2) (T := TX2) (N := 5) (tyf := tyX2) rfl inT2 tyX2_ok nmX2 (by decide) rfl rfl tw_1_139 (by decide +kernel) rfl, ⟨s_vret rfl (by decide +kernel), trivial⟩⟩⟩⟩⟩⟩⟩⟩⟩⟩⟩⟩⟩⟩⟩⟩⟩
theorem ct_X2_addLaid : Ctr yX2_addLaid cX2_addLaid 2 none 0 0 sp_X2_addLaid := by
  refine ctr_of (by decide +kernel) ao_X2_addLaid rfl ?_
  rintro av M Ret ⟨c, rfl, hp, hR⟩ hok hM
  exact ⟨Nat.le_of_ble_eq_true rfl, fun Z hZ => b_X2_addLaid  c (hok _ (List.mem_of_getElem? (i := 1) rfl)) M Ret hp hR hM Z hZ⟩
def sp_X2_lengthOfLast : SP := fun av M Ret => av = [mr 16] ∧ (0 < M 16 2 ∧ M 16 2 ≤ 240 ∧ 0 ≤ M 18 (M 16 2 - 1).toNat ∧ 0 ≤ M 16 3 ∧ M 16 3 ≤ 240) ∧ (Ret (some (mi (M 16 3 - M 18 (M 16 2 - 1).toNat))) M)
theorem k_X2_lengthOfLast {code : List Sem} {Z : KZ} {Ret : KR} {ls : List (Option MV)} {M : Mem} {r : List MV} (hZ : Sim code Z Ret) (ip np : Nat)  (hc : code[ip]? = some (I_callV 2 0 sp_X2_lengthOfLast)) (hn : ip + 1 = np) (h3 : catS r ≤ 8)  (hp : 0 < M 16 2 ∧ M 16 2 ≤ 240 ∧ 0 ≤ M 18 (M 16 2 - 1).toNat ∧ 0 ≤ M 16 3 ∧ M 16 3 ≤ 240) (kz : Z np ls (mi (M 16 3 - M 18 (M 16 2 - 1).toNat) :: r) M) : Z ip ls (mr 16 :: r) M := w_callV0 hZ ip np hc hn rfl rfl h3 ⟨rfl, hp, kz⟩
def cd_X2_lengthOfLast : List Sem := [I_aload 0, I_get 2 2, I_ifle 14, I_aload 0, I_get 2 3, I_aload 0, I_get 2 1, I_aload 0, I_get 2 2, I_const (1), I_sub, I_iald, I_sub, I_goto 15, I_const (0), I_iret]
def pc_X2_lengthOfLast : List Nat := [0, 1, 4, 7, 8, 11, 12, 15, 16, 19, 20, 21, 22, 23, 26, 27]
set_option maxRecDepth 100000 in
set_option maxHeartbeats 4000000 in
theorem b_X2_lengthOfLast  (M : Mem) (Ret : KR) (hp : 0 < M 16 2 ∧ M 16 2 ≤ 240 ∧ 0 ≤ M 18 (M 16 2 - 1).toNat ∧ 0 ≤ M 16 3 ∧ M 16 3 ≤ 240) (hR : Ret (some (mi (M 16 3 - M 18 (M 16 2 - 1).toNat))) M) (hM : MOk M) (Z : KZ) (hZ : Sim cd_X2_lengthOfLast Z Ret) : Z 0 [some (mr 16)] [] M := by
  obtain ⟨a1, a2, a3, a4, a5⟩ := hp
  have a6 := (hM 18 (M 16 2 - 1).toNat rfl).2
  refine w_aload hZ 0 1 rfl rfl rfl ?_
  refine w_geti hZ 1 2 rfl rfl rfl rfl rfl ?_
  refine w_ifle hZ 2 3 rfl rfl (fun c2 => absurd c2 (by omega)) (fun c2 => ?_)
  refine w_aload hZ 3 4 rfl rfl rfl ?_
  refine w_geti hZ 4 5 rfl rfl rfl rfl rfl ?_
  refine w_aload hZ 5 6 rfl rfl rfl ?_
  refine w_getr hZ 6 7 rfl rfl rfl rfl rfl ?_
  refine w_aload hZ 7 8 rfl rfl rfl ?_
  refine w_geti hZ 8 9 rfl rfl rfl rfl rfl ?_
  refine w_const hZ 9 10 rfl rfl  ?_
  refine w_sub hZ 10 11 rfl rfl (by unfold InR; omega) ?_
  refine w_iald hZ 11 12 rfl rfl rfl (by omega) (by omega) ?_
  refine w_sub hZ 12 13 rfl rfl (by unfold InR; omega) ?_
  refine w_goto hZ 13 15 rfl ?_
  refine w_iret hZ 15 rfl ?_
  exact hR
set_option maxRecDepth 100000 in
set_option maxHeartbeats 4000000 in
theorem ao_X2_lengthOfLast : AllOk yX2_lengthOfLast.cls cX2_lengthOfLast 1 0 0 (some .int) none pc_X2_lengthOfLast 0 cd_X2_lengthOfLast := ⟨s_aload_n (k := 0) (by decide +kernel) rfl rfl, ⟨s_get (C := RX2) (T := TX2) (N := 5) rfl inT2 (by decide) tw_1_138 (by decide +kernel) rfl, ⟨s_ifle (off := (22)) (by decide +kernel) rfl rfl, ⟨s_aload_n (k := 0) (by decide +kernel) rfl rfl, ⟨s_get (C := RX2) (T := TX2) (N := 5) rfl inT2 (by decide) tw_1_139 (by decide +kernel) rfl, ⟨s_aload_n (k := 0) (by decide +kernel) rfl rfl, ⟨s_get (C := RX2) (T := TX2) (N := 5) rfl inT2 (by decide) tw_1_137 (by decide +kernel) rfl, ⟨s_aload_n (k := 0) (by decide +kernel) rfl rfl, ⟨s_get (C := RX2) (T := TX2) (N := 5) rfl inT2 (by decide) tw_1_138 (by decide +kernel) rfl, ⟨s_iconst (by decide +kernel) rfl ⟨by decide, by decide⟩, ⟨s_sub (by decide +kernel) rfl, ⟨s_iald (by decide +kernel) rfl, ⟨s_sub (by decide +kernel) rfl, ⟨s_goto (off := (4)) (by decide +kernel) rfl, ⟨s_iconst (by decide +kernel) rfl ⟨by decide, by decide⟩, ⟨s_iret rfl (by decide +kernel), trivial⟩⟩⟩⟩⟩⟩⟩⟩⟩⟩⟩⟩⟩⟩⟩⟩
theorem ct_X2_lengthOfLast : Ctr yX2_lengthOfLast cX2_lengthOfLast 1 (some .int) 0 0 sp_X2_lengthOfLast := by
  refine ctr_of (by decide +kernel) ao_X2_lengthOfLast rfl ?_
  rintro av M Ret ⟨rfl, hp, hR⟩ hok hM
  exact ⟨Nat.le_of_ble_eq_true rfl, fun Z hZ => b_X2_lengthOfLast   M Ret hp hR hM Z hZ⟩
def sp_X2_endOfPiece : SP := fun av M Ret => ∃ i : Int, ∃ m : Int, av = [mr 11, mi i, mi m] ∧ (0 ≤ i ∧ i ≤ m ∧ m ≤ 240) ∧ (Ret (some (mi (pe (sgn m (M 11)) m i))) M)
theorem k_X2_endOfPiece {code : List Sem} {Z : KZ} {Ret : KR} {ls : List (Option MV)} {M : Mem} {r : List MV} (hZ : Sim code Z Ret) (ip np : Nat) {i m : Int} (hc : code[ip]? = some (I_callS 3 sp_X2_endOfPiece)) (hn : ip + 1 = np) (h3 : catS r ≤ 8)  (hp : 0 ≤ i ∧ i ≤ m ∧ m ≤ 240) (kz : Z np ls (mi (pe (sgn m (M 11)) m i) :: r) M) : Z ip ls (mi m :: mi i :: mr 11 :: r) M := w_callS3 hZ ip np hc hn h3 ⟨_, _, rfl, hp, kz⟩
def cd_X2_endOfPiece : List Sem := [I_iload 1, I_istore 3, I_iload 3, I_iload 2, I_cge 13, I_aload 0, I_iload 3, I_iald, I_ifne 11, I_iload 3, I_iret, I_iinc 3 (1), I_goto 2, I_iload 2, I_iret]
def pc_X2_endOfPiece : List Nat := [0, 1, 2, 3, 4, 7, 8, 9, 10, 13, 14, 15, 18, 21, 22]
set_option maxRecDepth 100000 in
set_option maxHeartbeats 4000000 in
theorem b_X2_endOfPiece (i : Int) (i_i : InR i) (m : Int) (i_m : InR m) (M : Mem) (Ret : KR) (hp : 0 ≤ i ∧ i ≤ m ∧ m ≤ 240) (hR : Ret (some (mi (pe (sgn m (M 11)) m i))) M) (hM : MOk M) (Z : KZ) (hZ : Sim cd_X2_endOfPiece Z Ret) : Z 0 [some (mr 11), some (mi i), some (mi m), none] [] M := by
  obtain ⟨a1, a2, a3⟩ := hp
  have loop : ∀ (d : Nat) (j : Int), d = (m - j).toNat → i ≤ j → j ≤ m → (∀ x, i ≤ x → x < j → ¬ sgn m (M 11) x = 0) → Z 2 [some (mr 11), some (mi i), some (mi m), some (mi j)] [] M := by
    intro d
    induction d using Nat.strongRecOn with
    | ind d ih =>
      intro j hd h0 h1 hx
      refine w_iload hZ 2 3 rfl rfl rfl ?_
      refine w_iload hZ 3 4 rfl rfl rfl ?_
      refine w_cge hZ 4 5 rfl rfl (fun c4 => ?_) (fun c4 => ?_)
      · refine w_iload hZ 13 14 rfl rfl rfl ?_
        refine w_iret hZ 14 rfl ?_
        exact ret_i hR (pe_eq a2 (Int.le_refl _) (fun x x0 x1 => hx x x0 (by omega)) (fun q => absurd q (Int.lt_irrefl _)))
      · refine w_aload hZ 5 6 rfl rfl rfl ?_
        refine w_iload hZ 6 7 rfl rfl rfl ?_
        refine w_ialdv hZ 7 8 rfl rfl rfl (by omega) (by omega) (v := sgn m (M 11) j) (sgn_in (by omega) (by omega)).symm ?_
        refine w_ifne hZ 8 9 rfl rfl (fun c8 => ?_) (fun c8 => ?_)
        · refine w_in4_3 hZ 11 12 rfl rfl rfl (by unfold InR; omega) ?_
          refine w_goto hZ 12 2 rfl ?_
          refine ih ((m - (j + 1)).toNat) (by omega) (j + 1) rfl (by omega) (by omega) (fun x x0 x1 => ?_)
          by_cases q : x = j
          · rw [q]; exact c8
          · exact hx x x0 (by omega)
        · refine w_iload hZ 9 10 rfl rfl rfl ?_
          refine w_iret hZ 10 rfl ?_
          exact ret_i hR (pe_eq h0 h1 hx (fun _ => c8))
  refine w_iload hZ 0 1 rfl rfl rfl ?_
  refine w_st4_3 hZ 1 2 rfl rfl rfl ?_
  exact loop _ i rfl (Int.le_refl _) a2 (fun x x0 x1 => by omega)
set_option maxRecDepth 100000 in
set_option maxHeartbeats 4000000 in
theorem ao_X2_endOfPiece : AllOk yX2_endOfPiece.cls cX2_endOfPiece 4 0 0 (some .int) none pc_X2_endOfPiece 0 cd_X2_endOfPiece := ⟨s_iload_n (k := 1) (by decide +kernel) rfl rfl, ⟨s_istore_n (k := 3) (by decide +kernel) rfl rfl, ⟨s_iload_n (k := 3) (by decide +kernel) rfl rfl, ⟨s_iload_n (k := 2) (by decide +kernel) rfl rfl, ⟨s_cge (off := (17)) (by decide +kernel) rfl rfl, ⟨s_aload_n (k := 0) (by decide +kernel) rfl rfl, ⟨s_iload_n (k := 3) (by decide +kernel) rfl rfl, ⟨s_iald (by decide +kernel) rfl, ⟨s_ifne (off := (5)) (by decide +kernel) rfl rfl, ⟨s_iload_n (k := 3) (by decide +kernel) rfl rfl, ⟨s_iret rfl (by decide +kernel), ⟨s_iinc (by decide +kernel) rfl, ⟨s_goto (off := (-16)) (by decide +kernel) rfl, ⟨s_iload_n (k := 2) (by decide +kernel) rfl rfl, ⟨s_iret rfl (by decide +kernel), trivial⟩⟩⟩⟩⟩⟩⟩⟩⟩⟩⟩⟩⟩⟩⟩
theorem ct_X2_endOfPiece : Ctr yX2_endOfPiece cX2_endOfPiece 4 (some .int) 0 0 sp_X2_endOfPiece := by
  refine ctr_of (by decide +kernel) ao_X2_endOfPiece rfl ?_
  rintro av M Ret ⟨i, m, rfl, hp, hR⟩ hok hM
  exact ⟨Nat.le_of_ble_eq_true rfl, fun Z hZ => b_X2_endOfPiece  i (hok _ (List.mem_of_getElem? (i := 1) rfl)) m (hok _ (List.mem_of_getElem? (i := 2) rfl)) M Ret hp hR hM Z hZ⟩
def lnS (s : LST) : Int := match s with
  | none => 0
  | some q => (q.1.flatten.length : Int) + q.2.length
def sOk (w : Int) (s : LST) : Prop := match s with
  | none => True
  | some q => lyOk w (lnS (some q)) q ∧ 0 < q.2.length
abbrev rwF (M : Mem) : Int → Int := fun x => M 11 x.toNat
theorem lyR_congr (w : Int) {F G : Int → Int} : ∀ (k : Nat) (i : Int) (s : List (List Int) × List Int), (∀ j, i ≤ j → j < i + k → F j = G j) → lyR w F k i s = lyR w G k i s
  | 0, i, s, _ => rfl
  | k + 1, i, s, h => by
    unfold lyR
    rw [h i (by omega) (by omega)]
    exact lyR_congr w k (i + 1) _ (fun j j0 j1 => h j (by omega) (by omega))
theorem LX.last {w : Int} {A : List (List Int)} {L : List Int} {M : Mem} (h : LX w A L M) : M 18 (M 16 2 - 1).toNat = (A.flatten.length : Int) := by
  have e : (M 16 2 - 1).toNat = A.length := by rw [h.1]; omega
  rw [e, h.2.2.2.2 A.length (Nat.le_refl _), List.take_length]
theorem LX.same {w : Int} {A : List (List Int)} {L : List Int} {M N : Mem} (h : LX w A L M) (h1 : N 16 = M 16) (h2 : N 17 = M 17) (h3 : N 18 = M 18) : LX w A L N := by
  unfold LX; rw [h1, h2, h3]; exact h
theorem flat_at : ∀ (X : List (List Int)) (l i : Nat) (K : List Int), X[l]? = some K → i < K.length → X.flatten[(X.take l).flatten.length + i]? = K[i]? ∧ (X.take (l + 1)).flatten.length = (X.take l).flatten.length + K.length
  | [], l, i, K, h, _ => by simp at h
  | Y :: X, 0, i, K, h, hi => by
    simp at h; subst h
    refine ⟨?_, by simp⟩
    simp only [List.take_zero, List.flatten_nil, List.length_nil, Nat.zero_add, List.flatten_cons]
    exact List.getElem?_append_left hi
  | Y :: X, l + 1, i, K, h, hi => by
    have h' : X[l]? = some K := by simpa using h
    obtain ⟨a, b⟩ := flat_at X l i K h' hi
    simp only [List.take_succ_cons, List.flatten_cons, List.length_append]
    refine ⟨?_, by omega⟩
    rw [List.getElem?_append_right (by omega), show Y.length + (X.take l).flatten.length + i - Y.length = (X.take l).flatten.length + i by omega]
    exact a
theorem take_len : ∀ (X : List (List Int)) (l : Nat) (K : List Int), X[l]? = some K → (X.take (l + 1)).flatten.length = (X.take l).flatten.length + K.length
  | [], l, K, h => by simp at h
  | Y :: X, 0, K, h => by simp at h; subst h; simp
  | Y :: X, l + 1, K, h => by
    have h' : X[l]? = some K := by simpa using h
    have := take_len X l K h'
    simp only [List.take_succ_cons, List.flatten_cons, List.length_append]
    omega
def sp_X2_layPiece : SP := fun av M Ret => ∃ s : LST, ∃ i : Int, ∃ b : Int, av = [mr 16, mr 11, mi i, mi b] ∧ (LXs (M 16 4) s M ∧ sOk (M 16 4) s ∧ 4 ≤ M 16 4 ∧ M 16 4 ≤ 40 ∧ 0 ≤ i ∧ i < b ∧ b ≤ 240 ∧ lnS s + (if s = none then 0 else 1) + (b - i) ≤ 240) ∧ (∀ M2 : Mem, (LXs (M 16 4) (lyP (M 16 4) (rwF M) i b s) M2 ∧ sOk (M 16 4) (lyP (M 16 4) (rwF M) i b s) ∧ lnS (lyP (M 16 4) (rwF M) i b s) ≤ lnS s + (if s = none then 0 else 1) + (b - i) ∧ ∀ k, k < 16 ∨ 18 < k → M2 k = M k) → Ret none M2)
theorem k_X2_layPiece {code : List Sem} {Z : KZ} {Ret : KR} {ls : List (Option MV)} {M : Mem} {r : List MV} (hZ : Sim code Z Ret) (ip np : Nat) {s : LST} {i b : Int} (hc : code[ip]? = some (I_callV 2 3 sp_X2_layPiece)) (hn : ip + 1 = np) (h3 : catS r ≤ 8)  (hp : LXs (M 16 4) s M ∧ sOk (M 16 4) s ∧ 4 ≤ M 16 4 ∧ M 16 4 ≤ 40 ∧ 0 ≤ i ∧ i < b ∧ b ≤ 240 ∧ lnS s + (if s = none then 0 else 1) + (b - i) ≤ 240) (kz : ∀ M2 : Mem, (LXs (M 16 4) (lyP (M 16 4) (rwF M) i b s) M2 ∧ sOk (M 16 4) (lyP (M 16 4) (rwF M) i b s) ∧ lnS (lyP (M 16 4) (rwF M) i b s) ≤ lnS s + (if s = none then 0 else 1) + (b - i) ∧ ∀ k, k < 16 ∨ 18 < k → M2 k = M k) → Z np ls r M2) : Z ip ls (mi b :: mi i :: mr 11 :: mr 16 :: r) M := w_callV3 hZ ip np hc hn rfl rfl h3 ⟨_, _, _, rfl, hp, fun M2 h => kz M2 h⟩
def cd_X2_layPiece : List Sem := [I_aload 0, I_get 2 2, I_ifle 18, I_aload 0, I_callV 2 0 sp_X2_lengthOfLast, I_const (1), I_add, I_iload 3, I_add, I_iload 2, I_sub, I_aload 0, I_get 2 4, I_cgt 18, I_aload 0, I_const (0), I_callV 2 1 sp_X2_addLaid, I_goto 20, I_aload 0, I_callV 2 0 sp_X2_beginLine, I_iload 2, I_istore 4, I_iload 4, I_iload 3, I_cge 39, I_aload 0, I_callV 2 0 sp_X2_lengthOfLast, I_aload 0, I_get 2 4, I_clt 32, I_aload 0, I_callV 2 0 sp_X2_beginLine, I_aload 0, I_aload 1, I_iload 4, I_iald, I_callV 2 1 sp_X2_addLaid, I_iinc 4 (1), I_goto 22, I_vret]
def pc_X2_layPiece : List Nat := [0, 1, 4, 7, 8, 11, 12, 13, 14, 15, 16, 17, 18, 21, 24, 25, 26, 29, 32, 33, 36, 37, 39, 41, 42, 45, 46, 49, 50, 53, 56, 57, 60, 61, 62, 64, 65, 68, 71, 74]
set_option maxRecDepth 100000 in
set_option maxHeartbeats 4000000 in
theorem b_X2_layPiece (s : LST) (i : Int) (i_i : InR i) (b : Int) (i_b : InR b) (M : Mem) (Ret : KR) (hp : LXs (M 16 4) s M ∧ sOk (M 16 4) s ∧ 4 ≤ M 16 4 ∧ M 16 4 ≤ 40 ∧ 0 ≤ i ∧ i < b ∧ b ≤ 240 ∧ lnS s + (if s = none then 0 else 1) + (b - i) ≤ 240) (hR : ∀ M2 : Mem, (LXs (M 16 4) (lyP (M 16 4) (rwF M) i b s) M2 ∧ sOk (M 16 4) (lyP (M 16 4) (rwF M) i b s) ∧ lnS (lyP (M 16 4) (rwF M) i b s) ≤ lnS s + (if s = none then 0 else 1) + (b - i) ∧ ∀ k, k < 16 ∨ 18 < k → M2 k = M k) → Ret none M2) (hM : MOk M) (Z : KZ) (hZ : Sim cd_X2_layPiece Z Ret) : Z 0 [some (mr 16), some (mr 11), some (mi i), some (mi b), none] [] M := by
  obtain ⟨hL, hS, w4, w40, hi0, hi1, hb, hcap⟩ := hp
  generalize hw : M 16 4 = w at *
  generalize hF : rwF M = F at *
  have hFx : ∀ x, M 11 x.toNat = F x := fun x => by rw [← hF]
  have hcp : 0 ≤ lnS s + (if s = none then 0 else 1) := by
    cases s with
    | none => simp [lnS]
    | some q => simp only [lnS]; split <;> omega
  generalize hc0 : lnS s + (if s = none then 0 else 1) = c0 at *
  have loop : ∀ (d : Nat) (j : Int) (A : List (List Int)) (L : List Int) (N : Mem), d = (b - j).toNat → i ≤ j → j ≤ b → LX w A L N → lyOk w (c0 + (j - i)) (A, L) → lyR w F (b - j).toNat j (A, L) = lyR w F (b - i).toNat i (ly0 w (b - i) s) → (j = b → 0 < L.length) → (∀ k, k < 16 ∨ 18 < k → N k = M k) → Z 22 [some (mr 16), some (mr 11), some (mi i), some (mi b), some (mi j)] [] N := by
    intro d
    induction d using Nat.strongRecOn with
    | ind d ih =>
      intro j A L N hd h0 h1 hX hO hr hne hfr
      have hO2 := hO
      obtain ⟨o1, o2, o3⟩ := hO2
      simp only at o1 o2 o3
      have hlf := len_flat A (fun K hK => (o1 K hK).1)
      have x1 := hX.1
      have x2 := hX.2.1
      have x3 := hX.2.2.1
      have xl := hX.last
      have e11 : N 11 = M 11 := hfr 11 (by omega)
      have hcell : N 11 j.toNat = F j := by rw [e11]; exact hFx j
      have hst : lyR w F (b - j).toNat j (A, L) = if b ≤ j then (A, L) else lyR w F (b - (j + 1)).toNat (j + 1) (lyC w A L (F j)) := by
        by_cases q : b ≤ j
        · rw [if_pos q, show (b - j).toNat = 0 by omega]; rfl
        · rw [if_neg q, show (b - j).toNat = (b - (j + 1)).toNat + 1 by omega]; rfl
      have step : j < b → ∀ N2 : Mem, LX w (lyC w A L (F j)).1 (lyC w A L (F j)).2 N2 → (∀ k, k < 16 ∨ 18 < k → N2 k = M k) → Z 37 [some (mr 16), some (mr 11), some (mi i), some (mi b), some (mi j)] [] N2 := by
        intro hj N2 hX2 hf2
        refine w_in5_4 hZ 37 38 rfl rfl rfl (by unfold InR; omega) ?_
        refine w_goto hZ 38 22 rfl ?_
        have hok := lyC_ok hO (by omega) (F j)
        refine ih ((b - (j + 1)).toNat) (by omega) (j + 1) _ _ N2 rfl (by omega) (by omega) hX2 (by rw [show c0 + (j + 1 - i) = c0 + (j - i) + 1 by omega]; exact hok.1) ?_ (fun _ => hok.2) hf2
        rw [← hr, hst, if_neg (by omega)]
      refine w_iload hZ 22 23 rfl rfl rfl ?_
      refine w_iload hZ 23 24 rfl rfl rfl ?_
      refine w_cge hZ 24 25 rfl rfl (fun c24 => ?_) (fun c24 => ?_)
      · refine w_vret hZ 39 rfl ?_
        have hj : j = b := by omega
        rw [hst, if_pos (by omega)] at hr
        have hP : lyP w F i b s = some (A, L) := by unfold lyP; rw [← hr]
        refine hR _ ⟨?_, ?_, ?_, hfr⟩
        · rw [hP]; exact hX
        · rw [hP]; exact ⟨⟨o1, o2, by simp only [lnS]; omega⟩, hne hj⟩
        · rw [hP]; simp only [lnS]; omega
      · refine w_aload hZ 25 26 rfl rfl rfl ?_
        refine k_X2_lengthOfLast hZ 26 27 rfl rfl (Nat.le_of_ble_eq_true rfl) ⟨by omega, by omega, by rw [xl]; omega, by omega, by omega⟩ ?_
        rw [xl, show N 16 3 - (A.flatten.length : Int) = L.length by omega]
        refine w_aload hZ 27 28 rfl rfl rfl ?_
        refine w_getiv hZ 28 29 rfl rfl rfl rfl rfl (v := w) x3 ?_
        refine w_clt hZ 29 30 rfl rfl (fun c29 => ?_) (fun c29 => ?_)
        · refine w_aload hZ 32 33 rfl rfl rfl ?_
          refine w_aload hZ 33 34 rfl rfl rfl ?_
          refine w_iload hZ 34 35 rfl rfl rfl ?_
          refine w_ialdv hZ 35 36 rfl rfl rfl (by omega) (by omega) (v := F j) hcell ?_
          refine k_X2_addLaid hZ 36 37 rfl rfl (Nat.le_of_ble_eq_true rfl) ⟨by omega, by omega⟩ (fun M36 p36 => ?_)
          subst p36
          refine step (by omega) _ ?_ (fun k hk => ?_)
          · unfold lyC; rw [if_neg (by omega)]; exact LX_ad hX (F j)
          · rw [← hfr k hk]; funext q
            have z1 : ¬ k = 16 := by omega
            have z2 : ¬ k = 17 := by omega
            simp [adL, mup_at, z1, z2]
        · refine w_aload hZ 30 31 rfl rfl rfl ?_
          refine k_X2_beginLine hZ 31 32 rfl rfl (Nat.le_of_ble_eq_true rfl) ⟨by omega, by omega⟩ (fun M31 p31 => ?_)
          subst p31
          have hXb := LX_bg hX
          have xb := hXb.2.1
          have hfl : (A ++ [L]).flatten.length = A.flatten.length + L.length := by simp only [List.flatten_append, List.length_append, List.flatten_cons, List.flatten_nil, List.length_nil]; omega
          rw [hfl] at xb
          refine w_aload hZ 32 33 rfl rfl rfl ?_
          refine w_aload hZ 33 34 rfl rfl rfl ?_
          refine w_iload hZ 34 35 rfl rfl rfl ?_
          refine w_ialdv hZ 35 36 rfl rfl rfl (by omega) (by omega) (v := F j) hcell ?_
          refine k_X2_addLaid hZ 36 37 rfl rfl (Nat.le_of_ble_eq_true rfl) ⟨by rw [xb]; simp only [List.length_nil]; omega, by rw [xb]; simp only [List.length_nil]; omega⟩ (fun M36 p36 => ?_)
          subst p36
          refine step (by omega) _ ?_ (fun k hk => ?_)
          · unfold lyC; rw [if_pos c29]; exact LX_ad hXb (F j)
          · rw [← hfr k hk]; funext q
            have z1 : ¬ k = 16 := by omega
            have z2 : ¬ k = 17 := by omega
            have z3 : ¬ k = 18 := by omega
            simp [adL, bgL, mup_at, z1, z2, z3]
  have t20 : ∀ (A : List (List Int)) (L : List Int) (N : Mem), LX w A L N → lyOk w c0 (A, L) → (A, L) = ly0 w (b - i) s → (∀ k, k < 16 ∨ 18 < k → N k = M k) → Z 20 [some (mr 16), some (mr 11), some (mi i), some (mi b), none] [] N := by
    intro A L N hX hO he hfr
    refine w_iload hZ 20 21 rfl rfl rfl ?_
    refine w_st5_4 hZ 21 22 rfl rfl rfl ?_
    exact loop _ i A L N rfl (Int.le_refl _) (by omega) hX (by rw [show c0 + (i - i) = c0 by omega]; exact hO) (by rw [he]) (fun h => by omega) hfr
  cases s with
  | none =>
    obtain ⟨l1, l2, l3⟩ := hL
    have hc00 : c0 = 0 := by rw [← hc0]; simp [lnS]
    refine w_aload hZ 0 1 rfl rfl rfl ?_
    refine w_geti hZ 1 2 rfl rfl rfl rfl rfl ?_
    refine w_ifle hZ 2 3 rfl rfl (fun c2 => ?_) (fun c2 => absurd c2 (by omega))
    refine w_aload hZ 18 19 rfl rfl rfl ?_
    refine k_X2_beginLine hZ 19 20 rfl rfl (Nat.le_of_ble_eq_true rfl) ⟨by omega, by omega⟩ (fun M19 p19 => ?_)
    subst p19
    refine t20 [] [] _ (LX_bg0 ⟨l1, l2, l3⟩) ⟨fun K hK => by simp at hK, by simp; omega, by simp; omega⟩ rfl (fun k hk => ?_)
    funext q
    have z1 : ¬ k = 16 := by omega
    have z3 : ¬ k = 18 := by omega
    simp [bgL, mup_at, z1, z3]
  | some q =>
    obtain ⟨A, L⟩ := q
    have hX : LX w A L M := hL
    obtain ⟨hO, hLp⟩ := hS
    have hO2 := hO
    obtain ⟨o1, o2, o3⟩ := hO2
    simp only [lnS] at o1 o2 o3 hLp hc0
    have hlf := len_flat A (fun K hK => (o1 K hK).1)
    have x1 := hX.1
    have x2 := hX.2.1
    have xl := hX.last
    have hc1 : c0 = (A.flatten.length : Int) + L.length + 1 := by rw [← hc0]; simp
    refine w_aload hZ 0 1 rfl rfl rfl ?_
    refine w_geti hZ 1 2 rfl rfl rfl rfl rfl ?_
    refine w_ifle hZ 2 3 rfl rfl (fun c2 => absurd c2 (by omega)) (fun c2 => ?_)
    refine w_aload hZ 3 4 rfl rfl rfl ?_
    refine k_X2_lengthOfLast hZ 4 5 rfl rfl (Nat.le_of_ble_eq_true rfl) ⟨by omega, by omega, by rw [xl]; omega, by omega, by omega⟩ ?_
    rw [xl, show M 16 3 - (A.flatten.length : Int) = L.length by omega]
    refine w_const hZ 5 6 rfl rfl  ?_
    refine w_add hZ 6 7 rfl rfl (by unfold InR; omega) ?_
    refine w_iload hZ 7 8 rfl rfl rfl ?_
    refine w_add hZ 8 9 rfl rfl (by unfold InR; omega) ?_
    refine w_iload hZ 9 10 rfl rfl rfl ?_
    refine w_sub hZ 10 11 rfl rfl (by unfold InR; omega) ?_
    refine w_aload hZ 11 12 rfl rfl rfl ?_
    refine w_getiv hZ 12 13 rfl rfl rfl rfl rfl (v := w) hw ?_
    refine w_cgt hZ 13 14 rfl rfl (fun c13 => ?_) (fun c13 => ?_)
    · refine w_aload hZ 18 19 rfl rfl rfl ?_
      refine k_X2_beginLine hZ 19 20 rfl rfl (Nat.le_of_ble_eq_true rfl) ⟨by omega, by omega⟩ (fun M19 p19 => ?_)
      subst p19
      refine t20 (A ++ [L]) [] _ (LX_bg hX) ⟨fun K hK => ?_, by simp; omega, ?_⟩ (by unfold ly0; simp only; rw [if_neg (by omega)]) (fun k hk => ?_)
      · rcases List.mem_append.mp hK with z | z
        · exact o1 K z
        · rw [List.mem_singleton.mp z]; exact ⟨hLp, o2⟩
      · simp only [List.flatten_append, List.length_append, List.flatten_cons, List.flatten_nil, List.length_nil]; omega
      · funext q
        have z1 : ¬ k = 16 := by omega
        have z3 : ¬ k = 18 := by omega
        simp [bgL, mup_at, z1, z3]
    · refine w_aload hZ 14 15 rfl rfl rfl ?_
      refine w_const hZ 15 16 rfl rfl  ?_
      refine k_X2_addLaid hZ 16 17 rfl rfl (Nat.le_of_ble_eq_true rfl) ⟨by omega, by omega⟩ (fun M16 p16 => ?_)
      refine w_goto hZ 17 20 rfl ?_
      subst p16
      refine t20 A (L ++ [0]) _ (LX_ad hX 0) ⟨o1, by simp; omega, ?_⟩ (by unfold ly0; simp only; rw [if_pos (by omega)]) (fun k hk => ?_)
      · simp only [List.length_append, List.length_cons, List.length_nil]; omega
      · funext q
        have z1 : ¬ k = 16 := by omega
        have z2 : ¬ k = 17 := by omega
        simp [adL, mup_at, z1, z2]
set_option maxRecDepth 100000 in
set_option maxHeartbeats 4000000 in
theorem ao_X2_layPiece : AllOk yX2_layPiece.cls cX2_layPiece 5 1 21 none none pc_X2_layPiece 0 cd_X2_layPiece := ⟨s_aload_n (k := 0) (by decide +kernel) rfl rfl, ⟨s_get (C := RX2) (T := TX2) (N := 5) rfl inT2 (by decide) tw_1_138 (by decide +kernel) rfl, ⟨s_ifle (off := (28)) (by decide +kernel) rfl rfl, ⟨s_aload_n (k := 0) (by decide +kernel) rfl rfl, ⟨s_callV (C := RX2) (T := TX2) (N := 5) rfl ct_X2_lengthOfLast (by decide) (by decide) ⟨rfl, by decide +kernel, by decide +kernel, by decide +kernel⟩ tw_2_233 tw_2_235 ts_2_1 tw_1_5 tw_2_236 (by decide +kernel) rfl, ⟨s_iconst (by decide +kernel) rfl ⟨by decide, by decide⟩, ⟨s_add (by decide +kernel) rfl, ⟨s_iload_n (k := 3) (by decide +kernel) rfl rfl, ⟨s_add (by decide +kernel) rfl, ⟨s_iload_n (k := 2) (by decide +kernel) rfl rfl, ⟨s_sub (by decide +kernel) rfl, ⟨s_aload_n (k := 0) (by decide +kernel) rfl rfl, ⟨s_get (C := RX2) (T := TX2) (N := 5) rfl inT2 (by decide) tw_1_140 (by decide +kernel) rfl, ⟨s_cgt (off := (11)) (by decide +kernel) rfl rfl, ⟨s_aload_n (k := 0) (by decide +kernel) rfl rfl, ⟨s_iconst (by decide +kernel) rfl ⟨by decide, by decide⟩, ⟨s_callV (C := RX2) (T := TX2) (N := 5) rfl ct_X2_addLaid (by decide) (by decide) ⟨rfl, by decide +kernel, by decide +kernel, by decide +kernel⟩ tw_2_237 tw_2_239 ts_2_2 tw_1_5 tw_3_0 (by decide +kernel) rfl, ⟨s_goto (off := (7)) (by decide +kernel) rfl, ⟨s_aload_n (k := 0) (by decide +kernel) rfl rfl, ⟨s_callV (C := RX2) (T := TX2) (N := 5) rfl ct_X2_beginLine (by decide) (by decide) ⟨rfl, by decide +kernel, by decide +kernel, by decide +kernel⟩ tw_3_1 tw_3_3 ts_2_3 tw_1_5 tw_3_4 (by decide +kernel) rfl, ⟨s_iload_n (k := 2) (by decide +kernel) rfl rfl, ⟨s_istore (by decide +kernel) rfl, ⟨s_iload (by decide +kernel) rfl, ⟨s_iload_n (k := 3) (by decide +kernel) rfl rfl, ⟨s_cge (off := (32)) (by decide +kernel) rfl rfl, ⟨s_aload_n (k := 0) (by decide +kernel) rfl rfl, ⟨s_callV (C := RX2) (T := TX2) (N := 5) rfl ct_X2_lengthOfLast (by decide) (by decide) ⟨rfl, by decide +kernel, by decide +kernel, by decide +kernel⟩ tw_2_233 tw_2_235 ts_2_1 tw_1_5 tw_2_236 (by decide +kernel) rfl, ⟨s_aload_n (k := 0) (by decide +kernel) rfl rfl, ⟨s_get (C := RX2) (T := TX2) (N := 5) rfl inT2 (by decide) tw_1_140 (by decide +kernel) rfl, ⟨s_clt (off := (7)) (by decide +kernel) rfl rfl, ⟨s_aload_n (k := 0) (by decide +kernel) rfl rfl, ⟨s_callV (C := RX2) (T := TX2) (N := 5) rfl ct_X2_beginLine (by decide) (by decide) ⟨rfl, by decide +kernel, by decide +kernel, by decide +kernel⟩ tw_3_1 tw_3_3 ts_2_3 tw_1_5 tw_3_4 (by decide +kernel) rfl, ⟨s_aload_n (k := 0) (by decide +kernel) rfl rfl, ⟨s_aload_n (k := 1) (by decide +kernel) rfl rfl, ⟨s_iload (by decide +kernel) rfl, ⟨s_iald (by decide +kernel) rfl, ⟨s_callV (C := RX2) (T := TX2) (N := 5) rfl ct_X2_addLaid (by decide) (by decide) ⟨rfl, by decide +kernel, by decide +kernel, by decide +kernel⟩ tw_2_237 tw_2_239 ts_2_2 tw_1_5 tw_3_0 (by decide +kernel) rfl, ⟨s_iinc (by decide +kernel) rfl, ⟨s_goto (off := (-32)) (by decide +kernel) rfl, ⟨s_vret rfl (by decide +kernel), trivial⟩⟩⟩⟩⟩⟩⟩⟩⟩⟩⟩⟩⟩⟩⟩⟩⟩⟩⟩⟩⟩⟩⟩⟩⟩⟩⟩⟩⟩⟩⟩⟩⟩⟩⟩⟩⟩⟩⟩⟩
theorem ct_X2_layPiece : Ctr yX2_layPiece cX2_layPiece 5 none 1 21 sp_X2_layPiece := by
  refine ctr_of (by decide +kernel) ao_X2_layPiece rfl ?_
  rintro av M Ret ⟨s, i, b, rfl, hp, hR⟩ hok hM
  exact ⟨Nat.le_of_ble_eq_true rfl, fun Z hZ => b_X2_layPiece s i (hok _ (List.mem_of_getElem? (i := 2) rfl)) b (hok _ (List.mem_of_getElem? (i := 3) rfl)) M Ret hp hR hM Z hZ⟩
theorem LXs_same {w : Int} {s : LST} {M N : Mem} (h : LXs w s M) (h1 : N 16 = M 16) (h2 : N 17 = M 17) (h3 : N 18 = M 18) : LXs w s N := by
  cases s with
  | none => unfold LXs LX0 at *; rw [h1]; exact h
  | some q => exact LX.same h h1 h2 h3
theorem LXs_w {w : Int} {s : LST} {M : Mem} (h : LXs w s M) : M 16 4 = w := by
  cases s with
  | none => exact h.2.2
  | some q => exact h.2.2.1
theorem LXs_n {w : Int} {s : LST} {M : Mem} (h : LXs w s M) : M 16 2 = lyN s := by
  cases s with
  | none => exact h.1
  | some q => exact h.1
theorem lyP_congr (w : Int) {F G : Int → Int} {i b : Int} (s : LST) (h : ∀ j, i ≤ j → j < b → F j = G j) : lyP w F i b s = lyP w G i b s := by
  unfold lyP
  rw [lyR_congr w _ i _ (fun j j0 j1 => h j j0 (by omega))]
def sp_X2_lay : SP := fun av M Ret => ∃ m : Int, ∃ w : Int, av = [mr 16, mr 11, mi m, mi w] ∧ (0 ≤ m ∧ m ≤ 240 ∧ 4 ≤ w ∧ w ≤ 40) ∧ (∀ M2 : Mem, (LXs w (ly w (sgn m (M 11)) m 0 none) M2 ∧ sOk w (ly w (sgn m (M 11)) m 0 none) ∧ lnS (ly w (sgn m (M 11)) m 0 none) ≤ 240 ∧ ∀ k, k < 16 ∨ 18 < k → M2 k = M k) → Ret (some (mi (lyN (ly w (sgn m (M 11)) m 0 none)))) M2)
theorem k_X2_lay {code : List Sem} {Z : KZ} {Ret : KR} {ls : List (Option MV)} {M : Mem} {r : List MV} (hZ : Sim code Z Ret) (ip np : Nat) {m w : Int} (hc : code[ip]? = some (I_callV 2 3 sp_X2_lay)) (hn : ip + 1 = np) (h3 : catS r ≤ 8)  (hp : 0 ≤ m ∧ m ≤ 240 ∧ 4 ≤ w ∧ w ≤ 40) (kz : ∀ M2 : Mem, (LXs w (ly w (sgn m (M 11)) m 0 none) M2 ∧ sOk w (ly w (sgn m (M 11)) m 0 none) ∧ lnS (ly w (sgn m (M 11)) m 0 none) ≤ 240 ∧ ∀ k, k < 16 ∨ 18 < k → M2 k = M k) → Z np ls (mi (lyN (ly w (sgn m (M 11)) m 0 none)) :: r) M2) : Z ip ls (mi w :: mi m :: mr 11 :: mr 16 :: r) M := w_callV3 hZ ip np hc hn rfl rfl h3 ⟨_, _, rfl, hp, fun M2 h => kz M2 h⟩
def cd_X2_lay : List Sem := [I_aload 0, I_const (0), I_puti 2 2, I_aload 0, I_const (0), I_puti 2 3, I_aload 0, I_iload 3, I_puti 2 4, I_const (-1), I_istore 4, I_const (0), I_istore 5, I_iload 5, I_iload 2, I_cge 38, I_aload 1, I_iload 5, I_iald, I_ifne 23, I_const (-1), I_istore 4, I_goto 36, I_iload 4, I_const (-1), I_cne 36, I_iload 5, I_istore 4, I_aload 0, I_aload 1, I_iload 5, I_aload 1, I_iload 5, I_iload 2, I_callS 3 sp_X2_endOfPiece, I_callV 2 3 sp_X2_layPiece, I_iinc 5 (1), I_goto 13, I_aload 0, I_get 2 2, I_iret]
def pc_X2_lay : List Nat := [0, 1, 2, 5, 6, 7, 10, 11, 12, 15, 16, 18, 19, 21, 23, 24, 27, 28, 30, 31, 34, 35, 37, 40, 42, 43, 46, 48, 50, 51, 52, 54, 55, 57, 58, 61, 64, 67, 70, 71, 74]
set_option maxRecDepth 100000 in
set_option maxHeartbeats 4000000 in
theorem b_X2_lay (m : Int) (i_m : InR m) (w : Int) (i_w : InR w) (M : Mem) (Ret : KR) (hp : 0 ≤ m ∧ m ≤ 240 ∧ 4 ≤ w ∧ w ≤ 40) (hR : ∀ M2 : Mem, (LXs w (ly w (sgn m (M 11)) m 0 none) M2 ∧ sOk w (ly w (sgn m (M 11)) m 0 none) ∧ lnS (ly w (sgn m (M 11)) m 0 none) ≤ 240 ∧ ∀ k, k < 16 ∨ 18 < k → M2 k = M k) → Ret (some (mi (lyN (ly w (sgn m (M 11)) m 0 none)))) M2) (hM : MOk M) (Z : KZ) (hZ : Sim cd_X2_lay Z Ret) : Z 0 [some (mr 16), some (mr 11), some (mi m), some (mi w), none, none] [] M := by
  obtain ⟨m0, m1, w4, w40⟩ := hp
  generalize hF : sgn m (M 11) = F at *
  have hFx : ∀ x, 0 ≤ x → x < m → M 11 x.toNat = F x := fun x x0 x1 => by rw [← hF, sgn_in x0 x1]
  have loop : ∀ (d : Nat) (i pb : Int) (s : LST) (N : Mem), d = (m - i).toNat → 0 ≤ i → i ≤ m → LXs w s N → sOk w s → ((pb = -1 ∧ ly w F m 0 none = ly w F m i s ∧ lnS s + (if s = none then 0 else 1) ≤ i) ∨ (0 ≤ pb ∧ ly w F m 0 none = ly w F m (pe F m i) s ∧ lnS s ≤ pe F m i)) → (∀ k, k < 16 ∨ 18 < k → N k = M k) → Z 13 [some (mr 16), some (mr 11), some (mi m), some (mi w), some (mi pb), some (mi i)] [] N := by
    intro d
    induction d using Nat.strongRecOn with
    | ind d ih =>
      intro i pb s N hd h0 h1 hX hO hI hfr
      have e11 : N 11 = M 11 := hfr 11 (by omega)
      have hcell : i < m → N 11 i.toNat = F i := fun hi => by rw [e11]; exact hFx i h0 hi
      have hwN := LXs_w hX
      have step : i < m → ∀ (pb2 : Int) (s2 : LST) (N2 : Mem), LXs w s2 N2 → sOk w s2 → ((pb2 = -1 ∧ ly w F m 0 none = ly w F m (i + 1) s2 ∧ lnS s2 + (if s2 = none then 0 else 1) ≤ i + 1) ∨ (0 ≤ pb2 ∧ ly w F m 0 none = ly w F m (pe F m (i + 1)) s2 ∧ lnS s2 ≤ pe F m (i + 1))) → (∀ k, k < 16 ∨ 18 < k → N2 k = M k) → Z 36 [some (mr 16), some (mr 11), some (mi m), some (mi w), some (mi pb2), some (mi i)] [] N2 := by
        intro hi pb2 s2 N2 a1 a2 a3 a4
        refine w_in6_5 hZ 36 37 rfl rfl rfl (by clear hI a3; unfold InR; omega) ?_
        refine w_goto hZ 37 13 rfl ?_
        exact ih ((m - (i + 1)).toNat) (by clear hI a3; omega) (i + 1) pb2 s2 N2 rfl (by clear hI a3; omega) (by clear hI a3; omega) a1 a2 a3 a4
      -- the end of a piece from a place inside it
      have hpe : i < m → ¬ F i = 0 → pe F m i = pe F m (i + 1) := by
        intro hi hz
        obtain ⟨a, b, c, e⟩ := pe_spec (F := F) (m := m) (i := i) h1
        have hg := pe_gt (F := F) hi hz
        exact (pe_eq (by clear hI; omega) b (fun x x0 x1 => c x (by clear hI; omega) x1) e).symm
      refine w_iload hZ 13 14 rfl rfl rfl ?_
      refine w_iload hZ 14 15 rfl rfl rfl ?_
      refine w_cge hZ 15 16 rfl rfl (fun c15 => ?_) (fun c15 => ?_)
      · refine w_aload hZ 38 39 rfl rfl rfl ?_
        refine w_getiv hZ 39 40 rfl rfl rfl rfl rfl (v := lyN s) (LXs_n hX) ?_
        refine w_iret hZ 40 rfl ?_
        have hin : i = m := by clear hI; omega
        have hend : ly w F m 0 none = s ∧ lnS s ≤ m := by
          rcases hI with ⟨q1, q2, q3⟩ | ⟨q1, q2, q3⟩
          · rw [hin, ly_end (Int.le_refl _)] at q2
            refine ⟨q2, ?_⟩
            split at q3 <;> omega
          · have : pe F m i = m := by
              obtain ⟨pa, pb', pc, pd⟩ := pe_spec (F := F) (m := m) (i := i) h1
              omega
            rw [this, ly_end (Int.le_refl _)] at q2
            exact ⟨q2, by omega⟩
        rw [← hend.1]
        refine hR _ ⟨?_, ?_, ?_, hfr⟩
        · rw [hend.1]; exact hX
        · rw [hend.1]; exact hO
        · rw [hend.1]; have := hend.2; clear hI; omega
      · refine w_aload hZ 16 17 rfl rfl rfl ?_
        refine w_iload hZ 17 18 rfl rfl rfl ?_
        refine w_ialdv hZ 18 19 rfl rfl rfl (by clear hI; omega) (by clear hI; omega) (v := F i) (hcell (by clear hI; omega)) ?_
        refine w_ifne hZ 19 20 rfl rfl (fun c19 => ?_) (fun c19 => ?_)
        · refine w_iload hZ 23 24 rfl rfl rfl ?_
          refine w_const hZ 24 25 rfl rfl  ?_
          refine w_cne hZ 25 26 rfl rfl (fun c25 => ?_) (fun c25 => ?_)
          · first
              | (refine step c15 _ s N hX hO (Or.inl ⟨rfl, ?_, ?_⟩) hfr
                 · rcases hI with ⟨q1, q2, q3⟩ | ⟨q1, q2, q3⟩
                   · rw [q2, ly_blank c15 c19]
                   · rw [pe_eq (Int.le_refl i) h1 (fun x x0 x1 => by omega) (fun _ => c19)] at q2
                     rw [q2, ly_blank c15 c19]
                 · rcases hI with ⟨q1, q2, q3⟩ | ⟨q1, q2, q3⟩
                   · omega
                   · rw [pe_eq (Int.le_refl i) h1 (fun x x0 x1 => by omega) (fun _ => c19)] at q3
                     split <;> omega)
              | (have hI2 : 0 ≤ pb ∧ ly w F m 0 none = ly w F m (pe F m i) s ∧ lnS s ≤ pe F m i := by
                   rcases hI with q | q
                   · exact absurd q.1 c25
                   · exact q
                 refine step c15 pb s N hX hO (Or.inr ⟨hI2.1, ?_, ?_⟩) hfr
                 · rw [hI2.2.1, hpe c15 c19]
                 · rw [← hpe c15 c19]; exact hI2.2.2)
          · have hpb : pb = -1 := c25
            have hI2 : ly w F m 0 none = ly w F m i s ∧ lnS s + (if s = none then 0 else 1) ≤ i := by
              rcases hI with q | q
              · exact q.2
              · have := q.1; omega
            clear hI
            obtain ⟨i1, i2⟩ := hI2
            have hg := pe_gt (F := F) c15 c19
            obtain ⟨pa, pb', pc, pd⟩ := pe_spec (F := F) (m := m) (i := i) h1
            refine w_iload hZ 26 27 rfl rfl rfl ?_
            refine w_st6_4 hZ 27 28 rfl rfl rfl ?_
            refine w_aload hZ 28 29 rfl rfl rfl ?_
            refine w_aload hZ 29 30 rfl rfl rfl ?_
            refine w_iload hZ 30 31 rfl rfl rfl ?_
            refine w_aload hZ 31 32 rfl rfl rfl ?_
            refine w_iload hZ 32 33 rfl rfl rfl ?_
            refine w_iload hZ 33 34 rfl rfl rfl ?_
            refine k_X2_endOfPiece hZ 34 35 rfl rfl (Nat.le_of_ble_eq_true rfl) ⟨h0, h1, m1⟩ ?_
            rw [show sgn m (N 11) = F by rw [e11]; exact hF]
            refine k_X2_layPiece hZ 35 36 rfl rfl (Nat.le_of_ble_eq_true rfl) (s := s) ⟨by rw [hwN]; exact hX, by rw [hwN]; exact hO, by omega, by omega, h0, hg, by omega, by omega⟩ (fun M35 p35 => ?_)
            obtain ⟨r1, r2, r3, r4⟩ := p35
            rw [hwN] at r1 r2 r3
            have hPe : lyP w (rwF N) i (pe F m i) s = lyP w F i (pe F m i) s := lyP_congr w s (fun x x0 x1 => by show N 11 x.toNat = _; rw [e11]; exact hFx x (by omega) (by omega))
            rw [hPe] at r1 r2 r3
            refine step c15 i _ M35 r1 r2 (Or.inr ⟨h0, ?_, ?_⟩) (fun k hk => by rw [r4 k hk, hfr k hk])
            · rw [i1, ly_piece c15 c19, hpe c15 c19]
            · rw [← hpe c15 c19]; omega
        · refine w_const hZ 20 21 rfl rfl  ?_
          refine w_st6_4 hZ 21 22 rfl rfl rfl ?_
          refine w_goto hZ 22 36 rfl ?_
          first
            | (refine step c15 _ s N hX hO (Or.inl ⟨rfl, ?_, ?_⟩) hfr
               · rcases hI with ⟨q1, q2, q3⟩ | ⟨q1, q2, q3⟩
                 · rw [q2, ly_blank c15 c19]
                 · rw [pe_eq (Int.le_refl i) h1 (fun x x0 x1 => by omega) (fun _ => c19)] at q2
                   rw [q2, ly_blank c15 c19]
               · rcases hI with ⟨q1, q2, q3⟩ | ⟨q1, q2, q3⟩
                 · omega
                 · rw [pe_eq (Int.le_refl i) h1 (fun x x0 x1 => by omega) (fun _ => c19)] at q3
                   split <;> omega)
            | (have hI2 : 0 ≤ pb ∧ ly w F m 0 none = ly w F m (pe F m i) s ∧ lnS s ≤ pe F m i := by
                 rcases hI with q | q
                 · exact absurd q.1 c25
                 · exact q
               refine step c15 pb s N hX hO (Or.inr ⟨hI2.1, ?_, ?_⟩) hfr
               · rw [hI2.2.1, hpe c15 c19]
               · rw [← hpe c15 c19]; exact hI2.2.2)
  refine w_aload hZ 0 1 rfl rfl rfl ?_
  refine w_const hZ 1 2 rfl rfl  ?_
  refine w_puti hZ 2 3 rfl rfl rfl rfl rfl ?_
  refine w_aload hZ 3 4 rfl rfl rfl ?_
  refine w_const hZ 4 5 rfl rfl  ?_
  refine w_puti hZ 5 6 rfl rfl rfl rfl rfl ?_
  refine w_aload hZ 6 7 rfl rfl rfl ?_
  refine w_iload hZ 7 8 rfl rfl rfl ?_
  refine w_puti hZ 8 9 rfl rfl rfl rfl rfl ?_
  refine w_const hZ 9 10 rfl rfl  ?_
  refine w_st6_4 hZ 10 11 rfl rfl rfl ?_
  refine w_const hZ 11 12 rfl rfl  ?_
  refine w_st6_5 hZ 12 13 rfl rfl rfl ?_
  refine loop _ 0 (-1) none _ rfl (Int.le_refl _) m0 ⟨by simp [mup_at], by simp [mup_at], by simp [mup_at]⟩ trivial (Or.inl ⟨rfl, rfl, by simp [lnS]⟩) (fun k hk => ?_)
  funext q
  have z1 : ¬ k = 16 := by omega
  simp [mup_at, z1]
set_option maxRecDepth 100000 in
set_option maxHeartbeats 4000000 in
theorem ao_X2_lay : AllOk yX2_lay.cls cX2_lay 6 2 45 (some .int) none pc_X2_lay 0 cd_X2_lay := ⟨s_aload_n (k := 0) (by decide +kernel) rfl rfl, ⟨s_iconst (by decide +kernel) rfl ⟨by decide, by decide⟩, ⟨s_puti (C := RX2) (T := TX2) (N := 5) (tyf := tyX2) rfl inT2 tyX2_ok nmX2 (by decide) rfl rfl tw_1_138 (by decide +kernel) rfl, ⟨s_aload_n (k := 0) (by decide +kernel) rfl rfl, ⟨s_iconst (by decide +kernel) rfl ⟨by decide, by decide⟩, ⟨s_puti (C := RX2) (T := TX2) (N := 5) (tyf := tyX2) rfl inT2 tyX2_ok nmX2 (by decide) rfl rfl tw_1_139 (by decide +kernel) rfl, ⟨s_aload_n (k := 0) (by decide +kernel) rfl rfl, ⟨s_iload_n (k := 3) (by decide +kernel) rfl rfl, ⟨s_puti (C := RX2) (T := TX2) (N := 5) (tyf := tyX2) rfl inT2 tyX2_ok nmX2 (by decide) rfl rfl tw_1_140 (by decide +kernel) rfl, ⟨s_iconst (by decide +kernel) rfl ⟨by decide, by decide⟩, ⟨s_istore (by decide +kernel) rfl, ⟨s_iconst (by decide +kernel) rfl ⟨by decide, by decide⟩, ⟨s_istore (by decide +kernel) rfl, ⟨s_iload (by decide +kernel) rfl, ⟨s_iload_n (k := 2) (by decide +kernel) rfl rfl, ⟨s_cge (off := (46)) (by decide +kernel) rfl rfl, ⟨s_aload_n (k := 1) (by decide +kernel) rfl rfl, ⟨s_iload (by decide +kernel) rfl, ⟨s_iald (by decide +kernel) rfl, ⟨s_ifne (off := (9)) (by decide +kernel) rfl rfl, ⟨s_iconst (by decide +kernel) rfl ⟨by decide, by decide⟩, ⟨s_istore (by decide +kernel) rfl, ⟨s_goto (off := (27)) (by decide +kernel) rfl, ⟨s_iload (by decide +kernel) rfl, ⟨s_iconst (by decide +kernel) rfl ⟨by decide, by decide⟩, ⟨s_cne (off := (21)) (by decide +kernel) rfl rfl, ⟨s_iload (by decide +kernel) rfl, ⟨s_istore (by decide +kernel) rfl, ⟨s_aload_n (k := 0) (by decide +kernel) rfl rfl, ⟨s_aload_n (k := 1) (by decide +kernel) rfl rfl, ⟨s_iload (by decide +kernel) rfl, ⟨s_aload_n (k := 1) (by decide +kernel) rfl rfl, ⟨s_iload (by decide +kernel) rfl, ⟨s_iload_n (k := 2) (by decide +kernel) rfl rfl, ⟨s_callS ct_X2_endOfPiece (by decide) (by decide) ⟨by decide +kernel, by decide +kernel, by decide +kernel⟩ tw_2_226 tw_2_227 tw_1_5 tw_2_228 (by decide +kernel) rfl, ⟨s_callV (C := RX2) (T := TX2) (N := 5) rfl ct_X2_layPiece (by decide) (by decide) ⟨rfl, by decide +kernel, by decide +kernel, by decide +kernel⟩ tw_2_229 tw_2_231 ts_2_0 tw_1_5 tw_2_232 (by decide +kernel) rfl, ⟨s_iinc (by decide +kernel) rfl, ⟨s_goto (off := (-46)) (by decide +kernel) rfl, ⟨s_aload_n (k := 0) (by decide +kernel) rfl rfl, ⟨s_get (C := RX2) (T := TX2) (N := 5) rfl inT2 (by decide) tw_1_138 (by decide +kernel) rfl, ⟨s_iret rfl (by decide +kernel), trivial⟩⟩⟩⟩⟩⟩⟩⟩⟩⟩⟩⟩⟩⟩⟩⟩⟩⟩⟩⟩⟩⟩⟩⟩⟩⟩⟩⟩⟩⟩⟩⟩⟩⟩⟩⟩⟩⟩⟩⟩⟩
theorem ct_X2_lay : Ctr yX2_lay cX2_lay 6 (some .int) 2 45 sp_X2_lay := by
  refine ctr_of (by decide +kernel) ao_X2_lay rfl ?_
  rintro av M Ret ⟨m, w, rfl, hp, hR⟩ hok hM
  exact ⟨Nat.le_of_ble_eq_true rfl, fun Z hZ => b_X2_lay  m (hok _ (List.mem_of_getElem? (i := 2) rfl)) w (hok _ (List.mem_of_getElem? (i := 3) rfl)) M Ret hp hR hM Z hZ⟩
def sp_X2_cellOf : SP := fun av M Ret => ∃ s : LST, ∃ l : Int, ∃ i : Int, av = [mr 16, mi l, mi i] ∧ (LXs (M 16 4) s M ∧ lnS s ≤ 240 ∧ sOk (M 16 4) s ∧ 0 ≤ l ∧ 0 ≤ i) ∧ (Ret (some (mi (lyAt s l.toNat i.toNat))) M)
theorem k_X2_cellOf {code : List Sem} {Z : KZ} {Ret : KR} {ls : List (Option MV)} {M : Mem} {r : List MV} (hZ : Sim code Z Ret) (ip np : Nat) {s : LST} {l i : Int} (hc : code[ip]? = some (I_callV 2 2 sp_X2_cellOf)) (hn : ip + 1 = np) (h3 : catS r ≤ 8)  (hp : LXs (M 16 4) s M ∧ lnS s ≤ 240 ∧ sOk (M 16 4) s ∧ 0 ≤ l ∧ 0 ≤ i) (kz : Z np ls (mi (lyAt s l.toNat i.toNat) :: r) M) : Z ip ls (mi i :: mi l :: mr 16 :: r) M := w_callV2 hZ ip np hc hn rfl rfl h3 ⟨_, _, _, rfl, hp, kz⟩
def cd_X2_cellOf : List Sem := [I_iload 1, I_iflt 8, I_iload 2, I_iflt 8, I_iload 1, I_aload 0, I_get 2 2, I_clt 10, I_const (-1), I_iret, I_iload 1, I_const (1), I_add, I_aload 0, I_get 2 2, I_cge 23, I_aload 0, I_get 2 1, I_iload 1, I_const (1), I_add, I_iald, I_goto 25, I_aload 0, I_get 2 3, I_istore 3, I_iload 2, I_iload 3, I_aload 0, I_get 2 1, I_iload 1, I_iald, I_sub, I_cge 44, I_aload 0, I_get 2 0, I_aload 0, I_get 2 1, I_iload 1, I_iald, I_iload 2, I_add, I_iald, I_goto 45, I_const (-1), I_iret]
def pc_X2_cellOf : List Nat := [0, 1, 4, 5, 8, 9, 10, 13, 16, 17, 18, 19, 20, 21, 22, 25, 28, 29, 32, 33, 34, 35, 36, 39, 40, 43, 44, 45, 46, 47, 50, 51, 52, 53, 56, 57, 60, 61, 64, 65, 66, 67, 68, 69, 72, 73]
set_option maxRecDepth 100000 in
set_option maxHeartbeats 4000000 in
theorem b_X2_cellOf (s : LST) (l : Int) (i_l : InR l) (i : Int) (i_i : InR i) (M : Mem) (Ret : KR) (hp : LXs (M 16 4) s M ∧ lnS s ≤ 240 ∧ sOk (M 16 4) s ∧ 0 ≤ l ∧ 0 ≤ i) (hR : Ret (some (mi (lyAt s l.toNat i.toNat))) M) (hM : MOk M) (Z : KZ) (hZ : Sim cd_X2_cellOf Z Ret) : Z 0 [some (mr 16), some (mi l), some (mi i), none] [] M := by
  obtain ⟨hX, hln, hO, l0, i0⟩ := hp
  have hn := LXs_n hX
  cases s with
  | none =>
    replace hn : M 16 2 = 0 := hn
    refine w_iload hZ 0 1 rfl rfl rfl ?_
    refine w_iflt hZ 1 2 rfl rfl (fun c1 => absurd c1 (by omega)) (fun c1 => ?_)
    refine w_iload hZ 2 3 rfl rfl rfl ?_
    refine w_iflt hZ 3 4 rfl rfl (fun c3 => absurd c3 (by omega)) (fun c3 => ?_)
    refine w_iload hZ 4 5 rfl rfl rfl ?_
    refine w_aload hZ 5 6 rfl rfl rfl ?_
    refine w_geti hZ 6 7 rfl rfl rfl rfl rfl ?_
    refine w_clt hZ 7 8 rfl rfl (fun c7 => absurd c7 (by omega)) (fun c7 => ?_)
    refine w_const hZ 8 9 rfl rfl  ?_
    refine w_iret hZ 9 rfl ?_
    exact hR
  | some q =>
    obtain ⟨A, L⟩ := q
    have hx : LX (M 16 4) A L M := hX
    obtain ⟨x1, x2, x3, x4, x5⟩ := hx
    obtain ⟨⟨o1, o2, o3⟩, hLp⟩ := hO
    simp only [lnS] at o1 o2 o3 hLp hln
    have hlf := len_flat A (fun K hK => (o1 K hK).1)
    -- begin and end of a line, what stands there
    have hlen : ((A ++ [L]).length : Int) = M 16 2 := by rw [x1]; simp
    have hflat : (A ++ [L]).flatten = A.flatten ++ L := by simp
    have key : ∀ ln : Nat, (ln : Int) < M 16 2 → ∃ K : List Int, (A ++ [L])[ln]? = some K ∧ M 18 ln = (((A ++ [L]).take ln).flatten.length : Int) ∧ (((A ++ [L]).take (ln + 1)).flatten.length : Int) = M 18 ln + K.length ∧ (((A ++ [L]).take (ln + 1)).flatten.length : Int) ≤ M 16 3 := by
      intro ln hl
      have hlt : ln < (A ++ [L]).length := by omega
      have hK : (A ++ [L])[ln]? = some (A ++ [L])[ln] := List.getElem?_eq_getElem hlt
      have e1 : M 18 ln = (((A ++ [L]).take ln).flatten.length : Int) := by
        rw [x5 ln (by simp at hlt; omega), List.take_append_of_le_length (by simp at hlt; omega)]
      refine ⟨_, hK, e1, ?_, ?_⟩
      · rw [take_len _ ln _ hK, e1]; omega
      · have : ((A ++ [L]).take (ln + 1)).flatten.length ≤ (A ++ [L]).flatten.length := by
          have h2 : (A ++ [L]).flatten = ((A ++ [L]).take (ln + 1)).flatten ++ ((A ++ [L]).drop (ln + 1)).flatten := by
            rw [← List.flatten_append, List.take_append_drop]
          rw [h2, List.length_append]; omega
        rw [hflat, List.length_append] at this
        omega
    have t25 : ∀ e : Int, l < M 16 2 → e = (((A ++ [L]).take (l.toNat + 1)).flatten.length : Int) → Z 25 [some (mr 16), some (mi l), some (mi i), none] [mi e] M := by
      intro e hl he
      obtain ⟨K, k1, k2, k3, k4⟩ := key l.toNat (by omega)
      have hk0 : 0 ≤ M 18 l.toNat := by rw [k2]; omega
      refine w_st4_3 hZ 25 26 rfl rfl rfl ?_
      refine w_iload hZ 26 27 rfl rfl rfl ?_
      refine w_iload hZ 27 28 rfl rfl rfl ?_
      refine w_aload hZ 28 29 rfl rfl rfl ?_
      refine w_getr hZ 29 30 rfl rfl rfl rfl rfl ?_
      refine w_iload hZ 30 31 rfl rfl rfl ?_
      refine w_iald hZ 31 32 rfl rfl rfl (by omega) (by omega) ?_
      refine w_sub hZ 32 33 rfl rfl (by unfold InR; omega) ?_
      refine w_cge hZ 33 34 rfl rfl (fun c33 => ?_) (fun c33 => ?_)
      · refine w_const hZ 44 45 rfl rfl  ?_
        refine w_iret hZ 45 rfl ?_
        first
          | (refine ret_i hR ?_; unfold lyAt; simp only; rw [k1]; show K.getD i.toNat (-1) = -1; rw [List.getD_eq_getElem?_getD, List.getElem?_eq_none (by omega)]; rfl)
          | (have hiK : i.toNat < K.length := by omega
             have hf := (flat_at _ l.toNat i.toNat K k1 hiK).1
             refine ret_i hR ?_; unfold lyAt; simp only; rw [k1]; show K.getD i.toNat (-1) = _
             have e2 : (M 18 l.toNat + i).toNat = ((A ++ [L]).take l.toNat).flatten.length + i.toNat := by rw [k2]; omega
             rw [e2, x4 _ (by omega), ← hflat, List.getD_eq_getElem?_getD, List.getD_eq_getElem?_getD, hf, List.getElem?_eq_getElem hiK]; rfl)
      · refine w_aload hZ 34 35 rfl rfl rfl ?_
        refine w_getr hZ 35 36 rfl rfl rfl rfl rfl ?_
        refine w_aload hZ 36 37 rfl rfl rfl ?_
        refine w_getr hZ 37 38 rfl rfl rfl rfl rfl ?_
        refine w_iload hZ 38 39 rfl rfl rfl ?_
        refine w_iald hZ 39 40 rfl rfl rfl (by omega) (by omega) ?_
        refine w_iload hZ 40 41 rfl rfl rfl ?_
        refine w_add hZ 41 42 rfl rfl (by unfold InR; omega) ?_
        refine w_iald hZ 42 43 rfl rfl rfl (by omega) (by omega) ?_
        refine w_goto hZ 43 45 rfl ?_
        refine w_iret hZ 45 rfl ?_
        first
          | (refine ret_i hR ?_; unfold lyAt; simp only; rw [k1]; show K.getD i.toNat (-1) = -1; rw [List.getD_eq_getElem?_getD, List.getElem?_eq_none (by omega)]; rfl)
          | (have hiK : i.toNat < K.length := by omega
             have hf := (flat_at _ l.toNat i.toNat K k1 hiK).1
             refine ret_i hR ?_; unfold lyAt; simp only; rw [k1]; show K.getD i.toNat (-1) = _
             have e2 : (M 18 l.toNat + i).toNat = ((A ++ [L]).take l.toNat).flatten.length + i.toNat := by rw [k2]; omega
             rw [e2, x4 _ (by omega), ← hflat, List.getD_eq_getElem?_getD, List.getD_eq_getElem?_getD, hf, List.getElem?_eq_getElem hiK]; rfl)
    refine w_iload hZ 0 1 rfl rfl rfl ?_
    refine w_iflt hZ 1 2 rfl rfl (fun c1 => absurd c1 (by omega)) (fun c1 => ?_)
    refine w_iload hZ 2 3 rfl rfl rfl ?_
    refine w_iflt hZ 3 4 rfl rfl (fun c3 => absurd c3 (by omega)) (fun c3 => ?_)
    refine w_iload hZ 4 5 rfl rfl rfl ?_
    refine w_aload hZ 5 6 rfl rfl rfl ?_
    refine w_geti hZ 6 7 rfl rfl rfl rfl rfl ?_
    refine w_clt hZ 7 8 rfl rfl (fun c7 => ?_) (fun c7 => ?_)
    · refine w_iload hZ 10 11 rfl rfl rfl ?_
      refine w_const hZ 11 12 rfl rfl  ?_
      refine w_add hZ 12 13 rfl rfl (by unfold InR; omega) ?_
      refine w_aload hZ 13 14 rfl rfl rfl ?_
      refine w_geti hZ 14 15 rfl rfl rfl rfl rfl ?_
      refine w_cge hZ 15 16 rfl rfl (fun c15 => ?_) (fun c15 => ?_)
      · refine w_aload hZ 23 24 rfl rfl rfl ?_
        refine w_geti hZ 24 25 rfl rfl rfl rfl rfl ?_
        first
          | (refine t25 _ c7 ?_; obtain ⟨K, k1, k2, k3, k4⟩ := key (l + 1).toNat (by omega); rw [k2, show (l + 1).toNat = l.toNat + 1 by omega])
          | (refine t25 _ c7 ?_; rw [List.take_of_length_le (by omega), hflat, List.length_append, x2]; omega)
      · refine w_aload hZ 16 17 rfl rfl rfl ?_
        refine w_getr hZ 17 18 rfl rfl rfl rfl rfl ?_
        refine w_iload hZ 18 19 rfl rfl rfl ?_
        refine w_const hZ 19 20 rfl rfl  ?_
        refine w_add hZ 20 21 rfl rfl (by unfold InR; omega) ?_
        refine w_iald hZ 21 22 rfl rfl rfl (by omega) (by omega) ?_
        refine w_goto hZ 22 25 rfl ?_
        first
          | (refine t25 _ c7 ?_; obtain ⟨K, k1, k2, k3, k4⟩ := key (l + 1).toNat (by omega); rw [k2, show (l + 1).toNat = l.toNat + 1 by omega])
          | (refine t25 _ c7 ?_; rw [List.take_of_length_le (by omega), hflat, List.length_append, x2]; omega)
    · refine w_const hZ 8 9 rfl rfl  ?_
      refine w_iret hZ 9 rfl ?_
      refine ret_i hR ?_
      unfold lyAt
      simp only
      rw [List.getElem?_eq_none (by omega)]
      rfl
set_option maxRecDepth 100000 in
set_option maxHeartbeats 4000000 in
theorem ao_X2_cellOf : AllOk yX2_cellOf.cls cX2_cellOf 4 0 0 (some .int) none pc_X2_cellOf 0 cd_X2_cellOf := ⟨s_iload_n (k := 1) (by decide +kernel) rfl rfl, ⟨s_iflt (off := (15)) (by decide +kernel) rfl rfl, ⟨s_iload_n (k := 2) (by decide +kernel) rfl rfl, ⟨s_iflt (off := (11)) (by decide +kernel) rfl rfl, ⟨s_iload_n (k := 1) (by decide +kernel) rfl rfl, ⟨s_aload_n (k := 0) (by decide +kernel) rfl rfl, ⟨s_get (C := RX2) (T := TX2) (N := 5) rfl inT2 (by decide) tw_1_138 (by decide +kernel) rfl, ⟨s_clt (off := (5)) (by decide +kernel) rfl rfl, ⟨s_iconst (by decide +kernel) rfl ⟨by decide, by decide⟩, ⟨s_iret rfl (by decide +kernel), ⟨s_iload_n (k := 1) (by decide +kernel) rfl rfl, ⟨s_iconst (by decide +kernel) rfl ⟨by decide, by decide⟩, ⟨s_add (by decide +kernel) rfl, ⟨s_aload_n (k := 0) (by decide +kernel) rfl rfl, ⟨s_get (C := RX2) (T := TX2) (N := 5) rfl inT2 (by decide) tw_1_138 (by decide +kernel) rfl, ⟨s_cge (off := (14)) (by decide +kernel) rfl rfl, ⟨s_aload_n (k := 0) (by decide +kernel) rfl rfl, ⟨s_get (C := RX2) (T := TX2) (N := 5) rfl inT2 (by decide) tw_1_137 (by decide +kernel) rfl, ⟨s_iload_n (k := 1) (by decide +kernel) rfl rfl, ⟨s_iconst (by decide +kernel) rfl ⟨by decide, by decide⟩, ⟨s_add (by decide +kernel) rfl, ⟨s_iald (by decide +kernel) rfl, ⟨s_goto (off := (7)) (by decide +kernel) rfl, ⟨s_aload_n (k := 0) (by decide +kernel) rfl rfl, ⟨s_get (C := RX2) (T := TX2) (N := 5) rfl inT2 (by decide) tw_1_139 (by decide +kernel) rfl, ⟨s_istore_n (k := 3) (by decide +kernel) rfl rfl, ⟨s_iload_n (k := 2) (by decide +kernel) rfl rfl, ⟨s_iload_n (k := 3) (by decide +kernel) rfl rfl, ⟨s_aload_n (k := 0) (by decide +kernel) rfl rfl, ⟨s_get (C := RX2) (T := TX2) (N := 5) rfl inT2 (by decide) tw_1_137 (by decide +kernel) rfl, ⟨s_iload_n (k := 1) (by decide +kernel) rfl rfl, ⟨s_iald (by decide +kernel) rfl, ⟨s_sub (by decide +kernel) rfl, ⟨s_cge (off := (19)) (by decide +kernel) rfl rfl, ⟨s_aload_n (k := 0) (by decide +kernel) rfl rfl, ⟨s_get (C := RX2) (T := TX2) (N := 5) rfl inT2 (by decide) tw_1_136 (by decide +kernel) rfl, ⟨s_aload_n (k := 0) (by decide +kernel) rfl rfl, ⟨s_get (C := RX2) (T := TX2) (N := 5) rfl inT2 (by decide) tw_1_137 (by decide +kernel) rfl, ⟨s_iload_n (k := 1) (by decide +kernel) rfl rfl, ⟨s_iald (by decide +kernel) rfl, ⟨s_iload_n (k := 2) (by decide +kernel) rfl rfl, ⟨s_add (by decide +kernel) rfl, ⟨s_iald (by decide +kernel) rfl, ⟨s_goto (off := (4)) (by decide +kernel) rfl, ⟨s_iconst (by decide +kernel) rfl ⟨by decide, by decide⟩, ⟨s_iret rfl (by decide +kernel), trivial⟩⟩⟩⟩⟩⟩⟩⟩⟩⟩⟩⟩⟩⟩⟩⟩⟩⟩⟩⟩⟩⟩⟩⟩⟩⟩⟩⟩⟩⟩⟩⟩⟩⟩⟩⟩⟩⟩⟩⟩⟩⟩⟩⟩⟩⟩
theorem ct_X2_cellOf : Ctr yX2_cellOf cX2_cellOf 4 (some .int) 0 0 sp_X2_cellOf := by
  refine ctr_of (by decide +kernel) ao_X2_cellOf rfl ?_
  rintro av M Ret ⟨s, l, i, rfl, hp, hR⟩ hok hM
  exact ⟨Nat.le_of_ble_eq_true rfl, fun Z hZ => b_X2_cellOf s l (hok _ (List.mem_of_getElem? (i := 1) rfl)) i (hok _ (List.mem_of_getElem? (i := 2) rfl)) M Ret hp hR hM Z hZ⟩
