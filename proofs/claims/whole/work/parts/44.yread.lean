/-! THE REFERENCE: READ BACK, small steps -/
abbrev FY (M : Mem) : Int → Int := sgn (M 73 16) (M 82)
def FR (M N : Mem) : Prop := (∀ f, f < 18 → N 73 f = M 73 f) ∧ ∀ k, ¬ k = 73 → ¬ k = 83 → N k = M k
theorem FR.refl (M : Mem) : FR M M := ⟨fun _ _ => rfl, fun _ _ _ => rfl⟩
theorem FR.trans {M N P : Mem} (h : FR M N) (h2 : FR N P) : FR M P := ⟨fun f hf => (h2.1 f hf).trans (h.1 f hf), fun k a b => (h2.2 k a b).trans (h.2 k a b)⟩
theorem FR.yv {M N : Mem} (h : FR M N) : YV N = YV M := by unfold YV; rw [h.2 74 (by omega) (by omega)]
theorem FR.fy {M N : Mem} (h : FR M N) : FY N = FY M := by unfold FY; rw [h.2 82 (by omega) (by omega), h.1 16 (by omega)]
theorem FR.m {M N : Mem} (h : FR M N) : N 73 16 = M 73 16 := h.1 16 (by omega)
theorem FR.put {M N : Mem} (h : FR M N) {f : Nat} (hf : 18 ≤ f) (z : Int) : FR M (mup N 73 f z) := ⟨fun q hq => by rw [← h.1 q hq, mup_at, if_neg (by omega)], fun k a b => by rw [← h.2 k a b]; funext q; simp [mup_at, a]⟩
/-- D was given; the place, the end of the figures, the fault's place are p, f, a -/
def OG (D : List Int) (M N : Mem) (p f a : Int) : Prop := N 73 18 = M 73 18 + D.length ∧ (∀ j : Nat, (j : Int) < M 73 18 → N 83 j = M 83 j) ∧ (∀ j : Nat, j < D.length → N 83 ((M 73 18).toNat + j) = D.getD j 0) ∧ N 73 20 = p ∧ N 73 21 = f ∧ N 73 19 = a ∧ FR M N
theorem OG.fr {D : List Int} {M N : Mem} {p f a : Int} (h : OG D M N p f a) : FR M N := h.2.2.2.2.2.2
theorem OG_nil (M : Mem) : OG [] M M (M 73 20) (M 73 21) (M 73 19) := ⟨by simp, fun _ _ => rfl, fun j hj => by simp at hj, rfl, rfl, rfl, FR.refl M⟩
theorem OG.place {D : List Int} {M N : Mem} {p f a : Int} (h : OG D M N p f a) (z : Int) : OG D M (mup N 73 20 z) z f a := by
  obtain ⟨h1, h2, h3, h4, h5, h6, h7⟩ := h
  exact ⟨by rw [← h1]; simp [mup_at], fun j hj => by rw [← h2 j hj]; simp [mup_at], fun j hj => by rw [← h3 j hj]; simp [mup_at], by simp [mup_at], by rw [← h5]; simp [mup_at], by rw [← h6]; simp [mup_at], h7.put (by omega) z⟩
theorem OG.figs {D : List Int} {M N : Mem} {p f a : Int} (h : OG D M N p f a) (z : Int) : OG D M (mup N 73 21 z) p z a := by
  obtain ⟨h1, h2, h3, h4, h5, h6, h7⟩ := h
  exact ⟨by rw [← h1]; simp [mup_at], fun j hj => by rw [← h2 j hj]; simp [mup_at], fun j hj => by rw [← h3 j hj]; simp [mup_at], by rw [← h4]; simp [mup_at], by simp [mup_at], by rw [← h6]; simp [mup_at], h7.put (by omega) z⟩
theorem OG.trans {A B : List Int} {M N P : Mem} {p f a p2 f2 a2 : Int} (h : OG A M N p f a) (h2 : OG B N P p2 f2 a2) (h0 : 0 ≤ M 73 18) : OG (A ++ B) M P p2 f2 a2 := by
  obtain ⟨a1, a2, a3, a4, a5, a6, a7⟩ := h
  obtain ⟨b1, b2, b3, b4, b5, b6, b7⟩ := h2
  refine ⟨by rw [b1, a1, List.length_append]; omega, fun j hj => by rw [b2 j (by omega), a2 j hj], fun j hj => ?_, b4, b5, b6, a7.trans b7⟩
  rw [List.length_append] at hj
  rw [List.getD_eq_getElem?_getD]
  by_cases q : j < A.length
  · rw [b2 _ (by omega), a3 j q, List.getElem?_append_left q, List.getD_eq_getElem?_getD]
  · rw [show (M 73 18).toNat + j = (N 73 18).toNat + (j - A.length) by omega, b3 _ (by omega), List.getElem?_append_right (by omega), List.getD_eq_getElem?_getD]
def gvY (M : Mem) (g : Int) : Mem := mup (mup M 83 (M 73 18).toNat g) 73 18 (M 73 18 + 1)
theorem OG_give {M : Mem} (h0 : 0 ≤ M 73 18) (g : Int) : OG [g] M (gvY M g) (M 73 20) (M 73 21) (M 73 19) := by
  refine ⟨by simp [gvY, mup_at], fun j hj => ?_, fun j hj => ?_, by simp [gvY, mup_at], by simp [gvY, mup_at], by simp [gvY, mup_at], ⟨fun f hf => by simp [gvY, mup_at, show ¬ f = 18 by omega], fun k a b => by funext q; simp [gvY, mup_at, a, b]⟩⟩
  · have : ¬ j = (M 73 18).toNat := by omega
    simp [gvY, mup_at, this]
  · have : j = 0 := by simpa using hj
    subst this
    simp [gvY, mup_at]
theorem OG.give {D : List Int} {M N : Mem} {p f a : Int} (h : OG D M N p f a) (h0 : 0 ≤ M 73 18) (g : Int) : OG (D ++ [g]) M (gvY N g) p f a := by
  have h1 : 0 ≤ N 73 18 := by have := h.1; omega
  have q := h.trans (OG_give h1 g) h0
  rwa [h.2.2.2.1, h.2.2.2.2.1, h.2.2.2.2.2.1] at q
def cdK (code base : Int) (k : Nat) : List Int := (List.range k).map fun (e : Nat) => base + dgC code (e : Int) - 1
theorem cdK_s (code base : Int) (k : Nat) : cdK code base (k + 1) = cdK code base k ++ [base + dgC code (k : Int) - 1] := by
  unfold cdK; rw [List.range_succ, List.map_append]; rfl
theorem cdK_len (code base : Int) (k : Nat) : (cdK code base k).length = k := by unfold cdK; simp
theorem rOf_rng {V : BV} (h : vOk V) (c : Int) : rOf V c = -1 ∨ (0 ≤ rOf V c ∧ rOf V c < vR V) := by
  by_cases q : rOf V c = -1
  · exact Or.inl q
  · have := fIx_yes h.2.2.1 q
    exact Or.inr ⟨this.1, this.2.1⟩
def sp_X7_feltAt : SP := fun av M Ret => ∃ i : Int, av = [mr 73, mi i] ∧ (0 ≤ M 73 16 ∧ M 73 16 ≤ 240) ∧ (Ret (some (mi (FY M i))) M)
theorem k_X7_feltAt {code : List Sem} {Z : KZ} {Ret : KR} {ls : List (Option MV)} {M : Mem} {r : List MV} (hZ : Sim code Z Ret) (ip np : Nat) {i : Int} (hc : code[ip]? = some (I_callV 7 1 sp_X7_feltAt)) (hn : ip + 1 = np) (h3 : catS r ≤ 8)  (hp : 0 ≤ M 73 16 ∧ M 73 16 ≤ 240) (kz : Z np ls (mi (FY M i) :: r) M) : Z ip ls (mi i :: mr 73 :: r) M := w_callV1 hZ ip np hc hn rfl rfl h3 ⟨_, rfl, hp, kz⟩
def cd_X7_feltAt : List Sem := [I_iload 1, I_i2l, I_lconst (0), I_aload 0, I_get 7 16, I_const (1), I_sub, I_i2l, I_callS 3 sp_X7_in, I_ifeq 15, I_aload 0, I_get 7 15, I_iload 1, I_iald, I_goto 16, I_const (-1), I_iret]
def pc_X7_feltAt : List Nat := [0, 1, 2, 3, 4, 7, 8, 9, 10, 13, 16, 17, 20, 21, 22, 25, 26]
set_option maxRecDepth 100000 in
set_option maxHeartbeats 4000000 in
theorem b_X7_feltAt (i : Int) (i_i : InR i) (M : Mem) (Ret : KR) (hp : 0 ≤ M 73 16 ∧ M 73 16 ≤ 240) (hR : Ret (some (mi (FY M i))) M) (hM : MOk M) (Z : KZ) (hZ : Sim cd_X7_feltAt Z Ret) : Z 0 [some (mr 73), some (mi i)] [] M := by
  obtain ⟨b1, b2⟩ := hp
  refine w_iload hZ 0 1 rfl rfl rfl ?_
  refine w_i2l hZ 1 2 rfl rfl  ?_
  refine w_lconst hZ 2 3 rfl rfl  ?_
  refine w_aload hZ 3 4 rfl rfl rfl ?_
  refine w_geti hZ 4 5 rfl rfl rfl rfl rfl ?_
  refine w_const hZ 5 6 rfl rfl  ?_
  refine w_sub hZ 6 7 rfl rfl (by unfold InR; omega) ?_
  refine w_i2l hZ 7 8 rfl rfl  ?_
  refine k_X7_in hZ 8 9 rfl rfl (Nat.le_of_ble_eq_true rfl)  ?_
  refine w_ifeq hZ 9 10 rfl rfl (fun c9 => ?_) (fun c9 => ?_)
  · refine w_const hZ 15 16 rfl rfl  ?_
    refine w_iret hZ 16 rfl ?_
    first
      | exact ret_i hR (sgn_in c9.1 (by omega))
      | exact ret_i hR (if_neg (fun z => (b2i_z.mp c9) ⟨z.1, by omega⟩))
  · replace c9 := b2i_e.mp c9
    refine w_aload hZ 10 11 rfl rfl rfl ?_
    refine w_getr hZ 11 12 rfl rfl rfl rfl rfl ?_
    refine w_iload hZ 12 13 rfl rfl rfl ?_
    refine w_iald hZ 13 14 rfl rfl rfl (by omega) (by omega) ?_
    refine w_goto hZ 14 16 rfl ?_
    refine w_iret hZ 16 rfl ?_
    first
      | exact ret_i hR (sgn_in c9.1 (by omega))
      | exact ret_i hR (if_neg (fun z => (b2i_z.mp c9) ⟨z.1, by omega⟩))
set_option maxRecDepth 100000 in
set_option maxHeartbeats 4000000 in
theorem ao_X7_feltAt : AllOk yX7_feltAt.cls cX7_feltAt 2 1 25 (some .int) none pc_X7_feltAt 0 cd_X7_feltAt := ⟨s_iload_n (k := 1) (by decide +kernel) rfl rfl, ⟨s_i2l (by decide +kernel) rfl, ⟨s_lconst (k := 0) (by decide +kernel) rfl ⟨by decide, by decide⟩ (by decide +kernel), ⟨s_aload_n (k := 0) (by decide +kernel) rfl rfl, ⟨s_get (C := RX7) (T := TX7) (N := 22) rfl inT7 (by decide) tw_3_175 (by decide +kernel) rfl, ⟨s_iconst (by decide +kernel) rfl ⟨by decide, by decide⟩, ⟨s_sub (by decide +kernel) rfl, ⟨s_i2l (by decide +kernel) rfl, ⟨s_callS ct_X7_in (by decide) (by decide) ⟨by decide +kernel, by decide +kernel, by decide +kernel⟩ tw_3_234 tw_3_235 tw_1_8 tw_3_236 (by decide +kernel) rfl, ⟨s_ifeq (off := (12)) (by decide +kernel) rfl rfl, ⟨s_aload_n (k := 0) (by decide +kernel) rfl rfl, ⟨s_get (C := RX7) (T := TX7) (N := 22) rfl inT7 (by decide) tw_3_174 (by decide +kernel) rfl, ⟨s_iload_n (k := 1) (by decide +kernel) rfl rfl, ⟨s_iald (by decide +kernel) rfl, ⟨s_goto (off := (4)) (by decide +kernel) rfl, ⟨s_iconst (by decide +kernel) rfl ⟨by decide, by decide⟩, ⟨s_iret rfl (by decide +kernel), trivial⟩⟩⟩⟩⟩⟩⟩⟩⟩⟩⟩⟩⟩⟩⟩⟩⟩
theorem ct_X7_feltAt : Ctr yX7_feltAt cX7_feltAt 2 (some .int) 1 25 sp_X7_feltAt := by
  refine ctr_of (by decide +kernel) ao_X7_feltAt rfl ?_
  rintro av M Ret ⟨i, rfl, hp, hR⟩ hok hM
  exact ⟨Nat.le_of_ble_eq_true rfl, fun Z hZ => b_X7_feltAt  i (hok _ (List.mem_of_getElem? (i := 1) rfl)) M Ret hp hR hM Z hZ⟩
def sp_X7_isRuleCell : SP := fun av M Ret => ∃ c : Int, av = [mr 73, mi c] ∧ (vOk (YV M)) ∧ (Ret (some (mi (b2i (isRl (YV M) c)))) M)
theorem k_X7_isRuleCell {code : List Sem} {Z : KZ} {Ret : KR} {ls : List (Option MV)} {M : Mem} {r : List MV} (hZ : Sim code Z Ret) (ip np : Nat) {c : Int} (hc : code[ip]? = some (I_callV 7 1 sp_X7_isRuleCell)) (hn : ip + 1 = np) (h3 : catS r ≤ 8)  (hp : vOk (YV M)) (kz : Z np ls (mi (b2i (isRl (YV M) c)) :: r) M) : Z ip ls (mi c :: mr 73 :: r) M := w_callV1 hZ ip np hc hn rfl rfl h3 ⟨_, rfl, hp, kz⟩
def cd_X7_isRuleCell : List Sem := [I_iload 1, I_i2l, I_lconst (30), I_lconst (59), I_callS 3 sp_X7_in, I_ifeq 12, I_aload 0, I_iload 1, I_callV 7 1 sp_X7_ruleBy, I_iflt 12, I_const (1), I_goto 13, I_const (0), I_zret]
def pc_X7_isRuleCell : List Nat := [0, 1, 2, 5, 8, 11, 14, 15, 16, 19, 22, 23, 26, 27]
set_option maxRecDepth 100000 in
set_option maxHeartbeats 4000000 in
theorem b_X7_isRuleCell (c : Int) (i_c : InR c) (M : Mem) (Ret : KR) (hp : vOk (YV M)) (hR : Ret (some (mi (b2i (isRl (YV M) c)))) M) (hM : MOk M) (Z : KZ) (hZ : Sim cd_X7_isRuleCell Z Ret) : Z 0 [some (mr 73), some (mi c)] [] M := by
  have hr := rOf_rng hp c
  refine w_iload hZ 0 1 rfl rfl rfl ?_
  refine w_i2l hZ 1 2 rfl rfl  ?_
  refine w_lconst hZ 2 3 rfl rfl  ?_
  refine w_lconst hZ 3 4 rfl rfl  ?_
  refine k_X7_in hZ 4 5 rfl rfl (Nat.le_of_ble_eq_true rfl)  ?_
  refine w_ifeq hZ 5 6 rfl rfl (fun c5 => ?_) (fun c5 => ?_)
  · refine w_const hZ 12 13 rfl rfl  ?_
    refine w_zret hZ 13 rfl (by omega) ?_
    first
      | exact ret_i hR (b2i_t ⟨b2i_e.mp c5, by omega⟩)
      | exact ret_i hR (b2i_f (fun z => (b2i_z.mp c5) z.1))
      | exact ret_i hR (b2i_f (fun z => z.2 (by omega)))
  · refine w_aload hZ 6 7 rfl rfl rfl ?_
    refine w_iload hZ 7 8 rfl rfl rfl ?_
    refine k_X7_ruleBy hZ 8 9 rfl rfl (Nat.le_of_ble_eq_true rfl) hp ?_
    refine w_iflt hZ 9 10 rfl rfl (fun c9 => ?_) (fun c9 => ?_)
    · refine w_const hZ 12 13 rfl rfl  ?_
      refine w_zret hZ 13 rfl (by omega) ?_
      first
        | exact ret_i hR (b2i_t ⟨b2i_e.mp c5, by omega⟩)
        | exact ret_i hR (b2i_f (fun z => (b2i_z.mp c5) z.1))
        | exact ret_i hR (b2i_f (fun z => z.2 (by omega)))
    · refine w_const hZ 10 11 rfl rfl  ?_
      refine w_goto hZ 11 13 rfl ?_
      refine w_zret hZ 13 rfl (by omega) ?_
      first
        | exact ret_i hR (b2i_t ⟨b2i_e.mp c5, by omega⟩)
        | exact ret_i hR (b2i_f (fun z => (b2i_z.mp c5) z.1))
        | exact ret_i hR (b2i_f (fun z => z.2 (by omega)))
set_option maxRecDepth 100000 in
set_option maxHeartbeats 4000000 in
theorem ao_X7_isRuleCell : AllOk yX7_isRuleCell.cls cX7_isRuleCell 2 1 25 (some .boolean) none pc_X7_isRuleCell 0 cd_X7_isRuleCell := ⟨s_iload_n (k := 1) (by decide +kernel) rfl rfl, ⟨s_i2l (by decide +kernel) rfl, ⟨s_ldc2 (v := (30)) tw_4_5 (by decide +kernel) rfl ⟨by decide, by decide⟩ (by decide +kernel), ⟨s_ldc2 (v := (59)) tw_4_6 (by decide +kernel) rfl ⟨by decide, by decide⟩ (by decide +kernel), ⟨s_callS ct_X7_in (by decide) (by decide) ⟨by decide +kernel, by decide +kernel, by decide +kernel⟩ tw_3_234 tw_3_235 tw_1_8 tw_3_236 (by decide +kernel) rfl, ⟨s_ifeq (off := (15)) (by decide +kernel) rfl rfl, ⟨s_aload_n (k := 0) (by decide +kernel) rfl rfl, ⟨s_iload_n (k := 1) (by decide +kernel) rfl rfl, ⟨s_callV (C := RX7) (T := TX7) (N := 22) rfl ct_X7_ruleBy (by decide) (by decide) ⟨rfl, by decide +kernel, by decide +kernel, by decide +kernel⟩ tw_4_195 tw_4_197 ts_4_14 tw_1_8 tw_4_198 (by decide +kernel) rfl, ⟨s_iflt (off := (7)) (by decide +kernel) rfl rfl, ⟨s_iconst (by decide +kernel) rfl ⟨by decide, by decide⟩, ⟨s_goto (off := (4)) (by decide +kernel) rfl, ⟨s_iconst (by decide +kernel) rfl ⟨by decide, by decide⟩, ⟨s_zret rfl (by decide +kernel), trivial⟩⟩⟩⟩⟩⟩⟩⟩⟩⟩⟩⟩⟩⟩
theorem ct_X7_isRuleCell : Ctr yX7_isRuleCell cX7_isRuleCell 2 (some .boolean) 1 25 sp_X7_isRuleCell := by
  refine ctr_of (by decide +kernel) ao_X7_isRuleCell rfl ?_
  rintro av M Ret ⟨c, rfl, hp, hR⟩ hok hM
  exact ⟨Nat.le_of_ble_eq_true rfl, fun Z hZ => b_X7_isRuleCell  c (hok _ (List.mem_of_getElem? (i := 1) rfl)) M Ret hp hR hM Z hZ⟩
def sp_X7_faults : SP := fun av M Ret => ∃ a : Int, av = [mr 73, mi a] ∧ (vOk (YV M) ∧ 0 ≤ M 73 16 ∧ M 73 16 ≤ 240) ∧ (∀ M2 : Mem, (M2 = mup M 73 19 a) → Ret (some (mi (fk (YV M) (FY M a)))) M2)
theorem k_X7_faults {code : List Sem} {Z : KZ} {Ret : KR} {ls : List (Option MV)} {M : Mem} {r : List MV} (hZ : Sim code Z Ret) (ip np : Nat) {a : Int} (hc : code[ip]? = some (I_callV 7 1 sp_X7_faults)) (hn : ip + 1 = np) (h3 : catS r ≤ 8)  (hp : vOk (YV M) ∧ 0 ≤ M 73 16 ∧ M 73 16 ≤ 240) (kz : ∀ M2 : Mem, (M2 = mup M 73 19 a) → Z np ls (mi (fk (YV M) (FY M a)) :: r) M2) : Z ip ls (mi a :: mr 73 :: r) M := w_callV1 hZ ip np hc hn rfl rfl h3 ⟨_, rfl, hp, fun M2 h => kz M2 h⟩
def cd_X7_faults : List Sem := [I_aload 0, I_iload 1, I_callV 7 1 sp_X7_feltAt, I_istore 2, I_aload 0, I_iload 1, I_puti 7 19, I_iload 2, I_const (63), I_ceq 20, I_iload 2, I_i2l, I_lconst (30), I_lconst (59), I_callS 3 sp_X7_in, I_ifeq 22, I_aload 0, I_iload 2, I_callV 7 1 sp_X7_ruleBy, I_ifge 22, I_const (1), I_goto 23, I_const (2), I_iret]
def pc_X7_faults : List Nat := [0, 1, 2, 5, 6, 7, 8, 11, 12, 14, 17, 18, 19, 22, 25, 28, 31, 32, 33, 36, 39, 40, 43, 44]
set_option maxRecDepth 100000 in
set_option maxHeartbeats 4000000 in
theorem b_X7_faults (a : Int) (i_a : InR a) (M : Mem) (Ret : KR) (hp : vOk (YV M) ∧ 0 ≤ M 73 16 ∧ M 73 16 ≤ 240) (hR : ∀ M2 : Mem, (M2 = mup M 73 19 a) → Ret (some (mi (fk (YV M) (FY M a)))) M2) (hM : MOk M) (Z : KZ) (hZ : Sim cd_X7_faults Z Ret) : Z 0 [some (mr 73), some (mi a), none] [] M := by
  obtain ⟨hvo, b1, b2⟩ := hp
  have hr := rOf_rng hvo (FY M a)
  have eY : YV (mup M 73 19 a) = YV M := by unfold YV; congr 1
  have hY : vOk (YV (mup M 73 19 a)) := by rw [eY]; exact hvo
  have hret : ∀ x : Int, x = fk (YV M) (FY M a) → Ret (some (mi x)) (mup M 73 19 a) := fun x hx => by rw [hx]; exact hR _ rfl
  refine w_aload hZ 0 1 rfl rfl rfl ?_
  refine w_iload hZ 1 2 rfl rfl rfl ?_
  refine k_X7_feltAt hZ 2 3 rfl rfl (Nat.le_of_ble_eq_true rfl) ⟨b1, b2⟩ ?_
  refine w_st3_2 hZ 3 4 rfl rfl rfl ?_
  refine w_aload hZ 4 5 rfl rfl rfl ?_
  refine w_iload hZ 5 6 rfl rfl rfl ?_
  refine w_puti hZ 6 7 rfl rfl rfl rfl rfl ?_
  refine w_iload hZ 7 8 rfl rfl rfl ?_
  refine w_const hZ 8 9 rfl rfl  ?_
  refine w_ceq hZ 9 10 rfl rfl (fun c9 => ?_) (fun c9 => ?_)
  · refine w_const hZ 20 21 rfl rfl  ?_
    refine w_goto hZ 21 23 rfl ?_
    refine w_iret hZ 23 rfl ?_
    refine hret _ ?_
    unfold fk
    first
      | exact (if_pos (Or.inl c9)).symm
      | exact (if_pos (Or.inr ⟨b2i_e.mp c15, by omega⟩)).symm
      | exact (if_neg (fun z => z.elim c9 (fun z => absurd z.2 (by omega)))).symm
      | exact (if_neg (fun z => z.elim c9 (fun z => (b2i_z.mp c15) z.1))).symm
  · refine w_iload hZ 10 11 rfl rfl rfl ?_
    refine w_i2l hZ 11 12 rfl rfl  ?_
    refine w_lconst hZ 12 13 rfl rfl  ?_
    refine w_lconst hZ 13 14 rfl rfl  ?_
    refine k_X7_in hZ 14 15 rfl rfl (Nat.le_of_ble_eq_true rfl)  ?_
    refine w_ifeq hZ 15 16 rfl rfl (fun c15 => ?_) (fun c15 => ?_)
    · refine w_const hZ 22 23 rfl rfl  ?_
      refine w_iret hZ 23 rfl ?_
      refine hret _ ?_
      unfold fk
      first
        | exact (if_pos (Or.inl c9)).symm
        | exact (if_pos (Or.inr ⟨b2i_e.mp c15, by omega⟩)).symm
        | exact (if_neg (fun z => z.elim c9 (fun z => absurd z.2 (by omega)))).symm
        | exact (if_neg (fun z => z.elim c9 (fun z => (b2i_z.mp c15) z.1))).symm
    · refine w_aload hZ 16 17 rfl rfl rfl ?_
      refine w_iload hZ 17 18 rfl rfl rfl ?_
      refine k_X7_ruleBy hZ 18 19 rfl rfl (Nat.le_of_ble_eq_true rfl) hY ?_
      rw [eY]
      refine w_ifge hZ 19 20 rfl rfl (fun c19 => ?_) (fun c19 => ?_)
      · refine w_const hZ 22 23 rfl rfl  ?_
        refine w_iret hZ 23 rfl ?_
        refine hret _ ?_
        unfold fk
        first
          | exact (if_pos (Or.inl c9)).symm
          | exact (if_pos (Or.inr ⟨b2i_e.mp c15, by omega⟩)).symm
          | exact (if_neg (fun z => z.elim c9 (fun z => absurd z.2 (by omega)))).symm
          | exact (if_neg (fun z => z.elim c9 (fun z => (b2i_z.mp c15) z.1))).symm
      · refine w_const hZ 20 21 rfl rfl  ?_
        refine w_goto hZ 21 23 rfl ?_
        refine w_iret hZ 23 rfl ?_
        refine hret _ ?_
        unfold fk
        first
          | exact (if_pos (Or.inl c9)).symm
          | exact (if_pos (Or.inr ⟨b2i_e.mp c15, by omega⟩)).symm
          | exact (if_neg (fun z => z.elim c9 (fun z => absurd z.2 (by omega)))).symm
          | exact (if_neg (fun z => z.elim c9 (fun z => (b2i_z.mp c15) z.1))).symm
set_option maxRecDepth 100000 in
set_option maxHeartbeats 4000000 in
theorem ao_X7_faults : AllOk yX7_faults.cls cX7_faults 3 2 46 (some .int) none pc_X7_faults 0 cd_X7_faults := ⟨s_aload_n (k := 0) (by decide +kernel) rfl rfl, ⟨s_iload_n (k := 1) (by decide +kernel) rfl rfl, ⟨s_callV (C := RX7) (T := TX7) (N := 22) rfl ct_X7_feltAt (by decide) (by decide) ⟨rfl, by decide +kernel, by decide +kernel, by decide +kernel⟩ tw_4_219 tw_4_221 ts_5_1 tw_1_8 tw_4_222 (by decide +kernel) rfl, ⟨s_istore_n (k := 2) (by decide +kernel) rfl rfl, ⟨s_aload_n (k := 0) (by decide +kernel) rfl rfl, ⟨s_iload_n (k := 1) (by decide +kernel) rfl rfl, ⟨s_puti (C := RX7) (T := TX7) (N := 22) (tyf := tyX7) rfl inT7 tyX7_ok nmX7 (by decide) rfl rfl tw_3_178 (by decide +kernel) rfl, ⟨s_iload_n (k := 2) (by decide +kernel) rfl rfl, ⟨s_bipush (by decide +kernel) rfl ⟨by decide, by decide⟩ (by decide +kernel), ⟨s_ceq (off := (25)) (by decide +kernel) rfl rfl, ⟨s_iload_n (k := 2) (by decide +kernel) rfl rfl, ⟨s_i2l (by decide +kernel) rfl, ⟨s_ldc2 (v := (30)) tw_4_5 (by decide +kernel) rfl ⟨by decide, by decide⟩ (by decide +kernel), ⟨s_ldc2 (v := (59)) tw_4_6 (by decide +kernel) rfl ⟨by decide, by decide⟩ (by decide +kernel), ⟨s_callS ct_X7_in (by decide) (by decide) ⟨by decide +kernel, by decide +kernel, by decide +kernel⟩ tw_3_234 tw_3_235 tw_1_8 tw_3_236 (by decide +kernel) rfl, ⟨s_ifeq (off := (15)) (by decide +kernel) rfl rfl, ⟨s_aload_n (k := 0) (by decide +kernel) rfl rfl, ⟨s_iload_n (k := 2) (by decide +kernel) rfl rfl, ⟨s_callV (C := RX7) (T := TX7) (N := 22) rfl ct_X7_ruleBy (by decide) (by decide) ⟨rfl, by decide +kernel, by decide +kernel, by decide +kernel⟩ tw_4_195 tw_4_197 ts_4_14 tw_1_8 tw_4_198 (by decide +kernel) rfl, ⟨s_ifge (off := (7)) (by decide +kernel) rfl rfl, ⟨s_iconst (by decide +kernel) rfl ⟨by decide, by decide⟩, ⟨s_goto (off := (4)) (by decide +kernel) rfl, ⟨s_iconst (by decide +kernel) rfl ⟨by decide, by decide⟩, ⟨s_iret rfl (by decide +kernel), trivial⟩⟩⟩⟩⟩⟩⟩⟩⟩⟩⟩⟩⟩⟩⟩⟩⟩⟩⟩⟩⟩⟩⟩⟩
theorem ct_X7_faults : Ctr yX7_faults cX7_faults 3 (some .int) 2 46 sp_X7_faults := by
  refine ctr_of (by decide +kernel) ao_X7_faults rfl ?_
  rintro av M Ret ⟨a, rfl, hp, hR⟩ hok hM
  exact ⟨Nat.le_of_ble_eq_true rfl, fun Z hZ => b_X7_faults  a (hok _ (List.mem_of_getElem? (i := 1) rfl)) M Ret hp hR hM Z hZ⟩
def sp_X7_give : SP := fun av M Ret => ∃ g : Int, av = [mr 73, mi g] ∧ (0 ≤ M 73 18 ∧ M 73 18 < 1000) ∧ (∀ M2 : Mem, (M2 = gvY M g) → Ret none M2)
theorem k_X7_give {code : List Sem} {Z : KZ} {Ret : KR} {ls : List (Option MV)} {M : Mem} {r : List MV} (hZ : Sim code Z Ret) (ip np : Nat) {g : Int} (hc : code[ip]? = some (I_callV 7 1 sp_X7_give)) (hn : ip + 1 = np) (h3 : catS r ≤ 8)  (hp : 0 ≤ M 73 18 ∧ M 73 18 < 1000) (kz : ∀ M2 : Mem, (M2 = gvY M g) → Z np ls r M2) : Z ip ls (mi g :: mr 73 :: r) M := w_callV1 hZ ip np hc hn rfl rfl h3 ⟨_, rfl, hp, fun M2 h => kz M2 h⟩
def cd_X7_give : List Sem := [I_aload 0, I_get 7 17, I_aload 0, I_get 7 18, I_iload 1, I_iast, I_aload 0, I_dup, I_get 7 18, I_const (1), I_add, I_puti 7 18, I_vret]
def pc_X7_give : List Nat := [0, 1, 4, 5, 8, 9, 10, 11, 12, 15, 16, 17, 20]
set_option maxRecDepth 100000 in
set_option maxHeartbeats 4000000 in
theorem b_X7_give (g : Int) (i_g : InR g) (M : Mem) (Ret : KR) (hp : 0 ≤ M 73 18 ∧ M 73 18 < 1000) (hR : ∀ M2 : Mem, (M2 = gvY M g) → Ret none M2) (hM : MOk M) (Z : KZ) (hZ : Sim cd_X7_give Z Ret) : Z 0 [some (mr 73), some (mi g)] [] M := by
  obtain ⟨b1, b2⟩ := hp
  refine w_aload hZ 0 1 rfl rfl rfl ?_
  refine w_getr hZ 1 2 rfl rfl rfl rfl rfl ?_
  refine w_aload hZ 2 3 rfl rfl rfl ?_
  refine w_geti hZ 3 4 rfl rfl rfl rfl rfl ?_
  refine w_iload hZ 4 5 rfl rfl rfl ?_
  refine w_iast hZ 5 6 rfl rfl rfl (by omega) (by omega) ?_
  refine w_aload hZ 6 7 rfl rfl rfl ?_
  refine w_dup hZ 7 8 rfl rfl rfl ?_
  refine w_getiv hZ 8 9 rfl rfl rfl rfl rfl (v := M 73 18) (by simp [mup_at]) ?_
  refine w_const hZ 9 10 rfl rfl  ?_
  refine w_add hZ 10 11 rfl rfl (by unfold InR; omega) ?_
  refine w_puti hZ 11 12 rfl rfl rfl rfl rfl ?_
  refine w_vret hZ 12 rfl ?_
  exact hR _ rfl
set_option maxRecDepth 100000 in
set_option maxHeartbeats 4000000 in
theorem ao_X7_give : AllOk yX7_give.cls cX7_give 2 0 0 none none pc_X7_give 0 cd_X7_give := ⟨s_aload_n (k := 0) (by decide +kernel) rfl rfl, ⟨s_get (C := RX7) (T := TX7) (N := 22) rfl inT7 (by decide) tw_3_176 (by decide +kernel) rfl, ⟨s_aload_n (k := 0) (by decide +kernel) rfl rfl, ⟨s_get (C := RX7) (T := TX7) (N := 22) rfl inT7 (by decide) tw_3_177 (by decide +kernel) rfl, ⟨s_iload_n (k := 1) (by decide +kernel) rfl rfl, ⟨s_iast (by decide +kernel) rfl, ⟨s_aload_n (k := 0) (by decide +kernel) rfl rfl, ⟨s_dup (by decide +kernel) rfl, ⟨s_get (C := RX7) (T := TX7) (N := 22) rfl inT7 (by decide) tw_3_177 (by decide +kernel) rfl, ⟨s_iconst (by decide +kernel) rfl ⟨by decide, by decide⟩, ⟨s_add (by decide +kernel) rfl, ⟨s_puti (C := RX7) (T := TX7) (N := 22) (tyf := tyX7) rfl inT7 tyX7_ok nmX7 (by decide) rfl rfl tw_3_177 (by decide +kernel) rfl, ⟨s_vret rfl (by decide +kernel), trivial⟩⟩⟩⟩⟩⟩⟩⟩⟩⟩⟩⟩⟩
theorem ct_X7_give : Ctr yX7_give cX7_give 2 none 0 0 sp_X7_give := by
  refine ctr_of (by decide +kernel) ao_X7_give rfl ?_
  rintro av M Ret ⟨g, rfl, hp, hR⟩ hok hM
  exact ⟨Nat.le_of_ble_eq_true rfl, fun Z hZ => b_X7_give  g (hok _ (List.mem_of_getElem? (i := 1) rfl)) M Ret hp hR hM Z hZ⟩
def sp_X7_giveLetters : SP := fun av M Ret => ∃ g : Bool, ∃ c : Int, ∃ gi : Int, av = [mr 73, mi c, mi gi] ∧ (vOk (YV M) ∧ (isLC c ∨ isRl (YV M) c) ∧ 0 ≤ M 73 18 ∧ M 73 18 ≤ 990 ∧ 0 ≤ M 73 20 ∧ M 73 20 ≤ 500 ∧ gi = b2i (g = true)) ∧ (∀ M2 : Mem, (OG (ltrs (YV M) c (if g = true then (65 : Int) else 97)) M M2 (M 73 20 + 1) (M 73 21) (M 73 19)) → Ret none M2)
theorem k_X7_giveLetters {code : List Sem} {Z : KZ} {Ret : KR} {ls : List (Option MV)} {M : Mem} {r : List MV} (hZ : Sim code Z Ret) (ip np : Nat) {g : Bool} {c gi : Int} (hc : code[ip]? = some (I_callV 7 2 sp_X7_giveLetters)) (hn : ip + 1 = np) (h3 : catS r ≤ 8)  (hp : vOk (YV M) ∧ (isLC c ∨ isRl (YV M) c) ∧ 0 ≤ M 73 18 ∧ M 73 18 ≤ 990 ∧ 0 ≤ M 73 20 ∧ M 73 20 ≤ 500 ∧ gi = b2i (g = true)) (kz : ∀ M2 : Mem, (OG (ltrs (YV M) c (if g = true then (65 : Int) else 97)) M M2 (M 73 20 + 1) (M 73 21) (M 73 19)) → Z np ls r M2) : Z ip ls (mi gi :: mi c :: mr 73 :: r) M := w_callV2 hZ ip np hc hn rfl rfl h3 ⟨_, _, _, rfl, hp, fun M2 h => kz M2 h⟩
def cd_X7_giveLetters : List Sem := [I_iload 2, I_ifeq 4, I_const (32), I_goto 5, I_const (0), I_istore 3, I_iload 1, I_callS 1 sp_X7_isLetterCell, I_ifeq 17, I_aload 0, I_const (96), I_iload 1, I_add, I_iload 3, I_sub, I_callV 7 1 sp_X7_give, I_goto 41, I_aload 0, I_get 7 0, I_const (1), I_aload 0, I_iload 1, I_callV 7 1 sp_X7_ruleBy, I_add, I_iald, I_istore 4, I_const (0), I_istore 5, I_iload 5, I_iload 4, I_callS 1 sp_X7_lettersOf, I_cge 41, I_aload 0, I_iload 4, I_iload 5, I_callS 2 sp_X7_letterOf, I_iload 3, I_sub, I_callV 7 1 sp_X7_give, I_iinc 5 (1), I_goto 28, I_aload 0, I_dup, I_get 7 20, I_const (1), I_add, I_puti 7 20, I_vret]
def pc_X7_giveLetters : List Nat := [0, 1, 4, 6, 9, 10, 11, 12, 15, 18, 19, 21, 22, 23, 24, 25, 28, 31, 32, 35, 36, 37, 38, 41, 42, 43, 45, 46, 48, 50, 52, 55, 58, 59, 61, 63, 66, 67, 68, 71, 74, 77, 78, 79, 82, 83, 84, 87]
set_option maxRecDepth 100000 in
set_option maxHeartbeats 4000000 in
theorem b_X7_giveLetters (g : Bool) (c : Int) (i_c : InR c) (gi : Int) (i_gi : InR gi) (M : Mem) (Ret : KR) (hp : vOk (YV M) ∧ (isLC c ∨ isRl (YV M) c) ∧ 0 ≤ M 73 18 ∧ M 73 18 ≤ 990 ∧ 0 ≤ M 73 20 ∧ M 73 20 ≤ 500 ∧ gi = b2i (g = true)) (hR : ∀ M2 : Mem, (OG (ltrs (YV M) c (if g = true then (65 : Int) else 97)) M M2 (M 73 20 + 1) (M 73 21) (M 73 19)) → Ret none M2) (hM : MOk M) (Z : KZ) (hZ : Sim cd_X7_giveLetters Z Ret) : Z 0 [some (mr 73), some (mi c), some (mi gi), none, none, none] [] M := by
  obtain ⟨hvo, hc, s0, s1, p0, p1, hgi⟩ := hp
  have hvR : vR (YV M) ≤ 12 := hvo.2.2.2.1
  have fin : ∀ (D : List Int) (x y z : Option MV) (N : Mem), D = ltrs (YV M) c (if g = true then (65 : Int) else 97) → OG D M N (M 73 20) (M 73 21) (M 73 19) → Z 41 [some (mr 73), some (mi c), some (mi gi), x, y, z] [] N := by
    intro D x y z N hD hO
    have hpl := hO.2.2.2.1
    refine w_aload hZ 41 42 rfl rfl rfl ?_
    refine w_dup hZ 42 43 rfl rfl rfl ?_
    refine w_getiv hZ 43 44 rfl rfl rfl rfl rfl (v := M 73 20) hpl ?_
    refine w_const hZ 44 45 rfl rfl  ?_
    refine w_add hZ 45 46 rfl rfl (by unfold InR; omega) ?_
    refine w_puti hZ 46 47 rfl rfl rfl rfl rfl ?_
    refine w_vret hZ 47 rfl ?_
    have q := hO.place (M 73 20 + 1)
    rw [hD] at q
    exact hR _ q
  have m5 : ∀ ls : Int, ls = 97 - (if g = true then (65 : Int) else 97) → Z 5 [some (mr 73), some (mi c), some (mi gi), none, none, none] [mi ls] M := by
    intro ls hls
    have hb : (if g = true then (65 : Int) else 97) = 65 ∨ (if g = true then (65 : Int) else 97) = 97 := by split <;> omega
    obtain ⟨base, hbase⟩ : ∃ base : Int, (if g = true then (65 : Int) else 97) = base := ⟨_, rfl⟩
    rw [hbase] at hls hb
    have loop : ¬ isLC c → isRC c → ¬ rOf (YV M) c = -1 → ∀ code : Int, code = vC' (YV M) (rOf (YV M) c).toNat → 0 ≤ code → code < 531441 → ∀ (d : Nat) (k : Int) (N : Mem), d = (lnC code - k).toNat → 0 ≤ k → k ≤ lnC code → OG (cdK code base k.toNat) M N (M 73 20) (M 73 21) (M 73 19) → Z 28 [some (mr 73), some (mi c), some (mi gi), some (mi ls), some (mi code), some (mi k)] [] N := by
      intro hnl hrc hro code hcode co0 co1 d
      have hln := lnC_le code
      induction d using Nat.strongRecOn with
      | ind d ih =>
        intro k N hd k0 k1 hO
        have h18 := hO.1
        rw [cdK_len] at h18
        have hdg : k < lnC code → 0 ≤ dgC code k ∧ dgC code k ≤ 26 := fun _ => by unfold dgC; omega
        refine w_iload hZ 28 29 rfl rfl rfl ?_
        refine w_iload hZ 29 30 rfl rfl rfl ?_
        refine k_X7_lettersOf hZ 30 31 rfl rfl (Nat.le_of_ble_eq_true rfl) co1 ?_
        refine w_cge hZ 31 32 rfl rfl (fun c31 => ?_) (fun c31 => ?_)
        · refine fin _ _ _ _ N ?_ hO
          unfold ltrs
          rw [if_neg hnl, if_neg hro, hbase, show k = lnC code by omega, hcode]
          rfl
        · have hdg2 := hdg (by omega)
          refine w_aload hZ 32 33 rfl rfl rfl ?_
          refine w_iload hZ 33 34 rfl rfl rfl ?_
          refine w_iload hZ 34 35 rfl rfl rfl ?_
          refine k_X7_letterOf hZ 35 36 rfl rfl (Nat.le_of_ble_eq_true rfl) ⟨co0, co1, k0, by omega⟩ ?_
          refine w_iload hZ 36 37 rfl rfl rfl ?_
          refine w_sub hZ 37 38 rfl rfl (by unfold InR; omega) ?_
          refine k_X7_give hZ 38 39 rfl rfl (Nat.le_of_ble_eq_true rfl) ⟨by omega, by omega⟩ (fun M38 p38 => ?_)
          refine w_in6_5 hZ 39 40 rfl rfl rfl (by unfold InR; omega) ?_
          refine w_goto hZ 40 28 rfl ?_
          rw [p38]
          refine ih (lnC code - (k + 1)).toNat (by omega) (k + 1) _ rfl (by omega) (by omega) ?_
          rw [show (k + 1).toNat = k.toNat + 1 by omega, cdK_s, show ((k.toNat : Nat) : Int) = k by omega]
          have q := hO.give s0 (base + dgC code k - 1)
          rw [show base + dgC code k - 1 = dgC code k + 96 - ls by omega] at q ⊢
          exact q
    refine w_st6_3 hZ 5 6 rfl rfl rfl ?_
    refine w_iload hZ 6 7 rfl rfl rfl ?_
    refine k_X7_isLetterCell hZ 7 8 rfl rfl (Nat.le_of_ble_eq_true rfl)  ?_
    refine w_ifeq hZ 8 9 rfl rfl (fun c8 => ?_) (fun c8 => ?_)
    · replace c8 := b2i_z.mp c8
      have hrl : isRl (YV M) c := hc.elim (fun z => absurd z c8) (fun z => z)
      have hro := rOf_rng hvo c
      have hro2 : 0 ≤ rOf (YV M) c ∧ rOf (YV M) c < vR (YV M) := hro.elim (fun z => absurd z hrl.2) (fun z => z)
      have hcc := (hvo.2.2.2.2.2.2.1 (rOf (YV M) c).toNat (by omega)).1
      have hcc1 := hcc.1
      have hcc2 := hcc.2.1
      refine w_aload hZ 17 18 rfl rfl rfl ?_
      refine w_getr hZ 18 19 rfl rfl rfl rfl rfl ?_
      refine w_const hZ 19 20 rfl rfl  ?_
      refine w_aload hZ 20 21 rfl rfl rfl ?_
      refine w_iload hZ 21 22 rfl rfl rfl ?_
      refine k_X7_ruleBy hZ 22 23 rfl rfl (Nat.le_of_ble_eq_true rfl) hvo ?_
      
      refine w_add hZ 23 24 rfl rfl (by unfold InR; omega) ?_
      refine w_ialdv hZ 24 25 rfl rfl rfl (by omega) (by omega) (v := vC' (YV M) (rOf (YV M) c).toNat) (Y_c rfl hro2.1 hro2.2) ?_
      refine w_st6_4 hZ 25 26 rfl rfl rfl ?_
      refine w_const hZ 26 27 rfl rfl  ?_
      refine w_st6_5 hZ 27 28 rfl rfl rfl ?_
      exact loop c8 hrl.1 hrl.2 _ rfl (by omega) hcc2 _ 0 M rfl (Int.le_refl _) (lnC_le _).1 (OG_nil M)
    · replace c8 := b2i_e.mp c8
      refine w_aload hZ 9 10 rfl rfl rfl ?_
      refine w_const hZ 10 11 rfl rfl  ?_
      refine w_iload hZ 11 12 rfl rfl rfl ?_
      refine w_add hZ 12 13 rfl rfl (by unfold InR; omega) ?_
      refine w_iload hZ 13 14 rfl rfl rfl ?_
      refine w_sub hZ 14 15 rfl rfl (by unfold InR; omega) ?_
      refine k_X7_give hZ 15 16 rfl rfl (Nat.le_of_ble_eq_true rfl) ⟨s0, by omega⟩ (fun M15 p15 => ?_)
      refine w_goto hZ 16 41 rfl ?_
      rw [p15]
      refine fin _ _ _ _ _ ?_ (OG_give s0 _)
      unfold ltrs
      rw [if_pos c8, hbase, show base + c - 1 = 96 + c - ls by omega]
  refine w_iload hZ 0 1 rfl rfl rfl ?_
  refine w_ifeq hZ 1 2 rfl rfl (fun c1 => ?_) (fun c1 => ?_)
  · refine w_const hZ 4 5 rfl rfl  ?_
    first
      | exact m5 _ (by rw [if_pos (b2i_e.mp (by omega : ¬ b2i (g = true) = 0))]; rfl)
      | exact m5 _ (by rw [if_neg (b2i_z.mp (by omega : b2i (g = true) = 0))]; rfl)
  · refine w_const hZ 2 3 rfl rfl  ?_
    refine w_goto hZ 3 5 rfl ?_
    first
      | exact m5 _ (by rw [if_pos (b2i_e.mp (by omega : ¬ b2i (g = true) = 0))]; rfl)
      | exact m5 _ (by rw [if_neg (b2i_z.mp (by omega : b2i (g = true) = 0))]; rfl)
set_option maxRecDepth 100000 in
set_option maxHeartbeats 4000000 in
theorem ao_X7_giveLetters : AllOk yX7_giveLetters.cls cX7_giveLetters 6 2 45 none none pc_X7_giveLetters 0 cd_X7_giveLetters := ⟨s_iload_n (k := 2) (by decide +kernel) rfl rfl, ⟨s_ifeq (off := (8)) (by decide +kernel) rfl rfl, ⟨s_bipush (by decide +kernel) rfl ⟨by decide, by decide⟩ (by decide +kernel), ⟨s_goto (off := (4)) (by decide +kernel) rfl, ⟨s_iconst (by decide +kernel) rfl ⟨by decide, by decide⟩, ⟨s_istore_n (k := 3) (by decide +kernel) rfl rfl, ⟨s_iload_n (k := 1) (by decide +kernel) rfl rfl, ⟨s_callS ct_X7_isLetterCell (by decide) (by decide) ⟨by decide +kernel, by decide +kernel, by decide +kernel⟩ tw_4_223 tw_4_224 tw_1_8 tw_4_225 (by decide +kernel) rfl, ⟨s_ifeq (off := (16)) (by decide +kernel) rfl rfl, ⟨s_aload_n (k := 0) (by decide +kernel) rfl rfl, ⟨s_bipush (by decide +kernel) rfl ⟨by decide, by decide⟩ (by decide +kernel), ⟨s_iload_n (k := 1) (by decide +kernel) rfl rfl, ⟨s_add (by decide +kernel) rfl, ⟨s_iload_n (k := 3) (by decide +kernel) rfl rfl, ⟨s_sub (by decide +kernel) rfl, ⟨s_callV (C := RX7) (T := TX7) (N := 22) rfl ct_X7_give (by decide) (by decide) ⟨rfl, by decide +kernel, by decide +kernel, by decide +kernel⟩ tw_4_235 tw_4_237 ts_5_4 tw_1_8 tw_4_238 (by decide +kernel) rfl, ⟨s_goto (off := (49)) (by decide +kernel) rfl, ⟨s_aload_n (k := 0) (by decide +kernel) rfl rfl, ⟨s_get (C := RX7) (T := TX7) (N := 22) rfl inT7 (by decide) tw_3_159 (by decide +kernel) rfl, ⟨s_iconst (by decide +kernel) rfl ⟨by decide, by decide⟩, ⟨s_aload_n (k := 0) (by decide +kernel) rfl rfl, ⟨s_iload_n (k := 1) (by decide +kernel) rfl rfl, ⟨s_callV (C := RX7) (T := TX7) (N := 22) rfl ct_X7_ruleBy (by decide) (by decide) ⟨rfl, by decide +kernel, by decide +kernel, by decide +kernel⟩ tw_4_195 tw_4_197 ts_4_14 tw_1_8 tw_4_198 (by decide +kernel) rfl, ⟨s_add (by decide +kernel) rfl, ⟨s_iald (by decide +kernel) rfl, ⟨s_istore (by decide +kernel) rfl, ⟨s_iconst (by decide +kernel) rfl ⟨by decide, by decide⟩, ⟨s_istore (by decide +kernel) rfl, ⟨s_iload (by decide +kernel) rfl, ⟨s_iload (by decide +kernel) rfl, ⟨s_callS ct_X7_lettersOf (by decide) (by decide) ⟨by decide +kernel, by decide +kernel, by decide +kernel⟩ tw_3_237 tw_3_238 tw_1_8 tw_3_239 (by decide +kernel) rfl, ⟨s_cge (off := (22)) (by decide +kernel) rfl rfl, ⟨s_aload_n (k := 0) (by decide +kernel) rfl rfl, ⟨s_iload (by decide +kernel) rfl, ⟨s_iload (by decide +kernel) rfl, ⟨s_callS ct_X7_letterOf (by decide) (by decide) ⟨by decide +kernel, by decide +kernel, by decide +kernel⟩ tw_4_2 tw_4_3 tw_1_8 tw_4_4 (by decide +kernel) rfl, ⟨s_iload_n (k := 3) (by decide +kernel) rfl rfl, ⟨s_sub (by decide +kernel) rfl, ⟨s_callV (C := RX7) (T := TX7) (N := 22) rfl ct_X7_give (by decide) (by decide) ⟨rfl, by decide +kernel, by decide +kernel, by decide +kernel⟩ tw_4_235 tw_4_237 ts_5_4 tw_1_8 tw_4_238 (by decide +kernel) rfl, ⟨s_iinc (by decide +kernel) rfl, ⟨s_goto (off := (-26)) (by decide +kernel) rfl, ⟨s_aload_n (k := 0) (by decide +kernel) rfl rfl, ⟨s_dup (by decide +kernel) rfl, ⟨s_get (C := RX7) (T := TX7) (N := 22) rfl inT7 (by decide) tw_3_179 (by decide +kernel) rfl, ⟨s_iconst (by decide +kernel) rfl ⟨by decide, by decide⟩, ⟨s_add (by decide +kernel) rfl, ⟨s_puti (C := RX7) (T := TX7) (N := 22) (tyf := tyX7) rfl inT7 tyX7_ok nmX7 (by decide) rfl rfl tw_3_179 (by decide +kernel) rfl, ⟨s_vret rfl (by decide +kernel), trivial⟩⟩⟩⟩⟩⟩⟩⟩⟩⟩⟩⟩⟩⟩⟩⟩⟩⟩⟩⟩⟩⟩⟩⟩⟩⟩⟩⟩⟩⟩⟩⟩⟩⟩⟩⟩⟩⟩⟩⟩⟩⟩⟩⟩⟩⟩⟩⟩
theorem ct_X7_giveLetters : Ctr yX7_giveLetters cX7_giveLetters 6 none 2 45 sp_X7_giveLetters := by
  refine ctr_of (by decide +kernel) ao_X7_giveLetters rfl ?_
  rintro av M Ret ⟨g, c, gi, rfl, hp, hR⟩ hok hM
  exact ⟨Nat.le_of_ble_eq_true rfl, fun Z hZ => b_X7_giveLetters g c (hok _ (List.mem_of_getElem? (i := 1) rfl)) gi (hok _ (List.mem_of_getElem? (i := 2) rfl)) M Ret hp hR hM Z hZ⟩
