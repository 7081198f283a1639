/-! Writer: words -/
def EW (a e : Int) (M N : Mem) : Prop := N 10 7 = a ∧ N 10 8 = e ∧ (∀ f, ¬ f = 7 → ¬ f = 8 → ¬ f = 9 → N 10 f = M 10 f) ∧ ∀ k, ¬ k = 10 → ¬ k = 14 → N k = M k
theorem EW.bx {a e : Int} {M N : Mem} (h : EW a e M N) : bX N 1 = bX M 1 := bX_same 1 (fun j h1 h2 => h.2.2.2 j (by omega) (by omega))
theorem EW.put {a e : Int} {M N : Mem} (h : EW a e M N) (z : Int) : EW a e M (mup N 10 9 z) := by
  refine ⟨by simp [mup_at]; exact h.1, by simp [mup_at]; exact h.2.1, fun f a1 a2 a3 => by simp [mup_at, a3]; exact h.2.2.1 f a1 a2 a3, fun k a1 a2 => ?_⟩
  rw [← h.2.2.2 k a1 a2]
  funext j; simp [mup_at, a1]
theorem EW.st {a e : Int} {M N : Mem} (h : EW a e M N) (j : Nat) (z : Int) : EW a e M (mup N 14 j z) := by
  refine ⟨by simp [mup_at]; exact h.1, by simp [mup_at]; exact h.2.1, fun f a1 a2 a3 => by simp [mup_at]; exact h.2.2.1 f a1 a2 a3, fun k a1 a2 => ?_⟩
  rw [← h.2.2.2 k a1 a2]
  funext j; simp [mup_at, a2]
def sp_X5_enterWord : SP := fun av M Ret => ∃ i : Int, av = [mr 10, mi i] ∧ (vOk (bX M 1) ∧ 0 ≤ i ∧ i < M 1 5 ∧ isLt (vS (bX M 1) i)) ∧ (∀ M2 : Mem, (EW i (we (M 1 5) (SX M) i) M M2 ∧ M2 10 9 = b2i (alC (bX M 1) i (we (M 1 5) (SX M) i) = true) ∧ ∀ j, i ≤ j → j < we (M 1 5) (SX M) i → M2 14 j.toNat = smV (bX M 1) (alC (bX M 1) i (we (M 1 5) (SX M) i)) j) → Ret none M2)
theorem k_X5_enterWord {code : List Sem} {Z : KZ} {Ret : KR} {ls : List (Option MV)} {M : Mem} {r : List MV} (hZ : Sim code Z Ret) (ip np : Nat) {i : Int} (hc : code[ip]? = some (I_callV 5 1 sp_X5_enterWord)) (hn : ip + 1 = np) (h3 : catS r ≤ 8)  (hp : vOk (bX M 1) ∧ 0 ≤ i ∧ i < M 1 5 ∧ isLt (vS (bX M 1) i)) (kz : ∀ M2 : Mem, (EW i (we (M 1 5) (SX M) i) M M2 ∧ M2 10 9 = b2i (alC (bX M 1) i (we (M 1 5) (SX M) i) = true) ∧ ∀ j, i ≤ j → j < we (M 1 5) (SX M) i → M2 14 j.toNat = smV (bX M 1) (alC (bX M 1) i (we (M 1 5) (SX M) i)) j) → Z np ls r M2) : Z ip ls (mi i :: mr 10 :: r) M := w_callV1 hZ ip np hc hn rfl rfl h3 ⟨_, rfl, hp, fun M2 h => kz M2 h⟩
def cd_X5_enterWord : List Sem := [I_aload 0, I_iload 1, I_puti 5 7, I_aload 0, I_aload 0, I_get 5 3, I_iload 1, I_callV 0 1 sp_X0_endOfWord, I_puti 5 8, I_aload 0, I_aload 0, I_get 5 8, I_aload 0, I_get 5 7, I_sub, I_const (2), I_clt 19, I_const (1), I_goto 20, I_const (0), I_putz 5 9, I_aload 0, I_get 5 7, I_istore 2, I_iload 2, I_aload 0, I_get 5 8, I_cge 39, I_aload 0, I_get 5 3, I_iload 2, I_callV 0 1 sp_X0_signAt, I_callS 1 sp_X6_isCapital, I_ifne 37, I_aload 0, I_const (0), I_putz 5 9, I_iinc 2 (1), I_goto 24, I_aload 0, I_get 5 7, I_istore 2, I_iload 2, I_aload 0, I_get 5 8, I_cge 67, I_aload 0, I_get 5 3, I_iload 2, I_callV 0 1 sp_X0_signAt, I_istore 3, I_aload 0, I_get 5 10, I_iload 2, I_aload 0, I_get 5 9, I_ifne 60, I_iload 3, I_callS 1 sp_X6_isSmall, I_ifeq 63, I_iload 3, I_callS 1 sp_X6_letterOf, I_goto 64, I_const (0), I_iast, I_iinc 2 (1), I_goto 42, I_vret]
def pc_X5_enterWord : List Nat := [0, 1, 2, 5, 6, 7, 10, 11, 14, 17, 18, 19, 22, 23, 26, 27, 28, 31, 32, 35, 36, 39, 40, 43, 44, 45, 46, 49, 52, 53, 56, 57, 60, 63, 66, 67, 68, 71, 74, 77, 78, 81, 82, 83, 84, 87, 90, 91, 94, 95, 98, 99, 100, 103, 104, 105, 108, 111, 112, 115, 118, 119, 122, 125, 126, 127, 130, 133]
set_option maxRecDepth 100000 in
set_option maxHeartbeats 4000000 in
theorem b_X5_enterWord (i : Int) (i_i : InR i) (M : Mem) (Ret : KR) (hp : vOk (bX M 1) ∧ 0 ≤ i ∧ i < M 1 5 ∧ isLt (vS (bX M 1) i)) (hR : ∀ M2 : Mem, (EW i (we (M 1 5) (SX M) i) M M2 ∧ M2 10 9 = b2i (alC (bX M 1) i (we (M 1 5) (SX M) i) = true) ∧ ∀ j, i ≤ j → j < we (M 1 5) (SX M) i → M2 14 j.toNat = smV (bX M 1) (alC (bX M 1) i (we (M 1 5) (SX M) i)) j) → Ret none M2) (hM : MOk M) (Z : KZ) (hZ : Sim cd_X5_enterWord Z Ret) : Z 0 [some (mr 10), some (mi i), none, none] [] M := by
  obtain ⟨hv, hi0, hi1, hl⟩ := hp
  have hb := hv.bx
  have hbb := hb
  obtain ⟨b1, b2, b3, b4⟩ := hbb
  have hwe := we_gt hv (i := i) hi1 hl
  have hws := we_spec (n := M 1 5) (S := SX M) (i := i) (Int.le_of_lt hi1) (SX_n M)
  obtain ⟨w1, w2, w3, w4⟩ := hws
  replace hwe : i < we (M 1 5) (SX M) i ∧ we (M 1 5) (SX M) i ≤ M 1 5 := hwe
  have hSV : ∀ j, SX M j = vS (bX M 1) j := fun _ => rfl
  generalize hE : we (M 1 5) (SX M) i = e at *
  have loop2 : ∀ (d : Nat) (j : Int) (N : Mem), d = (e - j).toNat → i ≤ j → j ≤ e → EW i e M N → N 10 9 = b2i (alC (bX M 1) i e = true) → (∀ x, i ≤ x → x < j → N 14 x.toNat = smV (bX M 1) (alC (bX M 1) i e) x) → Z 42 [some (mr 10), some (mi i), some (mi j), none] [] N := by
    intro d
    induction d using Nat.strongRecOn with
    | ind d ih =>
      intro j N hd h0 h1 hW hg hx
      have hbN := hW.bx
      have hBN : Bx N := (hbN ▸ hv : vOk (bX N 1)).bx
      have hsN : SX N j = vS (bX M 1) j := by show vS (bX N 1) j = _; rw [hbN]
      have st : j < e → ∀ z : Int, z = smV (bX M 1) (alC (bX M 1) i e) j → Z 64 [some (mr 10), some (mi i), some (mi j), some (mi (vS (bX M 1) j))] [mi z, mi j, mr 14] N := by
        intro hje z hz
        refine w_iast hZ 64 65 rfl rfl rfl (by omega) (by omega) ?_
        refine w_in4_2 hZ 65 66 rfl rfl rfl (by unfold InR; omega) ?_
        refine w_goto hZ 66 42 rfl ?_
        refine w_fg4_3 hZ ?_
        refine ih ((e - (j + 1)).toNat) (by omega) (j + 1) _ rfl (by omega) (by omega) (hW.st _ _) (by simp [mup_at]; exact hg) (fun x x0 x1 => ?_)
        by_cases q : x = j
        · subst q; simp [mup_at, hz]
        · have : ¬ x.toNat = j.toNat := by omega
          simp [mup_at, this]; exact hx x x0 (by omega)
      refine w_iload hZ 42 43 rfl rfl rfl ?_
      refine w_aload hZ 43 44 rfl rfl rfl ?_
      refine w_getiv hZ 44 45 rfl rfl rfl rfl rfl (v := e) hW.2.1 ?_
      refine w_cge hZ 45 46 rfl rfl (fun c45 => ?_) (fun c45 => ?_)
      · refine w_vret hZ 67 rfl ?_
        exact hR _ ⟨hW, hg, fun x x0 x1 => hx x x0 (by omega)⟩
      · refine w_aload hZ 46 47 rfl rfl rfl ?_
        refine w_getr hZ 47 48 rfl rfl rfl rfl rfl ?_
        refine w_iload hZ 48 49 rfl rfl rfl ?_
        refine k_X0_signAt hZ 49 50 rfl rfl (Nat.le_of_ble_eq_true rfl) hBN ?_
        rw [hsN]
        have hlj := w3 j h0 (by omega)
        rw [hSV j] at hlj
        refine w_st4_3 hZ 50 51 rfl rfl rfl ?_
        refine w_aload hZ 51 52 rfl rfl rfl ?_
        refine w_getr hZ 52 53 rfl rfl rfl rfl rfl ?_
        refine w_iload hZ 53 54 rfl rfl rfl ?_
        refine w_aload hZ 54 55 rfl rfl rfl ?_
        refine w_getzv hZ 55 56 rfl rfl rfl rfl rfl (v := b2i (alC (bX M 1) i e = true)) hg ?_
        refine w_ifne hZ 56 57 rfl rfl (fun c56 => ?_) (fun c56 => ?_)
        · refine w_iload hZ 60 61 rfl rfl rfl ?_
          refine k_X6_letterOf hZ 61 62 rfl rfl (Nat.le_of_ble_eq_true rfl) (by unfold InR; simp only [isLt, isSm, isCp] at hlj; omega) ?_
          refine w_goto hZ 62 64 rfl ?_
          first
            | exact st (by omega) _ (by unfold smV; rw [if_pos (Or.inl (b2i_e.mp c56))])
            | exact st (by omega) _ (by unfold smV; rw [if_pos (Or.inr (b2i_e.mp c59))])
            | (refine st (by omega) _ ?_; unfold smV; rw [if_neg (fun q => q.elim (b2i_z.mp c56) (b2i_z.mp c59))])
        · refine w_iload hZ 57 58 rfl rfl rfl ?_
          refine k_X6_isSmall hZ 58 59 rfl rfl (Nat.le_of_ble_eq_true rfl)  ?_
          refine w_ifeq hZ 59 60 rfl rfl (fun c59 => ?_) (fun c59 => ?_)
          · refine w_const hZ 63 64 rfl rfl  ?_
            first
              | exact st (by omega) _ (by unfold smV; rw [if_pos (Or.inl (b2i_e.mp c56))])
              | exact st (by omega) _ (by unfold smV; rw [if_pos (Or.inr (b2i_e.mp c59))])
              | (refine st (by omega) _ ?_; unfold smV; rw [if_neg (fun q => q.elim (b2i_z.mp c56) (b2i_z.mp c59))])
          · refine w_iload hZ 60 61 rfl rfl rfl ?_
            refine k_X6_letterOf hZ 61 62 rfl rfl (Nat.le_of_ble_eq_true rfl) (by unfold InR; simp only [isLt, isSm, isCp] at hlj; omega) ?_
            refine w_goto hZ 62 64 rfl ?_
            first
              | exact st (by omega) _ (by unfold smV; rw [if_pos (Or.inl (b2i_e.mp c56))])
              | exact st (by omega) _ (by unfold smV; rw [if_pos (Or.inr (b2i_e.mp c59))])
              | (refine st (by omega) _ ?_; unfold smV; rw [if_neg (fun q => q.elim (b2i_z.mp c56) (b2i_z.mp c59))])
  have loop1 : ∀ (d : Nat) (j : Int) (N : Mem), d = (e - j).toNat → i ≤ j → j ≤ e → EW i e M N → ((N 10 9 = 1 ∧ 2 ≤ e - i ∧ ∀ x, i ≤ x → x < j → isCp (vS (bX M 1) x)) ∨ (N 10 9 = 0 ∧ ¬ (2 ≤ e - i ∧ ∀ x, i ≤ x → x < j → isCp (vS (bX M 1) x)))) → Z 24 [some (mr 10), some (mi i), some (mi j), none] [] N := by
    intro d
    induction d using Nat.strongRecOn with
    | ind d ih =>
      intro j N hd h0 h1 hW hg
      have hbN := hW.bx
      have hBN : Bx N := (hbN ▸ hv : vOk (bX N 1)).bx
      have hsN : SX N j = vS (bX M 1) j := by show vS (bX N 1) j = _; rw [hbN]
      have st : j < e → ∀ N2 : Mem, EW i e M N2 → ((N2 10 9 = N 10 9 ∧ isCp (vS (bX M 1) j)) ∨ (N2 10 9 = 0 ∧ ¬ isCp (vS (bX M 1) j))) → Z 37 [some (mr 10), some (mi i), some (mi j), none] [] N2 := by
        intro hje N2 hW2 hc
        refine w_in4_2 hZ 37 38 rfl rfl rfl (by clear hg hc; unfold InR; omega) ?_
        refine w_goto hZ 38 24 rfl ?_
        refine ih ((e - (j + 1)).toNat) (by clear hg hc; omega) (j + 1) N2 rfl (by clear hg hc; omega) (by clear hg hc; omega) hW2 ?_
        rcases hc with ⟨c1, c2⟩ | ⟨c1, c2⟩
        · rcases hg with ⟨g1, g2, g3⟩ | ⟨g1, g2⟩
          · refine Or.inl ⟨c1.trans g1, g2, fun x x0 x1 => ?_⟩
            by_cases q : x = j
            · rw [q]; exact c2
            · exact g3 x x0 (by omega)
          · exact Or.inr ⟨c1.trans g1, fun z => g2 ⟨z.1, fun x x0 x1 => z.2 x x0 (by omega)⟩⟩
        · exact Or.inr ⟨c1, fun z => c2 (z.2 j h0 (by omega))⟩
      refine w_iload hZ 24 25 rfl rfl rfl ?_
      refine w_aload hZ 25 26 rfl rfl rfl ?_
      refine w_getiv hZ 26 27 rfl rfl rfl rfl rfl (v := e) hW.2.1 ?_
      refine w_cge hZ 27 28 rfl rfl (fun c27 => ?_) (fun c27 => ?_)
      · refine w_aload hZ 39 40 rfl rfl rfl ?_
        refine w_getiv hZ 40 41 rfl rfl rfl rfl rfl (v := i) hW.1 ?_
        refine w_st4_2 hZ 41 42 rfl rfl rfl ?_
        refine loop2 _ i N rfl (Int.le_refl _) (Int.le_of_lt hwe.1) hW ?_ (fun x x0 x1 => by omega)
        rcases hg with ⟨g1, g2, g3⟩ | ⟨g1, g2⟩
        · rw [g1]; exact (b2i_t ((alC_iff _ _ _).mpr ⟨g2, fun x x0 x1 => g3 x x0 (by omega)⟩)).symm
        · rw [g1]; exact (b2i_f (fun z => g2 ⟨((alC_iff _ _ _).mp z).1, fun x x0 x1 => ((alC_iff _ _ _).mp z).2 x x0 (by omega)⟩)).symm
      · refine w_aload hZ 28 29 rfl rfl rfl ?_
        refine w_getr hZ 29 30 rfl rfl rfl rfl rfl ?_
        refine w_iload hZ 30 31 rfl rfl rfl ?_
        refine k_X0_signAt hZ 31 32 rfl rfl (Nat.le_of_ble_eq_true rfl) hBN ?_
        rw [hsN]
        refine k_X6_isCapital hZ 32 33 rfl rfl (Nat.le_of_ble_eq_true rfl)  ?_
        refine w_ifne hZ 33 34 rfl rfl (fun c33 => ?_) (fun c33 => ?_)
        · first
            | exact st c27 N hW (Or.inl ⟨rfl, b2i_e.mp c33⟩)
            | exact st c27 _ (hW.put 0) (Or.inr ⟨by simp [mup_at], b2i_z.mp c33⟩)
        · refine w_aload hZ 34 35 rfl rfl rfl ?_
          refine w_const hZ 35 36 rfl rfl  ?_
          refine w_putz hZ 36 37 rfl rfl rfl rfl rfl (by omega) ?_
          first
            | exact st c27 N hW (Or.inl ⟨rfl, b2i_e.mp c33⟩)
            | exact st c27 _ (hW.put 0) (Or.inr ⟨by simp [mup_at], b2i_z.mp c33⟩)
  have t21 : ∀ N : Mem, EW i e M N → ((N 10 9 = 1 ∧ 2 ≤ e - i) ∨ (N 10 9 = 0 ∧ ¬ 2 ≤ e - i)) → Z 21 [some (mr 10), some (mi i), none, none] [] N := by
    intro N hW hg
    refine w_aload hZ 21 22 rfl rfl rfl ?_
    refine w_getiv hZ 22 23 rfl rfl rfl rfl rfl (v := i) hW.1 ?_
    refine w_st4_2 hZ 23 24 rfl rfl rfl ?_
    refine loop1 _ i N rfl (Int.le_refl _) (Int.le_of_lt hwe.1) hW ?_
    rcases hg with ⟨g1, g2⟩ | ⟨g1, g2⟩
    · exact Or.inl ⟨g1, g2, fun x x0 x1 => by omega⟩
    · exact Or.inr ⟨g1, fun z => g2 z.1⟩
  have hW0 : EW i e M (mup (mup M 10 7 i) 10 8 e) := by
    refine ⟨by simp [mup_at], by simp [mup_at], fun f a1 a2 a3 => by simp [mup_at, a1, a2], fun k a1 a2 => ?_⟩
    funext j; simp [mup_at, a1]
  refine w_aload hZ 0 1 rfl rfl rfl ?_
  refine w_iload hZ 1 2 rfl rfl rfl ?_
  refine w_puti hZ 2 3 rfl rfl rfl rfl rfl ?_
  refine w_aload hZ 3 4 rfl rfl rfl ?_
  refine w_aload hZ 4 5 rfl rfl rfl ?_
  refine w_getr hZ 5 6 rfl rfl rfl rfl rfl ?_
  refine w_iload hZ 6 7 rfl rfl rfl ?_
  refine k_X0_endOfWord hZ 7 8 rfl rfl (Nat.le_of_ble_eq_true rfl) ⟨hb, hi0, Int.le_of_lt hi1⟩ ?_
  show Z 8 _ [mi (we (M 1 5) (SX M) i), mr 10] _
  rw [hE]
  refine w_puti hZ 8 9 rfl rfl rfl rfl rfl ?_
  refine w_aload hZ 9 10 rfl rfl rfl ?_
  refine w_aload hZ 10 11 rfl rfl rfl ?_
  refine w_getiv hZ 11 12 rfl rfl rfl rfl rfl (v := e) rfl ?_
  refine w_aload hZ 12 13 rfl rfl rfl ?_
  refine w_getiv hZ 13 14 rfl rfl rfl rfl rfl (v := i) rfl ?_
  refine w_sub hZ 14 15 rfl rfl (by unfold InR; omega) ?_
  refine w_const hZ 15 16 rfl rfl  ?_
  refine w_clt hZ 16 17 rfl rfl (fun c16 => ?_) (fun c16 => ?_)
  · refine w_const hZ 19 20 rfl rfl  ?_
    refine w_putz hZ 20 21 rfl rfl rfl rfl rfl (by omega) ?_
    first
      | exact t21 _ (hW0.put 1) (Or.inl ⟨by simp [mup_at], by omega⟩)
      | exact t21 _ (hW0.put 0) (Or.inr ⟨by simp [mup_at], by omega⟩)
  · refine w_const hZ 17 18 rfl rfl  ?_
    refine w_goto hZ 18 20 rfl ?_
    refine w_putz hZ 20 21 rfl rfl rfl rfl rfl (by omega) ?_
    first
      | exact t21 _ (hW0.put 1) (Or.inl ⟨by simp [mup_at], by omega⟩)
      | exact t21 _ (hW0.put 0) (Or.inr ⟨by simp [mup_at], by omega⟩)
set_option maxRecDepth 100000 in
set_option maxHeartbeats 4000000 in
theorem ao_X5_enterWord : AllOk yX5_enterWord.cls cX5_enterWord 4 3 62 none none pc_X5_enterWord 0 cd_X5_enterWord := ⟨s_aload_n (k := 0) (by decide +kernel) rfl rfl, ⟨s_iload_n (k := 1) (by decide +kernel) rfl rfl, ⟨s_puti (C := RX5) (T := TX5) (N := 12) (tyf := tyX5) rfl inT5 tyX5_ok nmX5 (by decide) rfl rfl tw_1_99 (by decide +kernel) rfl, ⟨s_aload_n (k := 0) (by decide +kernel) rfl rfl, ⟨s_aload_n (k := 0) (by decide +kernel) rfl rfl, ⟨s_get (C := RX5) (T := TX5) (N := 12) rfl inT5 (by decide) tw_1_95 (by decide +kernel) rfl, ⟨s_iload_n (k := 1) (by decide +kernel) rfl rfl, ⟨s_callV (C := RX0) (T := TX0) (N := 8) rfl ct_X0_endOfWord (by decide) (by decide) ⟨rfl, by decide +kernel, by decide +kernel, by decide +kernel⟩ tw_2_148 tw_2_149 tw_2_150 tw_1_2 tw_2_151 (by decide +kernel) rfl, ⟨s_puti (C := RX5) (T := TX5) (N := 12) (tyf := tyX5) rfl inT5 tyX5_ok nmX5 (by decide) rfl rfl tw_1_100 (by decide +kernel) rfl, ⟨s_aload_n (k := 0) (by decide +kernel) rfl rfl, ⟨s_aload_n (k := 0) (by decide +kernel) rfl rfl, ⟨s_get (C := RX5) (T := TX5) (N := 12) rfl inT5 (by decide) tw_1_100 (by decide +kernel) rfl, ⟨s_aload_n (k := 0) (by decide +kernel) rfl rfl, ⟨s_get (C := RX5) (T := TX5) (N := 12) rfl inT5 (by decide) tw_1_99 (by decide +kernel) rfl, ⟨s_sub (by decide +kernel) rfl, ⟨s_iconst (by decide +kernel) rfl ⟨by decide, by decide⟩, ⟨s_clt (off := (7)) (by decide +kernel) rfl rfl, ⟨s_iconst (by decide +kernel) rfl ⟨by decide, by decide⟩, ⟨s_goto (off := (4)) (by decide +kernel) rfl, ⟨s_iconst (by decide +kernel) rfl ⟨by decide, by decide⟩, ⟨s_putz (C := RX5) (T := TX5) (N := 12) (tyf := tyX5) rfl inT5 tyX5_ok nmX5 (by decide) rfl rfl tw_1_101 (by decide +kernel) rfl, ⟨s_aload_n (k := 0) (by decide +kernel) rfl rfl, ⟨s_get (C := RX5) (T := TX5) (N := 12) rfl inT5 (by decide) tw_1_99 (by decide +kernel) rfl, ⟨s_istore_n (k := 2) (by decide +kernel) rfl rfl, ⟨s_iload_n (k := 2) (by decide +kernel) rfl rfl, ⟨s_aload_n (k := 0) (by decide +kernel) rfl rfl, ⟨s_get (C := RX5) (T := TX5) (N := 12) rfl inT5 (by decide) tw_1_100 (by decide +kernel) rfl, ⟨s_cge (off := (28)) (by decide +kernel) rfl rfl, ⟨s_aload_n (k := 0) (by decide +kernel) rfl rfl, ⟨s_get (C := RX5) (T := TX5) (N := 12) rfl inT5 (by decide) tw_1_95 (by decide +kernel) rfl, ⟨s_iload_n (k := 2) (by decide +kernel) rfl rfl, ⟨s_callV (C := RX0) (T := TX0) (N := 8) rfl ct_X0_signAt (by decide) (by decide) ⟨rfl, by decide +kernel, by decide +kernel, by decide +kernel⟩ tw_2_142 tw_2_130 tw_2_131 tw_1_2 tw_2_132 (by decide +kernel) rfl, ⟨s_callN ct_X6_isCapital (by decide) (by decide) ⟨by decide +kernel, by decide +kernel, by decide +kernel⟩ ni_5 tw_2_93 tw_1_1 tw_2_94 (by decide +kernel) rfl, ⟨s_ifne (off := (8)) (by decide +kernel) rfl rfl, ⟨s_aload_n (k := 0) (by decide +kernel) rfl rfl, ⟨s_iconst (by decide +kernel) rfl ⟨by decide, by decide⟩, ⟨s_putz (C := RX5) (T := TX5) (N := 12) (tyf := tyX5) rfl inT5 tyX5_ok nmX5 (by decide) rfl rfl tw_1_101 (by decide +kernel) rfl, ⟨s_iinc (by decide +kernel) rfl, ⟨s_goto (off := (-30)) (by decide +kernel) rfl, ⟨s_aload_n (k := 0) (by decide +kernel) rfl rfl, ⟨s_get (C := RX5) (T := TX5) (N := 12) rfl inT5 (by decide) tw_1_99 (by decide +kernel) rfl, ⟨s_istore_n (k := 2) (by decide +kernel) rfl rfl, ⟨s_iload_n (k := 2) (by decide +kernel) rfl rfl, ⟨s_aload_n (k := 0) (by decide +kernel) rfl rfl, ⟨s_get (C := RX5) (T := TX5) (N := 12) rfl inT5 (by decide) tw_1_100 (by decide +kernel) rfl, ⟨s_cge (off := (46)) (by decide +kernel) rfl rfl, ⟨s_aload_n (k := 0) (by decide +kernel) rfl rfl, ⟨s_get (C := RX5) (T := TX5) (N := 12) rfl inT5 (by decide) tw_1_95 (by decide +kernel) rfl, ⟨s_iload_n (k := 2) (by decide +kernel) rfl rfl, ⟨s_callV (C := RX0) (T := TX0) (N := 8) rfl ct_X0_signAt (by decide) (by decide) ⟨rfl, by decide +kernel, by decide +kernel, by decide +kernel⟩ tw_2_142 tw_2_130 tw_2_131 tw_1_2 tw_2_132 (by decide +kernel) rfl, ⟨s_istore_n (k := 3) (by decide +kernel) rfl rfl, ⟨s_aload_n (k := 0) (by decide +kernel) rfl rfl, ⟨s_get (C := RX5) (T := TX5) (N := 12) rfl inT5 (by decide) tw_1_102 (by decide +kernel) rfl, ⟨s_iload_n (k := 2) (by decide +kernel) rfl rfl, ⟨s_aload_n (k := 0) (by decide +kernel) rfl rfl, ⟨s_get (C := RX5) (T := TX5) (N := 12) rfl inT5 (by decide) tw_1_101 (by decide +kernel) rfl, ⟨s_ifne (off := (10)) (by decide +kernel) rfl rfl, ⟨s_iload_n (k := 3) (by decide +kernel) rfl rfl, ⟨s_callN ct_X6_isSmall (by decide) (by decide) ⟨by decide +kernel, by decide +kernel, by decide +kernel⟩ ni_6 tw_2_90 tw_1_1 tw_2_91 (by decide +kernel) rfl, ⟨s_ifeq (off := (10)) (by decide +kernel) rfl rfl, ⟨s_iload_n (k := 3) (by decide +kernel) rfl rfl, ⟨s_callN ct_X6_letterOf (by decide) (by decide) ⟨by decide +kernel, by decide +kernel, by decide +kernel⟩ ni_7 tw_2_155 tw_1_1 tw_2_156 (by decide +kernel) rfl, ⟨s_goto (off := (4)) (by decide +kernel) rfl, ⟨s_iconst (by decide +kernel) rfl ⟨by decide, by decide⟩, ⟨s_iast (by decide +kernel) rfl, ⟨s_iinc (by decide +kernel) rfl, ⟨s_goto (off := (-48)) (by decide +kernel) rfl, ⟨s_vret rfl (by decide +kernel), trivial⟩⟩⟩⟩⟩⟩⟩⟩⟩⟩⟩⟩⟩⟩⟩⟩⟩⟩⟩⟩⟩⟩⟩⟩⟩⟩⟩⟩⟩⟩⟩⟩⟩⟩⟩⟩⟩⟩⟩⟩⟩⟩⟩⟩⟩⟩⟩⟩⟩⟩⟩⟩⟩⟩⟩⟩⟩⟩⟩⟩⟩⟩⟩⟩⟩⟩⟩⟩
theorem ct_X5_enterWord : Ctr yX5_enterWord cX5_enterWord 4 none 3 62 sp_X5_enterWord := by
  refine ctr_of (by decide +kernel) ao_X5_enterWord rfl ?_
  rintro av M Ret ⟨i, rfl, hp, hR⟩ hok hM
  exact ⟨Nat.le_of_ble_eq_true rfl, fun Z hZ => b_X5_enterWord  i (hok _ (List.mem_of_getElem? (i := 1) rfl)) M Ret hp hR hM Z hZ⟩
