/-! THE REFERENCE: READ BACK -/
def QS (r : RST) (M N : Mem) : Prop := (r.1 = 0 → ∃ ft, feR r.2.2.2.1 ft ∧ ft ≤ 300 ∧ OG r.2.2.2.2 M N r.2.2.1 ft (M 73 19)) ∧ (¬ r.1 = 0 → N 73 19 = r.2.1) ∧ FR M N
theorem stp_60fe {V : BV} {F : Int → Int} {m i fe : Int} (h : F i = 60) : (stp V F m i fe).2.2.2.1 = fe := by
  unfold stp
  rw [if_pos h]
  split
  · split <;> rfl
  · split <;> rfl
theorem stp2_62fe {V : BV} {F : Int → Int} {m i fe : Int} (h : F i = 62) : (stp2 V F m i fe).2.2.2.1 = fe := by
  unfold stp2
  split
  · rfl
  · unfold stp
    rw [if_neg (by omega), if_neg (by omega), if_pos h]
    split <;> rfl
theorem stp_62i {V : BV} {F : Int → Int} {m i fe : Int} (h : F i = 62) (h0 : (stp V F m i fe).1 = 0) : bhF F fe i ∧ (isFC (F (i + 1)) ∨ isRl V (F (i + 1))) := by
  refine Decidable.byContradiction fun z => ?_
  rw [stp_62n h z] at h0
  exact absurd h0 (show ¬ (2 : Int) = 0 by decide)
theorem stp_lt {V : BV} {F : Int → Int} {m i fe : Int} (h : isLC (F i) ∨ isRl V (F i)) : stp V F m i fe = (0, -1, i + 1, fe, ltrs V (F i) 97) := by
  have h59 : F i ≤ 59 := by
    rcases h with h | h
    · have := h.2; omega
    · exact h.1.2
  have hn : ¬ noCl V (F i) := by
    rintro (z | z)
    · omega
    · rcases h with h | h
      · have := h.2; have := z.1.1; omega
      · exact h.2 z.2
  rw [stp_ok (by omega) (by omega) (by omega) hn, if_pos]
  rcases h with h | h
  · exact Or.inl h
  · exact Or.inr h.1
theorem rd_fault2 {V : BV} {F : Int → Int} {m i fe : Int} (h : i < m) (hk : ¬ (stp2 V F m i fe).1 = 0) : rd V F m i fe = ((stp2 V F m i fe).1, (stp2 V F m i fe).2.1, []) := by
  have e : stp2 V F m i fe = stp V F m i fe := by
    unfold stp2
    rw [if_neg]
    intro z
    apply hk
    unfold stp2
    rw [if_pos z]
  rw [e] at hk ⊢
  exact rd_fault h hk
theorem in_m {F : Int → Int} {m i : Int} (hF : ∀ j, m ≤ j → F j = -1) (h : 0 ≤ F i) : i < m := by
  rcases Int.lt_or_le i m with q | q
  · exact q
  · have := hF i q; omega
theorem rd_step2 {V : BV} {F : Int → Int} {m i fe : Int} (hF : ∀ j, m ≤ j → F j = -1) (h : i < m) (hk : (stp2 V F m i fe).1 = 0) : rd V F m i fe = ((rd V F m (stp2 V F m i fe).2.2.1 (stp2 V F m i fe).2.2.2.1).1, (rd V F m (stp2 V F m i fe).2.2.1 (stp2 V F m i fe).2.2.2.1).2.1, (stp2 V F m i fe).2.2.2.2 ++ (rd V F m (stp2 V F m i fe).2.2.1 (stp2 V F m i fe).2.2.2.1).2.2) := by
  by_cases z : F i = 62 ∧ (stp V F m i fe).1 = 0
  · have hb := stp_62i z.1 z.2
    have e1 := stp_62y (m := m) z.1 hb
    have hc : isLC (F (i + 1)) ∨ isRl V (F (i + 1)) := hb.2.elim (fun q => Or.inl ⟨q.1, by have := q.2; omega⟩) Or.inr
    have h1 : i + 1 < m := in_m hF (by
      rcases hc with q | q
      · have := q.1; omega
      · have := q.1.1; omega)
    have e2 := stp_lt (m := m) (fe := fe) hc
    have e : stp2 V F m i fe = (0, -1, i + 2, fe, ltrs V (F (i + 1)) 97) := by unfold stp2; rw [if_pos z]
    rw [e, rd_step hF h z.2, e1, List.nil_append, rd_step hF h1 (by rw [e2]), e2, show i + 1 + 1 = i + 2 by omega]
  · have e : stp2 V F m i fe = stp V F m i fe := by unfold stp2; rw [if_neg z]
    rw [e] at hk ⊢
    exact rd_step hF h hk
theorem stp2_next {V : BV} {F : Int → Int} {m i fe : Int} (hF : ∀ j, m ≤ j → F j = -1) (h : i < m) (hk : (stp2 V F m i fe).1 = 0) : i < (stp2 V F m i fe).2.2.1 ∧ (stp2 V F m i fe).2.2.1 ≤ m ∧ ((stp2 V F m i fe).2.2.2.2.length : Int) ≤ 4 * ((stp2 V F m i fe).2.2.1 - i) := by
  by_cases z : F i = 62 ∧ (stp V F m i fe).1 = 0
  · have hb := stp_62i z.1 z.2
    have h1 : i + 1 < m := in_m hF (by
      rcases hb.2 with q | q
      · have := q.1; omega
      · have := q.1.1; omega)
    have e : stp2 V F m i fe = (0, -1, i + 2, fe, ltrs V (F (i + 1)) 97) := by unfold stp2; rw [if_pos z]
    have hl := ltrs_len V (F (i + 1)) 97
    rw [e]
    exact ⟨by show i < i + 2; omega, by show i + 2 ≤ m; omega, by show ((ltrs V (F (i + 1)) 97).length : Int) ≤ 4 * (i + 2 - i); omega⟩
  · have e : stp2 V F m i fe = stp V F m i fe := by unfold stp2; rw [if_neg z]
    rw [e] at hk ⊢
    have q := stp_next hF h hk
    exact ⟨q.1, q.2.1, q.2.2.1⟩
def sp_X7_readOne : SP := fun av M Ret => ∃ fe : Int, av = [mr 73] ∧ (RP M ∧ isCl (FY M (M 73 20)) ∧ feR fe (M 73 21) ∧ M 73 21 ≤ 300) ∧ (∀ M2 : Mem, (QS (stp2 (YV M) (FY M) (M 73 16) (M 73 20) fe) M M2) → Ret (some (mi ((stp2 (YV M) (FY M) (M 73 16) (M 73 20) fe).1))) M2)
theorem k_X7_readOne {code : List Sem} {Z : KZ} {Ret : KR} {ls : List (Option MV)} {M : Mem} {r : List MV} (hZ : Sim code Z Ret) (ip np : Nat) {fe : Int}  (hc : code[ip]? = some (I_callV 7 0 sp_X7_readOne)) (hn : ip + 1 = np) (h3 : catS r ≤ 8)  (hp : RP M ∧ isCl (FY M (M 73 20)) ∧ feR fe (M 73 21) ∧ M 73 21 ≤ 300) (kz : ∀ M2 : Mem, (QS (stp2 (YV M) (FY M) (M 73 16) (M 73 20) fe) M M2) → Z np ls (mi ((stp2 (YV M) (FY M) (M 73 16) (M 73 20) fe).1) :: r) M2) : Z ip ls (mr 73 :: r) M := w_callV0 hZ ip np hc hn rfl rfl h3 ⟨_, rfl, hp, fun M2 h => kz M2 h⟩
def cd_X7_readOne : List Sem := [I_aload 0, I_aload 0, I_get 7 20, I_callV 7 1 sp_X7_feltAt, I_istore 1, I_iload 1, I_callS 1 sp_X7_isLetterCell, I_ifne 12, I_aload 0, I_iload 1, I_callV 7 1 sp_X7_isRuleCell, I_ifeq 18, I_aload 0, I_iload 1, I_const (0), I_callV 7 2 sp_X7_giveLetters, I_const (0), I_iret, I_iload 1, I_const (60), I_cne 24, I_aload 0, I_callV 7 0 sp_X7_readGreat, I_iret, I_iload 1, I_const (61), I_cne 30, I_aload 0, I_callV 7 0 sp_X7_readFigures, I_iret, I_iload 1, I_const (62), I_cne 36, I_aload 0, I_callV 7 0 sp_X7_readLetters, I_iret, I_iload 1, I_ifeq 49, I_iload 1, I_i2l, I_lconst (27), I_lconst (29), I_callS 3 sp_X7_in, I_ifne 49, I_aload 0, I_aload 0, I_get 7 20, I_callV 7 1 sp_X7_faults, I_iret, I_aload 0, I_iload 1, I_ifne 54, I_const (32), I_goto 65, I_iload 1, I_const (27), I_cne 59, I_const (46), I_goto 65, I_iload 1, I_const (28), I_cne 64, I_const (44), I_goto 65, I_const (45), I_callV 7 1 sp_X7_give, I_aload 0, I_dup, I_get 7 20, I_const (1), I_add, I_puti 7 20, I_const (0), I_iret]
def pc_X7_readOne : List Nat := [0, 1, 2, 5, 8, 9, 10, 13, 16, 17, 18, 21, 24, 25, 26, 27, 30, 31, 32, 33, 35, 38, 39, 42, 43, 44, 46, 49, 50, 53, 54, 55, 57, 60, 61, 64, 65, 66, 69, 70, 71, 74, 77, 80, 83, 84, 85, 88, 91, 92, 93, 94, 97, 99, 102, 103, 105, 108, 110, 113, 114, 116, 119, 121, 124, 126, 129, 130, 131, 134, 135, 136, 139, 140]
set_option maxRecDepth 100000 in
set_option maxHeartbeats 4000000 in
theorem b_X7_readOne (fe : Int)  (M : Mem) (Ret : KR) (hp : RP M ∧ isCl (FY M (M 73 20)) ∧ feR fe (M 73 21) ∧ M 73 21 ≤ 300) (hR : ∀ M2 : Mem, (QS (stp2 (YV M) (FY M) (M 73 16) (M 73 20) fe) M M2) → Ret (some (mi ((stp2 (YV M) (FY M) (M 73 16) (M 73 20) fe).1))) M2) (hM : MOk M) (Z : KZ) (hZ : Sim cd_X7_readOne Z Ret) : Z 0 [some (mr 73), none] [] M := by
  obtain ⟨hRP, hcl, hfe, hft⟩ := hp
  have hRP' := hRP
  obtain ⟨hvo, m0, m1, i0, i1, s0, s1⟩ := hRP'
  have ok : ∀ r : RST, stp2 (YV M) (FY M) (M 73 16) (M 73 20) fe = r → r.1 = 0 → r.2.2.2.1 = fe → ∀ N : Mem, OG r.2.2.2.2 M N r.2.2.1 (M 73 21) (M 73 19) → Ret (some (mi 0)) N := by
    intro r hr h0 h1 N hN
    have q := hR N
    rw [hr, h0] at q
    exact q ⟨fun _ => ⟨M 73 21, by rw [h1]; exact hfe, hft, hN⟩, fun z => absurd h0 z, hN.fr⟩
  have ps : ∀ (r : RST) (ft : Int) (N : Mem), stp2 (YV M) (FY M) (M 73 16) (M 73 20) fe = r → (r.1 = 0 → feR r.2.2.2.1 ft ∧ ft ≤ 300) → PS r M N ft → Ret (some (mi r.1)) N := by
    intro r ft N hr h1 h2
    have q := hR N
    rw [hr] at q
    exact q ⟨fun z => ⟨ft, (h1 z).1, (h1 z).2, h2.1 z⟩, h2.2.1, h2.2.2⟩
  have hFm : ∀ j, M 73 16 ≤ j → FY M j = -1 := fun j hj => sgn_hi hj
  obtain ⟨i, hi⟩ : ∃ i, M 73 20 = i := ⟨_, rfl⟩
  rw [hi] at hcl i0 i1 s1 ok ps
  have hcl0 := hcl.1
  have hcl1 := hcl.2
  refine w_aload hZ 0 1 rfl rfl rfl ?_
  refine w_aload hZ 1 2 rfl rfl rfl ?_
  refine w_getiv hZ 2 3 rfl rfl rfl rfl rfl (v := i) hi ?_
  refine k_X7_feltAt hZ 3 4 rfl rfl (Nat.le_of_ble_eq_true rfl) ⟨m0, m1⟩ ?_
  refine w_st2_1 hZ 4 5 rfl rfl rfl ?_
  refine w_iload hZ 5 6 rfl rfl rfl ?_
  refine k_X7_isLetterCell hZ 6 7 rfl rfl (Nat.le_of_ble_eq_true rfl)  ?_
  refine w_ifne hZ 7 8 rfl rfl (fun c7 => ?_) (fun c7 => ?_)
  · have hgg : isLC (FY M i) ∨ isRl (YV M) (FY M i) := by
      first
        | exact Or.inl (b2i_e.mp c7)
        | exact Or.inr (b2i_e.mp c11)
    replace hgg : Hid (isLC (FY M i) ∨ isRl (YV M) (FY M i)) := hgg
    have h62 : ¬ FY M i = 62 := by
      rcases hgg.u with z | z
      · have := z.2; omega
      · have := z.1.2; omega
    refine w_aload hZ 12 13 rfl rfl rfl ?_
    refine w_iload hZ 13 14 rfl rfl rfl ?_
    refine w_const hZ 14 15 rfl rfl  ?_
    refine k_X7_giveLetters hZ 15 16 rfl rfl (Nat.le_of_ble_eq_true rfl) ⟨hvo, hgg, s0, by omega, by omega, by omega, (b2i_f (p := false = true) (by decide)).symm⟩ (fun M15 p15 => ?_)
    refine w_const hZ 16 17 rfl rfl  ?_
    refine w_iret hZ 17 rfl ?_
    rw [if_neg (by decide), hi] at p15
    exact ok _ (by rw [stp2_n h62, stp_lt hgg.u]) rfl rfl _ p15
  · refine w_aload hZ 8 9 rfl rfl rfl ?_
    refine w_iload hZ 9 10 rfl rfl rfl ?_
    refine k_X7_isRuleCell hZ 10 11 rfl rfl (Nat.le_of_ble_eq_true rfl) hvo ?_
    refine w_ifeq hZ 11 12 rfl rfl (fun c11 => ?_) (fun c11 => ?_)
    · refine w_iload hZ 18 19 rfl rfl rfl ?_
      refine w_const hZ 19 20 rfl rfl  ?_
      refine w_cne hZ 20 21 rfl rfl (fun c20 => ?_) (fun c20 => ?_)
      · refine w_iload hZ 24 25 rfl rfl rfl ?_
        refine w_const hZ 25 26 rfl rfl  ?_
        refine w_cne hZ 26 27 rfl rfl (fun c26 => ?_) (fun c26 => ?_)
        · refine w_iload hZ 30 31 rfl rfl rfl ?_
          refine w_const hZ 31 32 rfl rfl  ?_
          refine w_cne hZ 32 33 rfl rfl (fun c32 => ?_) (fun c32 => ?_)
          · replace c7 := b2i_z.mp c7
            replace c11 := b2i_z.mp c11
            refine w_iload hZ 36 37 rfl rfl rfl ?_
            refine w_ifeq hZ 37 38 rfl rfl (fun c37 => ?_) (fun c37 => ?_)
            · have hmk : FY M i = 0 ∨ FY M i = 27 ∨ FY M i = 28 ∨ FY M i = 29 := by
                first
                  | omega
                  | (have := b2i_e.mp c43; omega)
              have hs2 : stp2 (YV M) (FY M) (M 73 16) i fe = (0, -1, i + 1, fe, [mkS (FY M i)]) := by
                rw [stp2_n c32, stp_ok c20 c26 c32 (by simp only [noCl, isRC]; omega), if_neg (by simp only [isLC, isRC]; omega)]
              replace hs2 : Hid (stp2 (YV M) (FY M) (M 73 16) i fe = (0, -1, i + 1, fe, [mkS (FY M i)])) := hs2
              have hgv : ∀ x : Int, x = mkS (FY M i) → Ret (some (mi 0)) (mup (gvY M x) 73 20 (i + 1)) := by
                intro x hx
                subst hx
                exact ok _ hs2.u rfl rfl _ ((OG_give s0 _).place (i + 1))
              refine w_aload hZ 49 50 rfl rfl rfl ?_
              refine w_iload hZ 50 51 rfl rfl rfl ?_
              refine w_ifne hZ 51 52 rfl rfl (fun c51 => ?_) (fun c51 => ?_)
              · refine w_iload hZ 54 55 rfl rfl rfl ?_
                refine w_const hZ 55 56 rfl rfl  ?_
                refine w_cne hZ 56 57 rfl rfl (fun c56 => ?_) (fun c56 => ?_)
                · refine w_iload hZ 59 60 rfl rfl rfl ?_
                  refine w_const hZ 60 61 rfl rfl  ?_
                  refine w_cne hZ 61 62 rfl rfl (fun c61 => ?_) (fun c61 => ?_)
                  · refine w_const hZ 64 65 rfl rfl  ?_
                    refine k_X7_give hZ 65 66 rfl rfl (Nat.le_of_ble_eq_true rfl) ⟨s0, by omega⟩ (fun M65 p65 => ?_)
                    have hg20 : M65 73 20 = i := by rw [p65, ← hi]; simp [gvY, mup_at]
                    refine w_aload hZ 66 67 rfl rfl rfl ?_
                    refine w_dup hZ 67 68 rfl rfl rfl ?_
                    refine w_getiv hZ 68 69 rfl rfl rfl rfl rfl (v := i) hg20 ?_
                    refine w_const hZ 69 70 rfl rfl  ?_
                    refine w_add hZ 70 71 rfl rfl (by unfold InR; omega) ?_
                    refine w_puti hZ 71 72 rfl rfl rfl rfl rfl ?_
                    refine w_const hZ 72 73 rfl rfl  ?_
                    refine w_iret hZ 73 rfl ?_
                    rw [p65]
                    first
                      | (exfalso; omega)
                      | exact hgv _ (if_pos c56).symm
                      | exact hgv _ (show _ = mkS _ by unfold mkS; rw [if_neg c56, if_pos c61])
                      | exact hgv _ (show _ = mkS _ by unfold mkS; rw [if_neg c56, if_neg c61, if_pos (by omega)])
                      | exact hgv _ (show _ = mkS _ by unfold mkS; rw [c51]; rfl)
                  · refine w_const hZ 62 63 rfl rfl  ?_
                    refine w_goto hZ 63 65 rfl ?_
                    refine k_X7_give hZ 65 66 rfl rfl (Nat.le_of_ble_eq_true rfl) ⟨s0, by omega⟩ (fun M65 p65 => ?_)
                    have hg20 : M65 73 20 = i := by rw [p65, ← hi]; simp [gvY, mup_at]
                    refine w_aload hZ 66 67 rfl rfl rfl ?_
                    refine w_dup hZ 67 68 rfl rfl rfl ?_
                    refine w_getiv hZ 68 69 rfl rfl rfl rfl rfl (v := i) hg20 ?_
                    refine w_const hZ 69 70 rfl rfl  ?_
                    refine w_add hZ 70 71 rfl rfl (by unfold InR; omega) ?_
                    refine w_puti hZ 71 72 rfl rfl rfl rfl rfl ?_
                    refine w_const hZ 72 73 rfl rfl  ?_
                    refine w_iret hZ 73 rfl ?_
                    rw [p65]
                    first
                      | (exfalso; omega)
                      | exact hgv _ (if_pos c56).symm
                      | exact hgv _ (show _ = mkS _ by unfold mkS; rw [if_neg c56, if_pos c61])
                      | exact hgv _ (show _ = mkS _ by unfold mkS; rw [if_neg c56, if_neg c61, if_pos (by omega)])
                      | exact hgv _ (show _ = mkS _ by unfold mkS; rw [c51]; rfl)
                · refine w_const hZ 57 58 rfl rfl  ?_
                  refine w_goto hZ 58 65 rfl ?_
                  refine k_X7_give hZ 65 66 rfl rfl (Nat.le_of_ble_eq_true rfl) ⟨s0, by omega⟩ (fun M65 p65 => ?_)
                  have hg20 : M65 73 20 = i := by rw [p65, ← hi]; simp [gvY, mup_at]
                  refine w_aload hZ 66 67 rfl rfl rfl ?_
                  refine w_dup hZ 67 68 rfl rfl rfl ?_
                  refine w_getiv hZ 68 69 rfl rfl rfl rfl rfl (v := i) hg20 ?_
                  refine w_const hZ 69 70 rfl rfl  ?_
                  refine w_add hZ 70 71 rfl rfl (by unfold InR; omega) ?_
                  refine w_puti hZ 71 72 rfl rfl rfl rfl rfl ?_
                  refine w_const hZ 72 73 rfl rfl  ?_
                  refine w_iret hZ 73 rfl ?_
                  rw [p65]
                  first
                    | (exfalso; omega)
                    | exact hgv _ (if_pos c56).symm
                    | exact hgv _ (show _ = mkS _ by unfold mkS; rw [if_neg c56, if_pos c61])
                    | exact hgv _ (show _ = mkS _ by unfold mkS; rw [if_neg c56, if_neg c61, if_pos (by omega)])
                    | exact hgv _ (show _ = mkS _ by unfold mkS; rw [c51]; rfl)
              · refine w_const hZ 52 53 rfl rfl  ?_
                refine w_goto hZ 53 65 rfl ?_
                refine k_X7_give hZ 65 66 rfl rfl (Nat.le_of_ble_eq_true rfl) ⟨s0, by omega⟩ (fun M65 p65 => ?_)
                have hg20 : M65 73 20 = i := by rw [p65, ← hi]; simp [gvY, mup_at]
                refine w_aload hZ 66 67 rfl rfl rfl ?_
                refine w_dup hZ 67 68 rfl rfl rfl ?_
                refine w_getiv hZ 68 69 rfl rfl rfl rfl rfl (v := i) hg20 ?_
                refine w_const hZ 69 70 rfl rfl  ?_
                refine w_add hZ 70 71 rfl rfl (by unfold InR; omega) ?_
                refine w_puti hZ 71 72 rfl rfl rfl rfl rfl ?_
                refine w_const hZ 72 73 rfl rfl  ?_
                refine w_iret hZ 73 rfl ?_
                rw [p65]
                first
                  | (exfalso; omega)
                  | exact hgv _ (if_pos c56).symm
                  | exact hgv _ (show _ = mkS _ by unfold mkS; rw [if_neg c56, if_pos c61])
                  | exact hgv _ (show _ = mkS _ by unfold mkS; rw [if_neg c56, if_neg c61, if_pos (by omega)])
                  | exact hgv _ (show _ = mkS _ by unfold mkS; rw [c51]; rfl)
            · refine w_iload hZ 38 39 rfl rfl rfl ?_
              refine w_i2l hZ 39 40 rfl rfl  ?_
              refine w_lconst hZ 40 41 rfl rfl  ?_
              refine w_lconst hZ 41 42 rfl rfl  ?_
              refine k_X7_in hZ 42 43 rfl rfl (Nat.le_of_ble_eq_true rfl)  ?_
              refine w_ifne hZ 43 44 rfl rfl (fun c43 => ?_) (fun c43 => ?_)
              · have hmk : FY M i = 0 ∨ FY M i = 27 ∨ FY M i = 28 ∨ FY M i = 29 := by
                  first
                    | omega
                    | (have := b2i_e.mp c43; omega)
                have hs2 : stp2 (YV M) (FY M) (M 73 16) i fe = (0, -1, i + 1, fe, [mkS (FY M i)]) := by
                  rw [stp2_n c32, stp_ok c20 c26 c32 (by simp only [noCl, isRC]; omega), if_neg (by simp only [isLC, isRC]; omega)]
                replace hs2 : Hid (stp2 (YV M) (FY M) (M 73 16) i fe = (0, -1, i + 1, fe, [mkS (FY M i)])) := hs2
                have hgv : ∀ x : Int, x = mkS (FY M i) → Ret (some (mi 0)) (mup (gvY M x) 73 20 (i + 1)) := by
                  intro x hx
                  subst hx
                  exact ok _ hs2.u rfl rfl _ ((OG_give s0 _).place (i + 1))
                refine w_aload hZ 49 50 rfl rfl rfl ?_
                refine w_iload hZ 50 51 rfl rfl rfl ?_
                refine w_ifne hZ 51 52 rfl rfl (fun c51 => ?_) (fun c51 => ?_)
                · refine w_iload hZ 54 55 rfl rfl rfl ?_
                  refine w_const hZ 55 56 rfl rfl  ?_
                  refine w_cne hZ 56 57 rfl rfl (fun c56 => ?_) (fun c56 => ?_)
                  · refine w_iload hZ 59 60 rfl rfl rfl ?_
                    refine w_const hZ 60 61 rfl rfl  ?_
                    refine w_cne hZ 61 62 rfl rfl (fun c61 => ?_) (fun c61 => ?_)
                    · refine w_const hZ 64 65 rfl rfl  ?_
                      refine k_X7_give hZ 65 66 rfl rfl (Nat.le_of_ble_eq_true rfl) ⟨s0, by omega⟩ (fun M65 p65 => ?_)
                      have hg20 : M65 73 20 = i := by rw [p65, ← hi]; simp [gvY, mup_at]
                      refine w_aload hZ 66 67 rfl rfl rfl ?_
                      refine w_dup hZ 67 68 rfl rfl rfl ?_
                      refine w_getiv hZ 68 69 rfl rfl rfl rfl rfl (v := i) hg20 ?_
                      refine w_const hZ 69 70 rfl rfl  ?_
                      refine w_add hZ 70 71 rfl rfl (by unfold InR; omega) ?_
                      refine w_puti hZ 71 72 rfl rfl rfl rfl rfl ?_
                      refine w_const hZ 72 73 rfl rfl  ?_
                      refine w_iret hZ 73 rfl ?_
                      rw [p65]
                      first
                        | (exfalso; omega)
                        | exact hgv _ (if_pos c56).symm
                        | exact hgv _ (show _ = mkS _ by unfold mkS; rw [if_neg c56, if_pos c61])
                        | exact hgv _ (show _ = mkS _ by unfold mkS; rw [if_neg c56, if_neg c61, if_pos (by omega)])
                        | exact hgv _ (show _ = mkS _ by unfold mkS; rw [c51]; rfl)
                    · refine w_const hZ 62 63 rfl rfl  ?_
                      refine w_goto hZ 63 65 rfl ?_
                      refine k_X7_give hZ 65 66 rfl rfl (Nat.le_of_ble_eq_true rfl) ⟨s0, by omega⟩ (fun M65 p65 => ?_)
                      have hg20 : M65 73 20 = i := by rw [p65, ← hi]; simp [gvY, mup_at]
                      refine w_aload hZ 66 67 rfl rfl rfl ?_
                      refine w_dup hZ 67 68 rfl rfl rfl ?_
                      refine w_getiv hZ 68 69 rfl rfl rfl rfl rfl (v := i) hg20 ?_
                      refine w_const hZ 69 70 rfl rfl  ?_
                      refine w_add hZ 70 71 rfl rfl (by unfold InR; omega) ?_
                      refine w_puti hZ 71 72 rfl rfl rfl rfl rfl ?_
                      refine w_const hZ 72 73 rfl rfl  ?_
                      refine w_iret hZ 73 rfl ?_
                      rw [p65]
                      first
                        | (exfalso; omega)
                        | exact hgv _ (if_pos c56).symm
                        | exact hgv _ (show _ = mkS _ by unfold mkS; rw [if_neg c56, if_pos c61])
                        | exact hgv _ (show _ = mkS _ by unfold mkS; rw [if_neg c56, if_neg c61, if_pos (by omega)])
                        | exact hgv _ (show _ = mkS _ by unfold mkS; rw [c51]; rfl)
                  · refine w_const hZ 57 58 rfl rfl  ?_
                    refine w_goto hZ 58 65 rfl ?_
                    refine k_X7_give hZ 65 66 rfl rfl (Nat.le_of_ble_eq_true rfl) ⟨s0, by omega⟩ (fun M65 p65 => ?_)
                    have hg20 : M65 73 20 = i := by rw [p65, ← hi]; simp [gvY, mup_at]
                    refine w_aload hZ 66 67 rfl rfl rfl ?_
                    refine w_dup hZ 67 68 rfl rfl rfl ?_
                    refine w_getiv hZ 68 69 rfl rfl rfl rfl rfl (v := i) hg20 ?_
                    refine w_const hZ 69 70 rfl rfl  ?_
                    refine w_add hZ 70 71 rfl rfl (by unfold InR; omega) ?_
                    refine w_puti hZ 71 72 rfl rfl rfl rfl rfl ?_
                    refine w_const hZ 72 73 rfl rfl  ?_
                    refine w_iret hZ 73 rfl ?_
                    rw [p65]
                    first
                      | (exfalso; omega)
                      | exact hgv _ (if_pos c56).symm
                      | exact hgv _ (show _ = mkS _ by unfold mkS; rw [if_neg c56, if_pos c61])
                      | exact hgv _ (show _ = mkS _ by unfold mkS; rw [if_neg c56, if_neg c61, if_pos (by omega)])
                      | exact hgv _ (show _ = mkS _ by unfold mkS; rw [c51]; rfl)
                · refine w_const hZ 52 53 rfl rfl  ?_
                  refine w_goto hZ 53 65 rfl ?_
                  refine k_X7_give hZ 65 66 rfl rfl (Nat.le_of_ble_eq_true rfl) ⟨s0, by omega⟩ (fun M65 p65 => ?_)
                  have hg20 : M65 73 20 = i := by rw [p65, ← hi]; simp [gvY, mup_at]
                  refine w_aload hZ 66 67 rfl rfl rfl ?_
                  refine w_dup hZ 67 68 rfl rfl rfl ?_
                  refine w_getiv hZ 68 69 rfl rfl rfl rfl rfl (v := i) hg20 ?_
                  refine w_const hZ 69 70 rfl rfl  ?_
                  refine w_add hZ 70 71 rfl rfl (by unfold InR; omega) ?_
                  refine w_puti hZ 71 72 rfl rfl rfl rfl rfl ?_
                  refine w_const hZ 72 73 rfl rfl  ?_
                  refine w_iret hZ 73 rfl ?_
                  rw [p65]
                  first
                    | (exfalso; omega)
                    | exact hgv _ (if_pos c56).symm
                    | exact hgv _ (show _ = mkS _ by unfold mkS; rw [if_neg c56, if_pos c61])
                    | exact hgv _ (show _ = mkS _ by unfold mkS; rw [if_neg c56, if_neg c61, if_pos (by omega)])
                    | exact hgv _ (show _ = mkS _ by unfold mkS; rw [c51]; rfl)
              · refine w_aload hZ 44 45 rfl rfl rfl ?_
                refine w_aload hZ 45 46 rfl rfl rfl ?_
                refine w_getiv hZ 46 47 rfl rfl rfl rfl rfl (v := i) hi ?_
                refine k_X7_faults hZ 47 48 rfl rfl (Nat.le_of_ble_eq_true rfl) ⟨hvo, m0, m1⟩ (fun M47 p47 => ?_)
                refine w_iret hZ 48 rfl ?_
                replace c43 := b2i_z.mp c43
                have hno : noCl (YV M) (FY M i) := by
                  by_cases q : FY M i = 63
                  · exact Or.inl q
                  · have hrc : isRC (FY M i) := by simp only [isLC, isRC] at *; omega
                    exact Or.inr ⟨hrc, Decidable.byContradiction fun z => c11 ⟨hrc, z⟩⟩
                have hfk : fk (YV M) (FY M i) = 1 := by unfold fk; rw [if_pos hno]
                rw [hfk]
                refine ps (1, i, i + 1, fe, []) 0 _ (by rw [stp2_n c32, stp_no hno]) (fun z => absurd z (show ¬ (1 : Int) = 0 by decide)) ⟨fun z => absurd z (show ¬ (1 : Int) = 0 by decide), fun _ => ?_, ?_⟩
                · rw [p47]; simp [mup_at]
                · rw [p47]; exact (FR.refl M).put (by omega) _
          · refine w_aload hZ 33 34 rfl rfl rfl ?_
            refine k_X7_readLetters hZ 34 35 rfl rfl (Nat.le_of_ble_eq_true rfl) ⟨hRP, by rw [hi]; exact c32, hfe, hft⟩ (fun M34 p34 => ?_)
            refine w_iret hZ 35 rfl ?_
            rw [hi] at p34 ⊢
            exact ps _ (M 73 21) _ rfl (fun _ => ⟨by rw [stp2_62fe c32]; exact hfe, hft⟩) p34
        · refine w_aload hZ 27 28 rfl rfl rfl ?_
          refine k_X7_readFigures hZ 28 29 rfl rfl (Nat.le_of_ble_eq_true rfl) (fe := fe) ⟨hRP, by rw [hi]; exact c26⟩ (fun M28 p28 => ?_)
          refine w_iret hZ 29 rfl ?_
          rw [hi] at p28 ⊢
          refine ps _ _ _ (stp2_n (by omega)) (fun z => ?_) p28
          have hz : isFC (FY M (i + 1)) := Decidable.byContradiction fun q => by
            rw [stp_61n c26 q] at z
            have h12 := fk_12 (YV M) (FY M (i + 1))
            have z2 : fk (YV M) (FY M (i + 1)) = 0 := z
            omega
          have hnx := stp_next hFm i1 z
          rw [stp_61y c26 hz] at hnx ⊢
          have h1 : i < (frF (FY M) (M 73 16 - (i + 1)).toNat (i + 1)).1 := hnx.1
          have h2 : (frF (FY M) (M 73 16 - (i + 1)).toNat (i + 1)).1 ≤ M 73 16 := hnx.2.1
          exact ⟨Or.inr ⟨rfl, by show 0 < (frF (FY M) (M 73 16 - (i + 1)).toNat (i + 1)).1; omega⟩, by show (frF (FY M) (M 73 16 - (i + 1)).toNat (i + 1)).1 ≤ 300; omega⟩
      · refine w_aload hZ 21 22 rfl rfl rfl ?_
        refine k_X7_readGreat hZ 22 23 rfl rfl (Nat.le_of_ble_eq_true rfl) (fe := fe) ⟨hRP, by rw [hi]; exact c20⟩ (fun M22 p22 => ?_)
        refine w_iret hZ 23 rfl ?_
        rw [hi] at p22 ⊢
        exact ps _ (M 73 21) _ (stp2_n (by omega)) (fun _ => ⟨by rw [stp_60fe c20]; exact hfe, hft⟩) p22
    · have hgg : isLC (FY M i) ∨ isRl (YV M) (FY M i) := by
        first
          | exact Or.inl (b2i_e.mp c7)
          | exact Or.inr (b2i_e.mp c11)
      replace hgg : Hid (isLC (FY M i) ∨ isRl (YV M) (FY M i)) := hgg
      have h62 : ¬ FY M i = 62 := by
        rcases hgg.u with z | z
        · have := z.2; omega
        · have := z.1.2; omega
      refine w_aload hZ 12 13 rfl rfl rfl ?_
      refine w_iload hZ 13 14 rfl rfl rfl ?_
      refine w_const hZ 14 15 rfl rfl  ?_
      refine k_X7_giveLetters hZ 15 16 rfl rfl (Nat.le_of_ble_eq_true rfl) ⟨hvo, hgg, s0, by omega, by omega, by omega, (b2i_f (p := false = true) (by decide)).symm⟩ (fun M15 p15 => ?_)
      refine w_const hZ 16 17 rfl rfl  ?_
      refine w_iret hZ 17 rfl ?_
      rw [if_neg (by decide), hi] at p15
      exact ok _ (by rw [stp2_n h62, stp_lt hgg.u]) rfl rfl _ p15
set_option maxRecDepth 100000 in
set_option maxHeartbeats 4000000 in
theorem ao_X7_readOne : AllOk yX7_readOne.cls cX7_readOne 2 4 93 (some .int) none pc_X7_readOne 0 cd_X7_readOne := ⟨s_aload_n (k := 0) (by decide +kernel) rfl rfl, ⟨s_aload_n (k := 0) (by decide +kernel) rfl rfl, ⟨s_get (C := RX7) (T := TX7) (N := 22) rfl inT7 (by decide) tw_3_179 (by decide +kernel) rfl, ⟨s_callV (C := RX7) (T := TX7) (N := 22) rfl ct_X7_feltAt (by decide) (by decide) ⟨rfl, by decide +kernel, by decide +kernel, by decide +kernel⟩ tw_4_219 tw_4_221 ts_5_1 tw_1_8 tw_4_222 (by decide +kernel) rfl, ⟨s_istore_n (k := 1) (by decide +kernel) rfl rfl, ⟨s_iload_n (k := 1) (by decide +kernel) rfl rfl, ⟨s_callS ct_X7_isLetterCell (by decide) (by decide) ⟨by decide +kernel, by decide +kernel, by decide +kernel⟩ tw_4_223 tw_4_224 tw_1_8 tw_4_225 (by decide +kernel) rfl, ⟨s_ifne (off := (11)) (by decide +kernel) rfl rfl, ⟨s_aload_n (k := 0) (by decide +kernel) rfl rfl, ⟨s_iload_n (k := 1) (by decide +kernel) rfl rfl, ⟨s_callV (C := RX7) (T := TX7) (N := 22) rfl ct_X7_isRuleCell (by decide) (by decide) ⟨rfl, by decide +kernel, by decide +kernel, by decide +kernel⟩ tw_4_227 tw_4_229 ts_5_2 tw_1_8 tw_4_230 (by decide +kernel) rfl, ⟨s_ifeq (off := (11)) (by decide +kernel) rfl rfl, ⟨s_aload_n (k := 0) (by decide +kernel) rfl rfl, ⟨s_iload_n (k := 1) (by decide +kernel) rfl rfl, ⟨s_iconst (by decide +kernel) rfl ⟨by decide, by decide⟩, ⟨s_callV (C := RX7) (T := TX7) (N := 22) rfl ct_X7_giveLetters (by decide) (by decide) ⟨rfl, by decide +kernel, by decide +kernel, by decide +kernel⟩ tw_4_231 tw_4_233 ts_5_3 tw_1_8 tw_4_234 (by decide +kernel) rfl, ⟨s_iconst (by decide +kernel) rfl ⟨by decide, by decide⟩, ⟨s_iret rfl (by decide +kernel), ⟨s_iload_n (k := 1) (by decide +kernel) rfl rfl, ⟨s_bipush (by decide +kernel) rfl ⟨by decide, by decide⟩ (by decide +kernel), ⟨s_cne (off := (8)) (by decide +kernel) rfl rfl, ⟨s_aload_n (k := 0) (by decide +kernel) rfl rfl, ⟨s_callV (C := RX7) (T := TX7) (N := 22) rfl ct_X7_readGreat (by decide) (by decide) ⟨rfl, by decide +kernel, by decide +kernel, by decide +kernel⟩ tw_4_239 tw_5_1 ts_5_5 tw_1_8 tw_5_2 (by decide +kernel) rfl, ⟨s_iret rfl (by decide +kernel), ⟨s_iload_n (k := 1) (by decide +kernel) rfl rfl, ⟨s_bipush (by decide +kernel) rfl ⟨by decide, by decide⟩ (by decide +kernel), ⟨s_cne (off := (8)) (by decide +kernel) rfl rfl, ⟨s_aload_n (k := 0) (by decide +kernel) rfl rfl, ⟨s_callV (C := RX7) (T := TX7) (N := 22) rfl ct_X7_readFigures (by decide) (by decide) ⟨rfl, by decide +kernel, by decide +kernel, by decide +kernel⟩ tw_5_7 tw_5_9 ts_5_7 tw_1_8 tw_5_10 (by decide +kernel) rfl, ⟨s_iret rfl (by decide +kernel), ⟨s_iload_n (k := 1) (by decide +kernel) rfl rfl, ⟨s_bipush (by decide +kernel) rfl ⟨by decide, by decide⟩ (by decide +kernel), ⟨s_cne (off := (8)) (by decide +kernel) rfl rfl, ⟨s_aload_n (k := 0) (by decide +kernel) rfl rfl, ⟨s_callV (C := RX7) (T := TX7) (N := 22) rfl ct_X7_readLetters (by decide) (by decide) ⟨rfl, by decide +kernel, by decide +kernel, by decide +kernel⟩ tw_5_15 tw_5_17 ts_5_8 tw_1_8 tw_5_18 (by decide +kernel) rfl, ⟨s_iret rfl (by decide +kernel), ⟨s_iload_n (k := 1) (by decide +kernel) rfl rfl, ⟨s_ifeq (off := (26)) (by decide +kernel) rfl rfl, ⟨s_iload_n (k := 1) (by decide +kernel) rfl rfl, ⟨s_i2l (by decide +kernel) rfl, ⟨s_ldc2 (v := (27)) tw_5_19 (by decide +kernel) rfl ⟨by decide, by decide⟩ (by decide +kernel), ⟨s_ldc2 (v := (29)) tw_5_20 (by decide +kernel) rfl ⟨by decide, by decide⟩ (by decide +kernel), ⟨s_callS ct_X7_in (by decide) (by decide) ⟨by decide +kernel, by decide +kernel, by decide +kernel⟩ tw_3_234 tw_3_235 tw_1_8 tw_3_236 (by decide +kernel) rfl, ⟨s_ifne (off := (12)) (by decide +kernel) rfl rfl, ⟨s_aload_n (k := 0) (by decide +kernel) rfl rfl, ⟨s_aload_n (k := 0) (by decide +kernel) rfl rfl, ⟨s_get (C := RX7) (T := TX7) (N := 22) rfl inT7 (by decide) tw_3_179 (by decide +kernel) rfl, ⟨s_callV (C := RX7) (T := TX7) (N := 22) rfl ct_X7_faults (by decide) (by decide) ⟨rfl, by decide +kernel, by decide +kernel, by decide +kernel⟩ tw_5_3 tw_5_5 ts_5_6 tw_1_8 tw_5_6 (by decide +kernel) rfl, ⟨s_iret rfl (by decide +kernel), ⟨s_aload_n (k := 0) (by decide +kernel) rfl rfl, ⟨s_iload_n (k := 1) (by decide +kernel) rfl rfl, ⟨s_ifne (off := (8)) (by decide +kernel) rfl rfl, ⟨s_bipush (by decide +kernel) rfl ⟨by decide, by decide⟩ (by decide +kernel), ⟨s_goto (off := (27)) (by decide +kernel) rfl, ⟨s_iload_n (k := 1) (by decide +kernel) rfl rfl, ⟨s_bipush (by decide +kernel) rfl ⟨by decide, by decide⟩ (by decide +kernel), ⟨s_cne (off := (8)) (by decide +kernel) rfl rfl, ⟨s_bipush (by decide +kernel) rfl ⟨by decide, by decide⟩ (by decide +kernel), ⟨s_goto (off := (16)) (by decide +kernel) rfl, ⟨s_iload_n (k := 1) (by decide +kernel) rfl rfl, ⟨s_bipush (by decide +kernel) rfl ⟨by decide, by decide⟩ (by decide +kernel), ⟨s_cne (off := (8)) (by decide +kernel) rfl rfl, ⟨s_bipush (by decide +kernel) rfl ⟨by decide, by decide⟩ (by decide +kernel), ⟨s_goto (off := (5)) (by decide +kernel) rfl, ⟨s_bipush (by decide +kernel) rfl ⟨by decide, by decide⟩ (by decide +kernel), ⟨s_callV (C := RX7) (T := TX7) (N := 22) rfl ct_X7_give (by decide) (by decide) ⟨rfl, by decide +kernel, by decide +kernel, by decide +kernel⟩ tw_4_235 tw_4_237 ts_5_4 tw_1_8 tw_4_238 (by decide +kernel) rfl, ⟨s_aload_n (k := 0) (by decide +kernel) rfl rfl, ⟨s_dup (by decide +kernel) rfl, ⟨s_get (C := RX7) (T := TX7) (N := 22) rfl inT7 (by decide) tw_3_179 (by decide +kernel) rfl, ⟨s_iconst (by decide +kernel) rfl ⟨by decide, by decide⟩, ⟨s_add (by decide +kernel) rfl, ⟨s_puti (C := RX7) (T := TX7) (N := 22) (tyf := tyX7) rfl inT7 tyX7_ok nmX7 (by decide) rfl rfl tw_3_179 (by decide +kernel) rfl, ⟨s_iconst (by decide +kernel) rfl ⟨by decide, by decide⟩, ⟨s_iret rfl (by decide +kernel), trivial⟩⟩⟩⟩⟩⟩⟩⟩⟩⟩⟩⟩⟩⟩⟩⟩⟩⟩⟩⟩⟩⟩⟩⟩⟩⟩⟩⟩⟩⟩⟩⟩⟩⟩⟩⟩⟩⟩⟩⟩⟩⟩⟩⟩⟩⟩⟩⟩⟩⟩⟩⟩⟩⟩⟩⟩⟩⟩⟩⟩⟩⟩⟩⟩⟩⟩⟩⟩⟩⟩⟩⟩⟩⟩
theorem ct_X7_readOne : Ctr yX7_readOne cX7_readOne 2 (some .int) 4 93 sp_X7_readOne := by
  refine ctr_of (by decide +kernel) ao_X7_readOne rfl ?_
  rintro av M Ret ⟨fe, rfl, hp, hR⟩ hok hM
  exact ⟨Nat.le_of_ble_eq_true rfl, fun Z hZ => b_X7_readOne fe  M Ret hp hR hM Z hZ⟩
def sp_X7_readAll : SP := fun av M Ret => av = [mr 73] ∧ (vOk (YV M) ∧ 0 ≤ M 73 16 ∧ M 73 16 ≤ 240 ∧ ∀ j, 0 ≤ j → j < M 73 16 → isCl (FY M j)) ∧ (∀ M2 : Mem, (M2 73 19 = (rd (YV M) (FY M) (M 73 16) 0 (-1)).2.1 ∧ ((rd (YV M) (FY M) (M 73 16) 0 (-1)).1 = 0 → M2 73 18 = (rd (YV M) (FY M) (M 73 16) 0 (-1)).2.2.length ∧ ∀ j : Nat, j < (rd (YV M) (FY M) (M 73 16) 0 (-1)).2.2.length → M2 83 j = (rd (YV M) (FY M) (M 73 16) 0 (-1)).2.2.getD j 0) ∧ FR M M2) → Ret (some (mi ((rd (YV M) (FY M) (M 73 16) 0 (-1)).1))) M2)
theorem k_X7_readAll {code : List Sem} {Z : KZ} {Ret : KR} {ls : List (Option MV)} {M : Mem} {r : List MV} (hZ : Sim code Z Ret) (ip np : Nat)  (hc : code[ip]? = some (I_callV 7 0 sp_X7_readAll)) (hn : ip + 1 = np) (h3 : catS r ≤ 8)  (hp : vOk (YV M) ∧ 0 ≤ M 73 16 ∧ M 73 16 ≤ 240 ∧ ∀ j, 0 ≤ j → j < M 73 16 → isCl (FY M j)) (kz : ∀ M2 : Mem, (M2 73 19 = (rd (YV M) (FY M) (M 73 16) 0 (-1)).2.1 ∧ ((rd (YV M) (FY M) (M 73 16) 0 (-1)).1 = 0 → M2 73 18 = (rd (YV M) (FY M) (M 73 16) 0 (-1)).2.2.length ∧ ∀ j : Nat, j < (rd (YV M) (FY M) (M 73 16) 0 (-1)).2.2.length → M2 83 j = (rd (YV M) (FY M) (M 73 16) 0 (-1)).2.2.getD j 0) ∧ FR M M2) → Z np ls (mi ((rd (YV M) (FY M) (M 73 16) 0 (-1)).1) :: r) M2) : Z ip ls (mr 73 :: r) M := w_callV0 hZ ip np hc hn rfl rfl h3 ⟨rfl, hp, fun M2 h => kz M2 h⟩
def cd_X7_readAll : List Sem := [I_aload 0, I_const (0), I_puti 7 20, I_aload 0, I_const (0), I_puti 7 18, I_aload 0, I_const (0), I_puti 7 21, I_aload 0, I_const (-1), I_puti 7 19, I_const (0), I_istore 1, I_aload 0, I_get 7 20, I_aload 0, I_get 7 16, I_cge 25, I_iload 1, I_ifne 25, I_aload 0, I_callV 7 0 sp_X7_readOne, I_istore 1, I_goto 14, I_iload 1, I_iret]
def pc_X7_readAll : List Nat := [0, 1, 2, 5, 6, 7, 10, 11, 12, 15, 16, 17, 20, 21, 22, 23, 26, 27, 30, 33, 34, 37, 38, 41, 42, 45, 46]
set_option maxRecDepth 100000 in
set_option maxHeartbeats 4000000 in
theorem b_X7_readAll  (M : Mem) (Ret : KR) (hp : vOk (YV M) ∧ 0 ≤ M 73 16 ∧ M 73 16 ≤ 240 ∧ ∀ j, 0 ≤ j → j < M 73 16 → isCl (FY M j)) (hR : ∀ M2 : Mem, (M2 73 19 = (rd (YV M) (FY M) (M 73 16) 0 (-1)).2.1 ∧ ((rd (YV M) (FY M) (M 73 16) 0 (-1)).1 = 0 → M2 73 18 = (rd (YV M) (FY M) (M 73 16) 0 (-1)).2.2.length ∧ ∀ j : Nat, j < (rd (YV M) (FY M) (M 73 16) 0 (-1)).2.2.length → M2 83 j = (rd (YV M) (FY M) (M 73 16) 0 (-1)).2.2.getD j 0) ∧ FR M M2) → Ret (some (mi ((rd (YV M) (FY M) (M 73 16) 0 (-1)).1))) M2) (hM : MOk M) (Z : KZ) (hZ : Sim cd_X7_readAll Z Ret) : Z 0 [some (mr 73), none] [] M := by
  obtain ⟨hvo, m0, m1, hcl⟩ := hp
  obtain ⟨R, hRd⟩ : ∃ R, rd (YV M) (FY M) (M 73 16) 0 (-1) = R := ⟨_, rfl⟩
  rw [hRd] at hR
  have hFm : ∀ j, M 73 16 ≤ j → FY M j = -1 := fun j hj => sgn_hi hj
  have endf : ∀ (x : Int) (N : Mem), ¬ x = 0 → x = R.1 → N 73 19 = R.2.1 → FR M N → Z 14 [some (mr 73), some (mi x)] [] N := by
    intro x N hx h1 h2 h3
    have hret : Ret (some (mi x)) N := by
      have q := hR N ⟨h2, fun z => absurd (h1.trans z) hx, h3⟩
      rw [h1]; exact q
    refine w_aload hZ 14 15 rfl rfl rfl ?_
    refine w_geti hZ 15 16 rfl rfl rfl rfl rfl ?_
    refine w_aload hZ 16 17 rfl rfl rfl ?_
    refine w_geti hZ 17 18 rfl rfl rfl rfl rfl ?_
    refine w_cge hZ 18 19 rfl rfl (fun c18 => ?_) (fun c18 => ?_)
    · refine w_iload hZ 25 26 rfl rfl rfl ?_
      refine w_iret hZ 26 rfl ?_
      exact hret
    · refine w_iload hZ 19 20 rfl rfl rfl ?_
      refine w_ifne hZ 20 21 rfl rfl (fun c20 => ?_) (fun c20 => absurd c20 hx)
      refine w_iload hZ 25 26 rfl rfl rfl ?_
      refine w_iret hZ 26 rfl ?_
      exact hret
  have main : ∀ B : Mem, FR M B → B 73 18 = 0 → ∀ (d : Nat) (i fe ft : Int) (D : List Int) (N : Mem), d = (M 73 16 - i).toNat → 0 ≤ i → i ≤ M 73 16 → feR fe ft → ft ≤ 300 → OG D B N i ft (-1) → (D.length : Int) ≤ 4 * i → Hid (R = ((rd (YV M) (FY M) (M 73 16) i fe).1, (rd (YV M) (FY M) (M 73 16) i fe).2.1, D ++ (rd (YV M) (FY M) (M 73 16) i fe).2.2)) → Z 14 [some (mr 73), some (mi 0)] [] N := by
    intro B hB hB0 d
    induction d using Nat.strongRecOn with
    | ind d ih =>
      intro i fe ft D N hd i0 i1 hfe hft hO hDl hE
      have hfr := hB.trans hO.fr
      have hpl := hO.2.2.2.1
      have h18 := hO.1
      have eY := hfr.yv
      have eF := hfr.fy
      have eM := hfr.m
      refine w_aload hZ 14 15 rfl rfl rfl ?_
      refine w_getiv hZ 15 16 rfl rfl rfl rfl rfl (v := i) hpl ?_
      refine w_aload hZ 16 17 rfl rfl rfl ?_
      refine w_getiv hZ 17 18 rfl rfl rfl rfl rfl (v := M 73 16) eM ?_
      refine w_cge hZ 18 19 rfl rfl (fun c18 => ?_) (fun c18 => ?_)
      · refine w_iload hZ 25 26 rfl rfl rfl ?_
        refine w_iret hZ 26 rfl ?_
        have hE2 := hE.u
        rw [rd_end (by omega), List.append_nil] at hE2
        have q := hR N
        rw [hE2] at q
        refine q ⟨hO.2.2.2.2.2.1, fun _ => ⟨by rw [h18, hB0]; show 0 + (D.length : Int) = D.length; omega, fun j hj => ?_⟩, hfr⟩
        have q2 := hO.2.2.1 j hj
        rw [hB0] at q2
        rw [show (0 : Int).toNat + j = j from Nat.zero_add j] at q2
        exact q2
      · refine w_iload hZ 19 20 rfl rfl rfl ?_
        refine w_ifne hZ 20 21 rfl rfl (fun c20 => absurd c20 (by omega)) (fun c20 => ?_)
        refine w_aload hZ 21 22 rfl rfl rfl ?_
        refine k_X7_readOne hZ 22 23 rfl rfl (Nat.le_of_ble_eq_true rfl) (fe := fe) ⟨⟨by rw [eY]; exact hvo, by omega, by omega, by omega, by omega, by omega, by omega⟩, by rw [eF, hpl]; exact hcl i i0 (by omega), by rw [hO.2.2.2.2.1]; exact hfe, by rw [hO.2.2.2.2.1]; exact hft⟩ (fun M22 p22 => ?_)
        rw [eY, eF, eM, hpl] at p22 ⊢
        refine w_st2_1 hZ 23 24 rfl rfl rfl ?_
        refine w_goto hZ 24 14 rfl ?_
        have hE2 := hE.u
        by_cases hz : (stp2 (YV M) (FY M) (M 73 16) i fe).1 = 0
        · have hnx := stp2_next hFm (by omega) hz
          rw [rd_step2 hFm (by omega) hz] at hE2
          obtain ⟨ft2, g1, g2, g3⟩ := p22.1 hz
          rw [hz]
          have hO2 := hO.trans g3 (by omega)
          rw [hO.2.2.2.2.2.1] at hO2
          refine ih _ (by omega) _ _ ft2 _ M22 rfl (by omega) hnx.2.1 g1 g2 hO2 (by rw [List.length_append]; omega) ?_
          unfold Hid
          rw [hE2, List.append_assoc]
        · rw [rd_fault2 (by omega) hz, List.append_nil] at hE2
          refine endf _ M22 hz (by rw [hE2]) (by rw [hE2]; exact p22.2.1 hz) (hfr.trans p22.2.2)
  refine w_aload hZ 0 1 rfl rfl rfl ?_
  refine w_const hZ 1 2 rfl rfl  ?_
  refine w_puti hZ 2 3 rfl rfl rfl rfl rfl ?_
  refine w_aload hZ 3 4 rfl rfl rfl ?_
  refine w_const hZ 4 5 rfl rfl  ?_
  refine w_puti hZ 5 6 rfl rfl rfl rfl rfl ?_
  refine w_aload hZ 6 7 rfl rfl rfl ?_
  refine w_const hZ 7 8 rfl rfl  ?_
  refine w_puti hZ 8 9 rfl rfl rfl rfl rfl ?_
  refine w_aload hZ 9 10 rfl rfl rfl ?_
  refine w_const hZ 10 11 rfl rfl  ?_
  refine w_puti hZ 11 12 rfl rfl rfl rfl rfl ?_
  refine w_const hZ 12 13 rfl rfl  ?_
  refine w_st2_1 hZ 13 14 rfl rfl rfl ?_
  refine gen_mem (P := fun N => FR M N ∧ N 73 18 = 0 ∧ N 73 20 = 0 ∧ N 73 21 = 0 ∧ N 73 19 = -1) ⟨((((FR.refl M).put (by omega) _).put (by omega) _).put (by omega) _).put (by omega) _, by simp [mup_at], by simp [mup_at], by simp [mup_at], by simp [mup_at]⟩ (fun B hB => ?_)
  have q := OG_nil B
  rw [hB.2.2.1, hB.2.2.2.1, hB.2.2.2.2] at q
  exact main B hB.1 hB.2.1 _ 0 (-1) 0 [] B rfl (Int.le_refl _) m0 (Or.inl ⟨rfl, rfl⟩) (by omega) q (by simp) (by unfold Hid; rw [← hRd]; rfl)
set_option maxRecDepth 100000 in
set_option maxHeartbeats 4000000 in
theorem ao_X7_readAll : AllOk yX7_readAll.cls cX7_readAll 2 5 114 (some .int) none pc_X7_readAll 0 cd_X7_readAll := ⟨s_aload_n (k := 0) (by decide +kernel) rfl rfl, ⟨s_iconst (by decide +kernel) rfl ⟨by decide, by decide⟩, ⟨s_puti (C := RX7) (T := TX7) (N := 22) (tyf := tyX7) rfl inT7 tyX7_ok nmX7 (by decide) rfl rfl tw_3_179 (by decide +kernel) rfl, ⟨s_aload_n (k := 0) (by decide +kernel) rfl rfl, ⟨s_iconst (by decide +kernel) rfl ⟨by decide, by decide⟩, ⟨s_puti (C := RX7) (T := TX7) (N := 22) (tyf := tyX7) rfl inT7 tyX7_ok nmX7 (by decide) rfl rfl tw_3_177 (by decide +kernel) rfl, ⟨s_aload_n (k := 0) (by decide +kernel) rfl rfl, ⟨s_iconst (by decide +kernel) rfl ⟨by decide, by decide⟩, ⟨s_puti (C := RX7) (T := TX7) (N := 22) (tyf := tyX7) rfl inT7 tyX7_ok nmX7 (by decide) rfl rfl tw_3_180 (by decide +kernel) rfl, ⟨s_aload_n (k := 0) (by decide +kernel) rfl rfl, ⟨s_iconst (by decide +kernel) rfl ⟨by decide, by decide⟩, ⟨s_puti (C := RX7) (T := TX7) (N := 22) (tyf := tyX7) rfl inT7 tyX7_ok nmX7 (by decide) rfl rfl tw_3_178 (by decide +kernel) rfl, ⟨s_iconst (by decide +kernel) rfl ⟨by decide, by decide⟩, ⟨s_istore_n (k := 1) (by decide +kernel) rfl rfl, ⟨s_aload_n (k := 0) (by decide +kernel) rfl rfl, ⟨s_get (C := RX7) (T := TX7) (N := 22) rfl inT7 (by decide) tw_3_179 (by decide +kernel) rfl, ⟨s_aload_n (k := 0) (by decide +kernel) rfl rfl, ⟨s_get (C := RX7) (T := TX7) (N := 22) rfl inT7 (by decide) tw_3_175 (by decide +kernel) rfl, ⟨s_cge (off := (15)) (by decide +kernel) rfl rfl, ⟨s_iload_n (k := 1) (by decide +kernel) rfl rfl, ⟨s_ifne (off := (11)) (by decide +kernel) rfl rfl, ⟨s_aload_n (k := 0) (by decide +kernel) rfl rfl, ⟨s_callV (C := RX7) (T := TX7) (N := 22) rfl ct_X7_readOne (by decide) (by decide) ⟨rfl, by decide +kernel, by decide +kernel, by decide +kernel⟩ tw_4_215 tw_4_217 ts_5_0 tw_1_8 tw_4_218 (by decide +kernel) rfl, ⟨s_istore_n (k := 1) (by decide +kernel) rfl rfl, ⟨s_goto (off := (-20)) (by decide +kernel) rfl, ⟨s_iload_n (k := 1) (by decide +kernel) rfl rfl, ⟨s_iret rfl (by decide +kernel), trivial⟩⟩⟩⟩⟩⟩⟩⟩⟩⟩⟩⟩⟩⟩⟩⟩⟩⟩⟩⟩⟩⟩⟩⟩⟩⟩⟩
theorem ct_X7_readAll : Ctr yX7_readAll cX7_readAll 2 (some .int) 5 114 sp_X7_readAll := by
  refine ctr_of (by decide +kernel) ao_X7_readAll rfl ?_
  rintro av M Ret ⟨rfl, hp, hR⟩ hok hM
  exact ⟨Nat.le_of_ble_eq_true rfl, fun Z hZ => b_X7_readAll   M Ret hp hR hM Z hZ⟩
theorem YR.rr {s : St} {M N : Mem} (h : YR s M) (hf : FR M N) : YR s N := h.same (fun k hk => hf.2 k (by omega) (by omega)) (hf.1 2 (by omega)) (hf.1 16 (by omega))
theorem YR.rp {s : St} {M : Mem} (h : YR s M) (hv : stOk s) : vOk (YV M) ∧ 0 ≤ M 73 16 ∧ M 73 16 ≤ 240 ∧ ∀ j, 0 ≤ j → j < M 73 16 → isCl (FY M j) := by
  have e5 := h.2.2.2.2.1
  have e6 : FY M = sL s := by unfold FY; rw [e5]; exact h.2.2.2.2.2
  refine ⟨h.vo hv, by rw [e5]; exact hv.2.2.2.2.1, by rw [e5]; exact hv.2.2.2.2.2.1, fun j j0 j1 => ?_⟩
  rw [e6]
  rw [e5] at j1
  exact hv.2.2.2.2.2.2.2 j j0 j1
theorem YR.rd {s : St} {M : Mem} (h : YR s M) : rd (YV M) (FY M) (M 73 16) 0 (-1) = rdS s := by
  have e5 := h.2.2.2.2.1
  have e6 : FY M = sL s := by unfold FY; rw [e5]; exact h.2.2.2.2.2
  rw [h.1, e6, e5]
theorem rdF_len {V : BV} {F : Int → Int} {m : Int} (hF : ∀ j, m ≤ j → F j = -1) : ∀ (k : Nat) (i fe : Int), i ≤ m → ((rdF V F m k i fe).2.2.length : Int) ≤ 4 * (m - i)
  | 0, i, fe, h => by show (0 : Int) ≤ _; omega
  | k + 1, i, fe, h => by
    unfold rdF
    split
    · show (0 : Int) ≤ _; omega
    · split
      · show (0 : Int) ≤ _; omega
      · rename_i h1 h2
        have hk : (stp V F m i fe).1 = 0 := Decidable.byContradiction h2
        have hn := stp_next hF (by omega) hk
        have ih := rdF_len (V := V) hF k (stp V F m i fe).2.2.1 (stp V F m i fe).2.2.2.1 hn.2.1
        show (((stp V F m i fe).2.2.2.2 ++ (rdF V F m k (stp V F m i fe).2.2.1 (stp V F m i fe).2.2.2.1).2.2).length : Int) ≤ _
        rw [List.length_append]
        omega
theorem rdS_len (s : St) (hv : stOk s) : (rdS s).2.2.length ≤ 960 := by
  have q : ((rdS s).2.2.length : Int) ≤ 4 * (sC s - 0) := rdF_len (V := sB s) (F := sL s) (m := sC s) (fun j hj => hv.2.2.2.2.2.2.1 j (Or.inr hj)) _ 0 (-1) hv.2.2.2.2.1
  have := hv.2.2.2.2.2.1
  omega
def sp_X7_read : SP := fun av M Ret => ∃ s : St, av = [mr 73] ∧ (YR s M ∧ stOk s) ∧ (∀ M2 : Mem, (YR s M2 ∧ ∀ k, k < 73 → M2 k = M k) → Ret (some (mi (rRead s))) M2)
theorem k_X7_read {code : List Sem} {Z : KZ} {Ret : KR} {ls : List (Option MV)} {M : Mem} {r : List MV} (hZ : Sim code Z Ret) (ip np : Nat) {s : St}  (hc : code[ip]? = some (I_callV 7 0 sp_X7_read)) (hn : ip + 1 = np) (h3 : catS r ≤ 8)  (hp : YR s M ∧ stOk s) (kz : ∀ M2 : Mem, (YR s M2 ∧ ∀ k, k < 73 → M2 k = M k) → Z np ls (mi (rRead s) :: r) M2) : Z ip ls (mr 73 :: r) M := w_callV0 hZ ip np hc hn rfl rfl h3 ⟨_, rfl, hp, fun M2 h => kz M2 h⟩
def cd_X7_read : List Sem := [I_aload 0, I_callV 7 0 sp_X7_readAll, I_istore 1, I_iload 1, I_ifne 8, I_aload 0, I_get 7 18, I_goto 11, I_const (-10), I_iload 1, I_sub, I_iret]
def pc_X7_read : List Nat := [0, 1, 4, 5, 6, 9, 10, 13, 16, 18, 19, 20]
set_option maxRecDepth 100000 in
set_option maxHeartbeats 4000000 in
theorem b_X7_read (s : St)  (M : Mem) (Ret : KR) (hp : YR s M ∧ stOk s) (hR : ∀ M2 : Mem, (YR s M2 ∧ ∀ k, k < 73 → M2 k = M k) → Ret (some (mi (rRead s))) M2) (hM : MOk M) (Z : KZ) (hZ : Sim cd_X7_read Z Ret) : Z 0 [some (mr 73), none] [] M := by
  obtain ⟨hx, hv⟩ := hp
  have hB := hx.yb hv
  have hvo := hx.vo hv
  have h240 : (evN (sB s) (-1)).length ≤ 240 := aEv_240 hv.1 (-1) (i := 0) (Int.le_refl _)
  have h241 : (aEv (sB s) (-1) 0).length ≤ 240 := h240
  have fin : ∀ (x : Int) (M2 : Mem), rRead s = x → YR s M2 → (∀ k, k < 73 → M2 k = M k) → Ret (some (mi x)) M2 := by
    intro x M2 e h h2; subst e; exact hR M2 ⟨h, h2⟩
  have non : ∀ x : Int, rRead s = x → Ret (some (mi x)) M := fun x q => fin x M q hx (fun _ _ => rfl)
  have hks : 0 ≤ (rdS s).1 ∧ (rdS s).1 ≤ 2 := rd_kind _ _ _ _ _
  refine w_aload hZ 0 1 rfl rfl rfl ?_
  refine k_X7_readAll hZ 1 2 rfl rfl (Nat.le_of_ble_eq_true rfl) (hx.rp hv) (fun M1 p1 => ?_)
  rw [hx.rd] at p1 ⊢
  refine w_st2_1 hZ 2 3 rfl rfl rfl ?_
  refine w_iload hZ 3 4 rfl rfl rfl ?_
  refine w_ifne hZ 4 5 rfl rfl (fun c4 => ?_) (fun c4 => ?_)
  · refine w_const hZ 8 9 rfl rfl  ?_
    refine w_iload hZ 9 10 rfl rfl rfl ?_
    refine w_sub hZ 10 11 rfl rfl (by unfold InR; omega) ?_
    refine w_iret hZ 11 rfl ?_
    first
      | exact fin _ _ (by unfold rRead; rw [if_pos c4]; exact (p1.2.1 c4).1.symm) (hx.rr p1.2.2) (fun k hk => p1.2.2.2 k (by omega) (by omega))
      | exact fin _ _ (by unfold rRead; rw [if_neg c4]) (hx.rr p1.2.2) (fun k hk => p1.2.2.2 k (by omega) (by omega))
  · refine w_aload hZ 5 6 rfl rfl rfl ?_
    refine w_geti hZ 6 7 rfl rfl rfl rfl rfl ?_
    refine w_goto hZ 7 11 rfl ?_
    refine w_iret hZ 11 rfl ?_
    first
      | exact fin _ _ (by unfold rRead; rw [if_pos c4]; exact (p1.2.1 c4).1.symm) (hx.rr p1.2.2) (fun k hk => p1.2.2.2 k (by omega) (by omega))
      | exact fin _ _ (by unfold rRead; rw [if_neg c4]) (hx.rr p1.2.2) (fun k hk => p1.2.2.2 k (by omega) (by omega))
set_option maxRecDepth 100000 in
set_option maxHeartbeats 4000000 in
theorem ao_X7_read : AllOk yX7_read.cls cX7_read 2 6 135 (some .int) none pc_X7_read 0 cd_X7_read := ⟨s_aload_n (k := 0) (by decide +kernel) rfl rfl, ⟨s_callV (C := RX7) (T := TX7) (N := 22) rfl ct_X7_readAll (by decide) (by decide) ⟨rfl, by decide +kernel, by decide +kernel, by decide +kernel⟩ tw_4_211 tw_4_213 ts_4_15 tw_1_8 tw_4_214 (by decide +kernel) rfl, ⟨s_istore_n (k := 1) (by decide +kernel) rfl rfl, ⟨s_iload_n (k := 1) (by decide +kernel) rfl rfl, ⟨s_ifne (off := (10)) (by decide +kernel) rfl rfl, ⟨s_aload_n (k := 0) (by decide +kernel) rfl rfl, ⟨s_get (C := RX7) (T := TX7) (N := 22) rfl inT7 (by decide) tw_3_177 (by decide +kernel) rfl, ⟨s_goto (off := (7)) (by decide +kernel) rfl, ⟨s_bipush (by decide +kernel) rfl ⟨by decide, by decide⟩ (by decide +kernel), ⟨s_iload_n (k := 1) (by decide +kernel) rfl rfl, ⟨s_sub (by decide +kernel) rfl, ⟨s_iret rfl (by decide +kernel), trivial⟩⟩⟩⟩⟩⟩⟩⟩⟩⟩⟩⟩
theorem ct_X7_read : Ctr yX7_read cX7_read 2 (some .int) 6 135 sp_X7_read := by
  refine ctr_of (by decide +kernel) ao_X7_read rfl ?_
  rintro av M Ret ⟨s, rfl, hp, hR⟩ hok hM
  exact ⟨Nat.le_of_ble_eq_true rfl, fun Z hZ => b_X7_read s  M Ret hp hR hM Z hZ⟩
def sp_X7_fault : SP := fun av M Ret => ∃ s : St, av = [mr 73] ∧ (YR s M ∧ stOk s) ∧ (∀ M2 : Mem, (YR s M2 ∧ ∀ k, k < 73 → M2 k = M k) → Ret (some (mi (rFault s))) M2)
theorem k_X7_fault {code : List Sem} {Z : KZ} {Ret : KR} {ls : List (Option MV)} {M : Mem} {r : List MV} (hZ : Sim code Z Ret) (ip np : Nat) {s : St}  (hc : code[ip]? = some (I_callV 7 0 sp_X7_fault)) (hn : ip + 1 = np) (h3 : catS r ≤ 8)  (hp : YR s M ∧ stOk s) (kz : ∀ M2 : Mem, (YR s M2 ∧ ∀ k, k < 73 → M2 k = M k) → Z np ls (mi (rFault s) :: r) M2) : Z ip ls (mr 73 :: r) M := w_callV0 hZ ip np hc hn rfl rfl h3 ⟨_, rfl, hp, fun M2 h => kz M2 h⟩
def cd_X7_fault : List Sem := [I_aload 0, I_callV 7 0 sp_X7_readAll, I_pop, I_aload 0, I_get 7 19, I_iret]
def pc_X7_fault : List Nat := [0, 1, 4, 5, 6, 9]
set_option maxRecDepth 100000 in
set_option maxHeartbeats 4000000 in
theorem b_X7_fault (s : St)  (M : Mem) (Ret : KR) (hp : YR s M ∧ stOk s) (hR : ∀ M2 : Mem, (YR s M2 ∧ ∀ k, k < 73 → M2 k = M k) → Ret (some (mi (rFault s))) M2) (hM : MOk M) (Z : KZ) (hZ : Sim cd_X7_fault Z Ret) : Z 0 [some (mr 73)] [] M := by
  obtain ⟨hx, hv⟩ := hp
  have hB := hx.yb hv
  have hvo := hx.vo hv
  have h240 : (evN (sB s) (-1)).length ≤ 240 := aEv_240 hv.1 (-1) (i := 0) (Int.le_refl _)
  have h241 : (aEv (sB s) (-1) 0).length ≤ 240 := h240
  have fin : ∀ (x : Int) (M2 : Mem), rFault s = x → YR s M2 → (∀ k, k < 73 → M2 k = M k) → Ret (some (mi x)) M2 := by
    intro x M2 e h h2; subst e; exact hR M2 ⟨h, h2⟩
  have non : ∀ x : Int, rFault s = x → Ret (some (mi x)) M := fun x q => fin x M q hx (fun _ _ => rfl)
  refine w_aload hZ 0 1 rfl rfl rfl ?_
  refine k_X7_readAll hZ 1 2 rfl rfl (Nat.le_of_ble_eq_true rfl) (hx.rp hv) (fun M1 p1 => ?_)
  rw [hx.rd] at p1 ⊢
  refine w_pop hZ 2 3 rfl rfl rfl ?_
  refine w_aload hZ 3 4 rfl rfl rfl ?_
  refine w_geti hZ 4 5 rfl rfl rfl rfl rfl ?_
  refine w_iret hZ 5 rfl ?_
  exact fin _ _ p1.1.symm (hx.rr p1.2.2) (fun k hk => p1.2.2.2 k (by omega) (by omega))
set_option maxRecDepth 100000 in
set_option maxHeartbeats 4000000 in
theorem ao_X7_fault : AllOk yX7_fault.cls cX7_fault 1 6 135 (some .int) none pc_X7_fault 0 cd_X7_fault := ⟨s_aload_n (k := 0) (by decide +kernel) rfl rfl, ⟨s_callV (C := RX7) (T := TX7) (N := 22) rfl ct_X7_readAll (by decide) (by decide) ⟨rfl, by decide +kernel, by decide +kernel, by decide +kernel⟩ tw_4_211 tw_4_213 ts_4_15 tw_1_8 tw_4_214 (by decide +kernel) rfl, ⟨s_pop (by decide +kernel) rfl, ⟨s_aload_n (k := 0) (by decide +kernel) rfl rfl, ⟨s_get (C := RX7) (T := TX7) (N := 22) rfl inT7 (by decide) tw_3_178 (by decide +kernel) rfl, ⟨s_iret rfl (by decide +kernel), trivial⟩⟩⟩⟩⟩⟩
theorem ct_X7_fault : Ctr yX7_fault cX7_fault 1 (some .int) 6 135 sp_X7_fault := by
  refine ctr_of (by decide +kernel) ao_X7_fault rfl ?_
  rintro av M Ret ⟨s, rfl, hp, hR⟩ hok hM
  exact ⟨Nat.le_of_ble_eq_true rfl, fun Z hZ => b_X7_fault s  M Ret hp hR hM Z hZ⟩
def sp_X7_sign : SP := fun av M Ret => ∃ s : St, ∃ i : Int, av = [mr 73, mi i] ∧ (YR s M ∧ stOk s) ∧ (∀ M2 : Mem, (YR s M2 ∧ ∀ k, k < 73 → M2 k = M k) → Ret (some (mi (rSign s i))) M2)
theorem k_X7_sign {code : List Sem} {Z : KZ} {Ret : KR} {ls : List (Option MV)} {M : Mem} {r : List MV} (hZ : Sim code Z Ret) (ip np : Nat) {s : St} {i : Int} (hc : code[ip]? = some (I_callV 7 1 sp_X7_sign)) (hn : ip + 1 = np) (h3 : catS r ≤ 8)  (hp : YR s M ∧ stOk s) (kz : ∀ M2 : Mem, (YR s M2 ∧ ∀ k, k < 73 → M2 k = M k) → Z np ls (mi (rSign s i) :: r) M2) : Z ip ls (mi i :: mr 73 :: r) M := w_callV1 hZ ip np hc hn rfl rfl h3 ⟨_, _, rfl, hp, fun M2 h => kz M2 h⟩
def cd_X7_sign : List Sem := [I_iload 1, I_ifge 4, I_const (-1000000002), I_iret, I_aload 0, I_callV 7 0 sp_X7_readAll, I_ifne 16, I_iload 1, I_aload 0, I_get 7 18, I_cge 16, I_aload 0, I_get 7 17, I_iload 1, I_iald, I_goto 17, I_const (-1), I_iret]
def pc_X7_sign : List Nat := [0, 1, 4, 6, 7, 8, 11, 14, 15, 16, 19, 22, 23, 26, 27, 28, 31, 32]
set_option maxRecDepth 100000 in
set_option maxHeartbeats 4000000 in
theorem b_X7_sign (s : St) (i : Int) (i_i : InR i) (M : Mem) (Ret : KR) (hp : YR s M ∧ stOk s) (hR : ∀ M2 : Mem, (YR s M2 ∧ ∀ k, k < 73 → M2 k = M k) → Ret (some (mi (rSign s i))) M2) (hM : MOk M) (Z : KZ) (hZ : Sim cd_X7_sign Z Ret) : Z 0 [some (mr 73), some (mi i)] [] M := by
  obtain ⟨hx, hv⟩ := hp
  have hB := hx.yb hv
  have hvo := hx.vo hv
  have h240 : (evN (sB s) (-1)).length ≤ 240 := aEv_240 hv.1 (-1) (i := 0) (Int.le_refl _)
  have h241 : (aEv (sB s) (-1) 0).length ≤ 240 := h240
  have fin : ∀ (x : Int) (M2 : Mem), rSign s i = x → YR s M2 → (∀ k, k < 73 → M2 k = M k) → Ret (some (mi x)) M2 := by
    intro x M2 e h h2; subst e; exact hR M2 ⟨h, h2⟩
  have non : ∀ x : Int, rSign s i = x → Ret (some (mi x)) M := fun x q => fin x M q hx (fun _ _ => rfl)
  refine w_iload hZ 0 1 rfl rfl rfl ?_
  refine w_ifge hZ 1 2 rfl rfl (fun c1 => ?_) (fun c1 => ?_)
  · refine w_aload hZ 4 5 rfl rfl rfl ?_
    refine k_X7_readAll hZ 5 6 rfl rfl (Nat.le_of_ble_eq_true rfl) (hx.rp hv) (fun M5 p5 => ?_)
    rw [hx.rd] at p5 ⊢
    refine w_ifne hZ 6 7 rfl rfl (fun c6 => ?_) (fun c6 => ?_)
    · refine w_const hZ 16 17 rfl rfl  ?_
      refine w_iret hZ 17 rfl ?_
      first
        | exact fin _ _ (by unfold rSign; rw [if_neg (by omega), if_pos ⟨c6, by omega⟩]; exact ((p5.2.1 c6).2 i.toNat (by omega)).symm) (hx.rr p5.2.2) (fun k hk => p5.2.2.2 k (by omega) (by omega))
        | exact fin _ _ (by unfold rSign; rw [if_neg (by omega), if_neg (fun z => by omega)]) (hx.rr p5.2.2) (fun k hk => p5.2.2.2 k (by omega) (by omega))
        | exact fin _ _ (by unfold rSign; rw [if_neg (by omega), if_neg (fun z => c6 z.1)]) (hx.rr p5.2.2) (fun k hk => p5.2.2.2 k (by omega) (by omega))
    · have hs18 := (p5.2.1 c6).1
      have hs1k := (rdS s).2.2.length
      refine w_iload hZ 7 8 rfl rfl rfl ?_
      refine w_aload hZ 8 9 rfl rfl rfl ?_
      refine w_geti hZ 9 10 rfl rfl rfl rfl rfl ?_
      refine w_cge hZ 10 11 rfl rfl (fun c10 => ?_) (fun c10 => ?_)
      · refine w_const hZ 16 17 rfl rfl  ?_
        refine w_iret hZ 17 rfl ?_
        first
          | exact fin _ _ (by unfold rSign; rw [if_neg (by omega), if_pos ⟨c6, by omega⟩]; exact ((p5.2.1 c6).2 i.toNat (by omega)).symm) (hx.rr p5.2.2) (fun k hk => p5.2.2.2 k (by omega) (by omega))
          | exact fin _ _ (by unfold rSign; rw [if_neg (by omega), if_neg (fun z => by omega)]) (hx.rr p5.2.2) (fun k hk => p5.2.2.2 k (by omega) (by omega))
          | exact fin _ _ (by unfold rSign; rw [if_neg (by omega), if_neg (fun z => c6 z.1)]) (hx.rr p5.2.2) (fun k hk => p5.2.2.2 k (by omega) (by omega))
      · refine w_aload hZ 11 12 rfl rfl rfl ?_
        refine w_getr hZ 12 13 rfl rfl rfl rfl rfl ?_
        refine w_iload hZ 13 14 rfl rfl rfl ?_
        refine w_iald hZ 14 15 rfl rfl rfl (by omega) (by have := (p5.2.1 c6).1; have := rdS_len s hv; omega) ?_
        refine w_goto hZ 15 17 rfl ?_
        refine w_iret hZ 17 rfl ?_
        first
          | exact fin _ _ (by unfold rSign; rw [if_neg (by omega), if_pos ⟨c6, by omega⟩]; exact ((p5.2.1 c6).2 i.toNat (by omega)).symm) (hx.rr p5.2.2) (fun k hk => p5.2.2.2 k (by omega) (by omega))
          | exact fin _ _ (by unfold rSign; rw [if_neg (by omega), if_neg (fun z => by omega)]) (hx.rr p5.2.2) (fun k hk => p5.2.2.2 k (by omega) (by omega))
          | exact fin _ _ (by unfold rSign; rw [if_neg (by omega), if_neg (fun z => c6 z.1)]) (hx.rr p5.2.2) (fun k hk => p5.2.2.2 k (by omega) (by omega))
  · refine w_const hZ 2 3 rfl rfl  ?_
    refine w_iret hZ 3 rfl ?_
    exact non _ (by unfold rSign; rw [if_pos (by omega)])
set_option maxRecDepth 100000 in
set_option maxHeartbeats 4000000 in
theorem ao_X7_sign : AllOk yX7_sign.cls cX7_sign 2 6 135 (some .int) none pc_X7_sign 0 cd_X7_sign := ⟨s_iload_n (k := 1) (by decide +kernel) rfl rfl, ⟨s_ifge (off := (6)) (by decide +kernel) rfl rfl, ⟨s_ldc (v := (-1000000002)) tw_4_7 (by decide +kernel) rfl ⟨by decide, by decide⟩ (by decide +kernel), ⟨s_iret rfl (by decide +kernel), ⟨s_aload_n (k := 0) (by decide +kernel) rfl rfl, ⟨s_callV (C := RX7) (T := TX7) (N := 22) rfl ct_X7_readAll (by decide) (by decide) ⟨rfl, by decide +kernel, by decide +kernel, by decide +kernel⟩ tw_4_211 tw_4_213 ts_4_15 tw_1_8 tw_4_214 (by decide +kernel) rfl, ⟨s_ifne (off := (20)) (by decide +kernel) rfl rfl, ⟨s_iload_n (k := 1) (by decide +kernel) rfl rfl, ⟨s_aload_n (k := 0) (by decide +kernel) rfl rfl, ⟨s_get (C := RX7) (T := TX7) (N := 22) rfl inT7 (by decide) tw_3_177 (by decide +kernel) rfl, ⟨s_cge (off := (12)) (by decide +kernel) rfl rfl, ⟨s_aload_n (k := 0) (by decide +kernel) rfl rfl, ⟨s_get (C := RX7) (T := TX7) (N := 22) rfl inT7 (by decide) tw_3_176 (by decide +kernel) rfl, ⟨s_iload_n (k := 1) (by decide +kernel) rfl rfl, ⟨s_iald (by decide +kernel) rfl, ⟨s_goto (off := (4)) (by decide +kernel) rfl, ⟨s_iconst (by decide +kernel) rfl ⟨by decide, by decide⟩, ⟨s_iret rfl (by decide +kernel), trivial⟩⟩⟩⟩⟩⟩⟩⟩⟩⟩⟩⟩⟩⟩⟩⟩⟩⟩
theorem ct_X7_sign : Ctr yX7_sign cX7_sign 2 (some .int) 6 135 sp_X7_sign := by
  refine ctr_of (by decide +kernel) ao_X7_sign rfl ?_
  rintro av M Ret ⟨s, i, rfl, hp, hR⟩ hok hM
  exact ⟨Nat.le_of_ble_eq_true rfl, fun Z hZ => b_X7_sign s i (hok _ (List.mem_of_getElem? (i := 1) rfl)) M Ret hp hR hM Z hZ⟩
