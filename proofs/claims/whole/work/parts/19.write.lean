/-! Writer: a whole word, the whole text -/
theorem leE_wc (V : BV) (g : Bool) (i : Int) : wcE (leE V g i) = (leE V g i).length := by
  unfold leE wcE; split <;> rfl
theorem wcE_cons (e : Ev) (D : List Ev) (h : e.2.2.2 = 1) : wcE (e :: D) = 1 + wcE D := by
  unfold wcE; rw [List.filter_cons]; simp [h]; omega
theorem wEv_wc {V : BV} (h : vOk V) (w a b : Int) (g : Bool) : ∀ (d : Nat) (i : Int), d = (b - i).toNat → wcE (wEv V w a b g i) = (wEv V w a b g i).length := by
  intro d
  induction d using Nat.strongRecOn with
  | ind d ih =>
    intro i hd
    by_cases hb : b ≤ i
    · rw [wEv_end hb]; rfl
    · by_cases hs : sv V w a b g i = -1
      · rw [wEv_let h (by omega) hs, wcE_app, leE_wc, ih (b - (i + 1)).toNat (by omega) (i + 1) rfl, List.length_append]; omega
      · obtain ⟨q1, q2, q3, q4⟩ := h.sv_ln hs
        rw [wEv_rule h (by omega) hs, wcE_cons _ _ rfl, ih (b - (i + lnC (vC' V (sv V w a b g i).toNat))).toNat (by omega) _ rfl, List.length_cons]; omega
theorem hdE_wc (V : BV) (a b : Int) : wcE (hdE V a b) = 0 := by
  unfold hdE wcE
  split <;> split <;> rfl
theorem wdE_wc {V : BV} (h : vOk V) (w a b : Int) : wcE (wdE V w a b) = (wEv V w a b (alC V a b) a).length := by
  unfold wdE
  rw [wcE_app, hdE_wc, wEv_wc h w a b _ (b - a).toNat a rfl]; omega
def sp_X5_writeWord : SP := fun av M Ret => av = [mr 10] ∧ (vOk (bX M 1) ∧ En M ∧ gM M = alC (bX M 1) (M 10 7) (M 10 8) ∧ M 10 9 = b2i (gM M = true) ∧ 0 ≤ M 10 4 ∧ M 10 4 + (wdE (bX M 1) (M 10 5) (M 10 7) (M 10 8)).length ≤ 240 ∧ Sn M ∧ 0 ≤ M 10 6 ∧ M 10 6 ≤ M 10 4) ∧ (∀ M2 : Mem, (∃ N, ApE (wdE (bX M 1) (M 10 5) (M 10 7) (M 10 8)) M N ∧ M2 = mup N 10 6 (M 10 6 + wcE (wdE (bX M 1) (M 10 5) (M 10 7) (M 10 8)))) → Ret none M2)
theorem k_X5_writeWord {code : List Sem} {Z : KZ} {Ret : KR} {ls : List (Option MV)} {M : Mem} {r : List MV} (hZ : Sim code Z Ret) (ip np : Nat)  (hc : code[ip]? = some (I_callV 5 0 sp_X5_writeWord)) (hn : ip + 1 = np) (h3 : catS r ≤ 8)  (hp : vOk (bX M 1) ∧ En M ∧ gM M = alC (bX M 1) (M 10 7) (M 10 8) ∧ M 10 9 = b2i (gM M = true) ∧ 0 ≤ M 10 4 ∧ M 10 4 + (wdE (bX M 1) (M 10 5) (M 10 7) (M 10 8)).length ≤ 240 ∧ Sn M ∧ 0 ≤ M 10 6 ∧ M 10 6 ≤ M 10 4) (kz : ∀ M2 : Mem, (∃ N, ApE (wdE (bX M 1) (M 10 5) (M 10 7) (M 10 8)) M N ∧ M2 = mup N 10 6 (M 10 6 + wcE (wdE (bX M 1) (M 10 5) (M 10 7) (M 10 8)))) → Z np ls r M2) : Z ip ls (mr 10 :: r) M := w_callV0 hZ ip np hc hn rfl rfl h3 ⟨rfl, hp, fun M2 h => kz M2 h⟩
def cd_X5_writeWord : List Sem := [I_aload 0, I_callV 5 0 sp_X5_needsLetters, I_ifeq 6, I_aload 0, I_const (62), I_callV 5 1 sp_X5_addCell, I_aload 0, I_get 5 9, I_ifeq 15, I_aload 0, I_const (60), I_callV 5 1 sp_X5_addCell, I_aload 0, I_const (60), I_callV 5 1 sp_X5_addCell, I_aload 0, I_get 5 4, I_istore 1, I_aload 0, I_get 5 7, I_istore 2, I_aload 0, I_get 5 7, I_istore 3, I_iload 3, I_aload 0, I_get 5 8, I_cge 51, I_iload 3, I_iload 2, I_cne 49, I_aload 0, I_iload 3, I_callV 5 1 sp_X5_servingRule, I_istore 4, I_iload 3, I_iload 4, I_const (-1), I_cne 43, I_aload 0, I_iload 3, I_callV 5 1 sp_X5_writeLetter, I_goto 47, I_aload 0, I_iload 4, I_iload 3, I_callV 5 2 sp_X5_writeRule, I_add, I_istore 2, I_iinc 3 (1), I_goto 24, I_aload 0, I_dup, I_get 5 6, I_aload 0, I_get 5 4, I_iload 1, I_sub, I_add, I_puti 5 6, I_vret]
def pc_X5_writeWord : List Nat := [0, 1, 4, 7, 8, 10, 13, 14, 17, 20, 21, 23, 26, 27, 29, 32, 33, 36, 37, 38, 41, 42, 43, 46, 47, 48, 49, 52, 55, 56, 57, 60, 61, 62, 65, 67, 68, 70, 71, 74, 75, 76, 79, 82, 83, 85, 86, 89, 90, 91, 94, 97, 98, 99, 102, 103, 106, 107, 108, 109, 112]
set_option maxRecDepth 100000 in
set_option maxHeartbeats 4000000 in
theorem b_X5_writeWord  (M : Mem) (Ret : KR) (hp : vOk (bX M 1) ∧ En M ∧ gM M = alC (bX M 1) (M 10 7) (M 10 8) ∧ M 10 9 = b2i (gM M = true) ∧ 0 ≤ M 10 4 ∧ M 10 4 + (wdE (bX M 1) (M 10 5) (M 10 7) (M 10 8)).length ≤ 240 ∧ Sn M ∧ 0 ≤ M 10 6 ∧ M 10 6 ≤ M 10 4) (hR : ∀ M2 : Mem, (∃ N, ApE (wdE (bX M 1) (M 10 5) (M 10 7) (M 10 8)) M N ∧ M2 = mup N 10 6 (M 10 6 + wcE (wdE (bX M 1) (M 10 5) (M 10 7) (M 10 8)))) → Ret none M2) (hM : MOk M) (Z : KZ) (hZ : Sim cd_X5_writeWord Z Ret) : Z 0 [some (mr 10), none, none, none, none] [] M := by
  obtain ⟨hv, he, hg, hg9, hc0, hc1, hsn, hw0, hw1⟩ := hp
  have hb := hv.bx
  have hbb := hb
  obtain ⟨b1, b2, b3, b4⟩ := hbb
  have hee := he
  obtain ⟨e1, e2, e3, e4⟩ := hee
  have hsn0 : ∀ k : Nat, k < 12 → 0 ≤ M 12 k := fun k hk => (hsn k hk).1
  have hwc := wdE_wc hv (M 10 5) (M 10 7) (M 10 8)
  generalize hV : bX M 1 = V at *
  generalize hw : M 10 5 = w at *
  generalize ha : M 10 7 = a at *
  generalize hbe : M 10 8 = b at *
  rw [← hg] at hwc
  have hD : wdE V w a b = hdE V a b ++ wEv V w a b (gM M) a := by unfold wdE; rw [hg]
  generalize hG : gM M = g at *
  have hlen : (wdE V w a b).length = (hdE V a b).length + (wEv V w a b g a).length := by rw [hD, List.length_append]
  -- what stays the same behind any writing
  have same : ∀ (A : List Ev) (N : Mem), ApE A M N → bX N 1 = V ∧ N 10 5 = w ∧ N 10 7 = a ∧ N 10 8 = b ∧ gM N = g ∧ En N ∧ Sn N ∧ N 10 4 = M 10 4 + A.length ∧ N 10 9 = b2i (g = true) ∧ N 10 6 = M 10 6 := by
    intro A N hA
    have h5 := hA.2.2.2.2.1
    refine ⟨hA.bx.trans hV, (h5 5 (by omega)).trans hw, (h5 7 (by omega)).trans ha, (h5 8 (by omega)).trans hbe, ?_, hA.en he, hA.sn hsn, hA.1, (h5 9 (by omega)).trans hg9, h5 6 (by omega)⟩
    unfold gM; rw [h5 9 (by omega)]; exact hG
  have loop : ∀ (d : Nat) (j bh : Int) (D : List Ev) (N : Mem), d = (b - j).toNat → a ≤ j → j ≤ bh → bh ≤ b → ApE (hdE V a b ++ D) M N → wEv V w a b g a = D ++ wEv V w a b g bh → Z 24 [some (mr 10), some (mi (M 10 4 + (hdE V a b).length)), some (mi bh), some (mi j), none] [] N := by
    intro d
    induction d using Nat.strongRecOn with
    | ind d ih =>
      intro j bh D N hd h0 h1 h2 hA hev
      obtain ⟨n1, n2, n3, n4, n5, n6, n7, n8, n9, n10⟩ := same _ N hA
      rw [List.length_append] at n8
      have hsvN : sv (bX N 1) (N 10 5) (N 10 7) (N 10 8) (gM N) j = sv V w a b g j := by rw [n1, n2, n3, n4, n5]
      have hlev := congrArg List.length hev
      rw [List.length_append] at hlev
      have hlw : ∀ x, j ≤ x → x < b → isLt (vS V x) := fun x x0 x1 => (e4 x (by omega) x1).1
      refine w_iload hZ 24 25 rfl rfl rfl ?_
      refine w_aload hZ 25 26 rfl rfl rfl ?_
      refine w_getiv hZ 26 27 rfl rfl rfl rfl rfl (v := b) n4 ?_
      refine w_cge hZ 27 28 rfl rfl (fun c27 => ?_) (fun c27 => ?_)
      · refine w_aload hZ 51 52 rfl rfl rfl ?_
        refine w_dup hZ 52 53 rfl rfl rfl ?_
        refine w_getiv hZ 53 54 rfl rfl rfl rfl rfl (v := M 10 6) n10 ?_
        refine w_aload hZ 54 55 rfl rfl rfl ?_
        refine w_getiv hZ 55 56 rfl rfl rfl rfl rfl (v := M 10 4 + ((hdE V a b).length + D.length : Nat)) n8 ?_
        refine w_iload hZ 56 57 rfl rfl rfl ?_
        refine w_sub hZ 57 58 rfl rfl (by unfold InR; omega) ?_
        refine w_add hZ 58 59 rfl rfl (by unfold InR; omega) ?_
        refine w_puti hZ 59 60 rfl rfl rfl rfl rfl ?_
        refine w_vret hZ 60 rfl ?_
        have hj : bh = b := by omega
        have hz : (wEv V w a b g bh).length = 0 := by rw [wEv_end (by omega)]; rfl
        rw [hj, wEv_end (Int.le_refl _), List.append_nil] at hev
        refine hR _ ⟨N, ?_, ?_⟩
        · rw [hD, hev]; exact hA
        · congr 1; rw [hwc]; omega
      · refine w_iload hZ 28 29 rfl rfl rfl ?_
        refine w_iload hZ 29 30 rfl rfl rfl ?_
        refine w_cne hZ 30 31 rfl rfl (fun c30 => ?_) (fun c30 => ?_)
        · refine w_in5_3 hZ 49 50 rfl rfl rfl (by unfold InR; omega) ?_
          refine w_goto hZ 50 24 rfl ?_
          exact ih ((b - (j + 1)).toNat) (by omega) (j + 1) bh D N rfl (by omega) (by omega) h2 hA hev
        · refine w_aload hZ 31 32 rfl rfl rfl ?_
          refine w_iload hZ 32 33 rfl rfl rfl ?_
          refine k_X5_servingRule hZ 33 34 rfl rfl (Nat.le_of_ble_eq_true rfl) ⟨by rw [n1]; exact hv, n6, by omega, by omega⟩ ?_
          rw [hsvN]
          refine w_st5_4 hZ 34 35 rfl rfl rfl ?_
          refine w_iload hZ 35 36 rfl rfl rfl ?_
          refine w_iload hZ 36 37 rfl rfl rfl ?_
          refine w_const hZ 37 38 rfl rfl  ?_
          refine w_cne hZ 38 39 rfl rfl (fun c38 => ?_) (fun c38 => ?_)
          · refine w_aload hZ 43 44 rfl rfl rfl ?_
            refine w_iload hZ 44 45 rfl rfl rfl ?_
            refine w_iload hZ 45 46 rfl rfl rfl ?_
            refine k_X5_writeRule hZ 46 47 rfl rfl (Nat.le_of_ble_eq_true rfl) ⟨by rw [n1]; exact hv, (hv.sv_ln c38).1, by have q := (hv.sv_ln c38).2.1; rw [← hV] at q; rw [← hV]; have e1N : N 1 = M 1 := hA.2.2.2.2.2 1 (by omega); rw [e1N]; exact q, by omega, by have q := congrArg List.length (wEv_rule hv (show j < b by omega) c38); rw [List.length_cons] at q; rw [← c30] at hlev; omega, n7⟩ (fun M46 p46 => ?_)
            first
              | (rw [n1, n5] at p41; refine w_add hZ 47 48 rfl rfl (by unfold InR; omega) ?_; refine w_st5_2 hZ 48 49 rfl rfl rfl ?_; refine w_in5_3 hZ 49 50 rfl rfl rfl (by unfold InR; omega) ?_; refine w_goto hZ 50 24 rfl ?_; refine w_fg5_4 hZ ?_; refine ih ((b - (j + 1)).toNat) (by omega) (j + 1) (j + 1) (D ++ leE V g j) M41 rfl (by omega) (by omega) (by omega) ?_ ?_; (rw [← List.append_assoc]; exact hA.trans p41 hc0 hsn0); (rw [hev, ← c30, wEv_let hv (show j < b by omega) c38, List.append_assoc]))
              | (rw [n1] at p46 ⊢; have hq := hv.sv_ln c38; have hin := sv_in hv hlw c38; refine w_add hZ 47 48 rfl rfl (by unfold InR; omega) ?_; refine w_st5_2 hZ 48 49 rfl rfl rfl ?_; refine w_in5_3 hZ 49 50 rfl rfl rfl (by unfold InR; omega) ?_; refine w_goto hZ 50 24 rfl ?_; refine w_fg5_4 hZ ?_; refine ih ((b - (j + 1)).toNat) (by omega) (j + 1) (j + lnC (vC' V (sv V w a b g j).toNat)) (D ++ [(vE V (sv V w a b g j).toNat, sv V w a b g j, j, 1)]) M46 rfl (by omega) (by omega) (by omega) ?_ ?_; (rw [← List.append_assoc]; exact hA.trans p46 hc0 hsn0); (rw [hev, ← c30, wEv_rule hv (show j < b by omega) c38, List.append_assoc]; rfl))
          · refine w_aload hZ 39 40 rfl rfl rfl ?_
            refine w_iload hZ 40 41 rfl rfl rfl ?_
            refine k_X5_writeLetter hZ 41 42 rfl rfl (Nat.le_of_ble_eq_true rfl) ⟨by rw [n1]; exact hv, n6, by omega, by omega, by omega, by rw [n1, n5]; have q := congrArg List.length (wEv_let hv (show j < b by omega) c38); rw [List.length_append] at q; rw [← c30] at hlev; omega, n7⟩ (fun M41 p41 => ?_)
            refine w_goto hZ 42 47 rfl ?_
            first
              | (rw [n1, n5] at p41; refine w_add hZ 47 48 rfl rfl (by unfold InR; omega) ?_; refine w_st5_2 hZ 48 49 rfl rfl rfl ?_; refine w_in5_3 hZ 49 50 rfl rfl rfl (by unfold InR; omega) ?_; refine w_goto hZ 50 24 rfl ?_; refine w_fg5_4 hZ ?_; refine ih ((b - (j + 1)).toNat) (by omega) (j + 1) (j + 1) (D ++ leE V g j) M41 rfl (by omega) (by omega) (by omega) ?_ ?_; (rw [← List.append_assoc]; exact hA.trans p41 hc0 hsn0); (rw [hev, ← c30, wEv_let hv (show j < b by omega) c38, List.append_assoc]))
              | (rw [n1] at p46 ⊢; have hq := hv.sv_ln c38; have hin := sv_in hv hlw c38; refine w_add hZ 47 48 rfl rfl (by unfold InR; omega) ?_; refine w_st5_2 hZ 48 49 rfl rfl rfl ?_; refine w_in5_3 hZ 49 50 rfl rfl rfl (by unfold InR; omega) ?_; refine w_goto hZ 50 24 rfl ?_; refine w_fg5_4 hZ ?_; refine ih ((b - (j + 1)).toNat) (by omega) (j + 1) (j + lnC (vC' V (sv V w a b g j).toNat)) (D ++ [(vE V (sv V w a b g j).toNat, sv V w a b g j, j, 1)]) M46 rfl (by omega) (by omega) (by omega) ?_ ?_; (rw [← List.append_assoc]; exact hA.trans p46 hc0 hsn0); (rw [hev, ← c30, wEv_rule hv (show j < b by omega) c38, List.append_assoc]; rfl))
  have t15 : ∀ N : Mem, ApE (hdE V a b) M N → Z 15 [some (mr 10), none, none, none, none] [] N := by
    intro N hA
    obtain ⟨n1, n2, n3, n4, n5, n6, n7, n8, n9, n10⟩ := same _ N hA
    refine w_aload hZ 15 16 rfl rfl rfl ?_
    refine w_getiv hZ 16 17 rfl rfl rfl rfl rfl (v := M 10 4 + (hdE V a b).length) n8 ?_
    refine w_st5_1 hZ 17 18 rfl rfl rfl ?_
    refine w_aload hZ 18 19 rfl rfl rfl ?_
    refine w_getiv hZ 19 20 rfl rfl rfl rfl rfl (v := a) n3 ?_
    refine w_st5_2 hZ 20 21 rfl rfl rfl ?_
    refine w_aload hZ 21 22 rfl rfl rfl ?_
    refine w_getiv hZ 22 23 rfl rfl rfl rfl rfl (v := a) n3 ?_
    refine w_st5_3 hZ 23 24 rfl rfl rfl ?_
    exact loop _ a a [] N rfl (Int.le_refl _) (Int.le_refl _) (Int.le_of_lt e2) (by rw [List.append_nil]; exact hA) rfl
  have t6 : ∀ (A : List Ev) (N : Mem), ApE A M N → A = (if wnt V a then [(62, -1, a, 0)] else []) → Z 6 [some (mr 10), none, none, none, none] [] N := by
    intro A N hA hAe
    obtain ⟨n1, n2, n3, n4, n5, n6, n7, n8, n9, n10⟩ := same _ N hA
    have hh : hdE V a b = A ++ (if g = true then [(60, -1, a, 0), (60, -1, a, 0)] else []) := by unfold hdE; rw [hAe, hg]
    refine w_aload hZ 6 7 rfl rfl rfl ?_
    refine w_getzv hZ 7 8 rfl rfl rfl rfl rfl (v := b2i (g = true)) n9 ?_
    refine w_ifeq hZ 8 9 rfl rfl (fun c8 => ?_) (fun c8 => ?_)
    · first
        | (subst p14; refine t15 _ ?_; rw [hh2]; exact hA.trans (hA1.trans (ApE_cell (by rw [hA1l]; simp; omega) (60, -1, a, 0) rfl) (by omega) (fun k hk => (n7 k hk).1)) hc0 hsn0)
        | (refine t15 N ?_; rw [hh, if_neg (b2i_z.mp c8), List.append_nil]; exact hA)
    · have hh2 : hdE V a b = A ++ ([(60, -1, a, 0)] ++ [(60, -1, a, 0)]) := by rw [hh, if_pos (b2i_e.mp c8)]; rfl
      have hl2 : (hdE V a b).length = A.length + 2 := by rw [hh2]; simp
      refine w_aload hZ 9 10 rfl rfl rfl ?_
      refine w_const hZ 10 11 rfl rfl  ?_
      refine k_X5_addCell hZ 11 12 rfl rfl (Nat.le_of_ble_eq_true rfl) (by omega) (fun M11 p11 => ?_)
      subst p11
      have hA1 := ApE_cell (M := N) (by omega) (60, -1, a, 0) rfl
      have hA1l := hA1.1
      refine w_aload hZ 12 13 rfl rfl rfl ?_
      refine w_const hZ 13 14 rfl rfl  ?_
      refine k_X5_addCell hZ 14 15 rfl rfl (Nat.le_of_ble_eq_true rfl) ⟨by rw [hA1l]; simp; omega, by rw [hA1l]; simp; omega⟩ (fun M14 p14 => ?_)
      first
        | (subst p14; refine t15 _ ?_; rw [hh2]; exact hA.trans (hA1.trans (ApE_cell (by rw [hA1l]; simp; omega) (60, -1, a, 0) rfl) (by omega) (fun k hk => (n7 k hk).1)) hc0 hsn0)
        | (refine t15 N ?_; rw [hh, if_neg (b2i_z.mp c8), List.append_nil]; exact hA)
  refine w_aload hZ 0 1 rfl rfl rfl ?_
  refine k_X5_needsLetters hZ 1 2 rfl rfl (Nat.le_of_ble_eq_true rfl) ⟨hb, by omega, by omega⟩ ?_
  rw [hV, ha]
  refine w_ifeq hZ 2 3 rfl rfl (fun c2 => ?_) (fun c2 => ?_)
  · first
      | (subst p5; exact t6 _ _ (ApE_cell hc0 (62, -1, a, 0) rfl) (by rw [if_pos (b2i_e.mp c2)]))
      | exact t6 [] M (ApE_nil M) (by rw [if_neg (b2i_z.mp c2)])
  · have hl62 : (hdE V a b).length ≥ 1 := by unfold hdE; rw [if_pos (b2i_e.mp c2)]; simp
    refine w_aload hZ 3 4 rfl rfl rfl ?_
    refine w_const hZ 4 5 rfl rfl  ?_
    refine k_X5_addCell hZ 5 6 rfl rfl (Nat.le_of_ble_eq_true rfl) (by omega) (fun M5 p5 => ?_)
    first
      | (subst p5; exact t6 _ _ (ApE_cell hc0 (62, -1, a, 0) rfl) (by rw [if_pos (b2i_e.mp c2)]))
      | exact t6 [] M (ApE_nil M) (by rw [if_neg (b2i_z.mp c2)])
set_option maxRecDepth 100000 in
set_option maxHeartbeats 4000000 in
theorem ao_X5_writeWord : AllOk yX5_writeWord.cls cX5_writeWord 5 3 73 none none pc_X5_writeWord 0 cd_X5_writeWord := ⟨s_aload_n (k := 0) (by decide +kernel) rfl rfl, ⟨s_callV (C := RX5) (T := TX5) (N := 12) rfl ct_X5_needsLetters (by decide) (by decide) ⟨rfl, by decide +kernel, by decide +kernel, by decide +kernel⟩ tw_2_161 tw_2_163 ts_1_6 tw_1_4 tw_2_164 (by decide +kernel) rfl, ⟨s_ifeq (off := (9)) (by decide +kernel) rfl rfl, ⟨s_aload_n (k := 0) (by decide +kernel) rfl rfl, ⟨s_bipush (by decide +kernel) rfl ⟨by decide, by decide⟩ (by decide +kernel), ⟨s_callV (C := RX5) (T := TX5) (N := 12) rfl ct_X5_addCell (by decide) (by decide) ⟨rfl, by decide +kernel, by decide +kernel, by decide +kernel⟩ tw_2_171 tw_2_173 ts_1_7 tw_1_4 tw_2_174 (by decide +kernel) rfl, ⟨s_aload_n (k := 0) (by decide +kernel) rfl rfl, ⟨s_get (C := RX5) (T := TX5) (N := 12) rfl inT5 (by decide) tw_1_101 (by decide +kernel) rfl, ⟨s_ifeq (off := (15)) (by decide +kernel) rfl rfl, ⟨s_aload_n (k := 0) (by decide +kernel) rfl rfl, ⟨s_bipush (by decide +kernel) rfl ⟨by decide, by decide⟩ (by decide +kernel), ⟨s_callV (C := RX5) (T := TX5) (N := 12) rfl ct_X5_addCell (by decide) (by decide) ⟨rfl, by decide +kernel, by decide +kernel, by decide +kernel⟩ tw_2_171 tw_2_173 ts_1_7 tw_1_4 tw_2_174 (by decide +kernel) rfl, ⟨s_aload_n (k := 0) (by decide +kernel) rfl rfl, ⟨s_bipush (by decide +kernel) rfl ⟨by decide, by decide⟩ (by decide +kernel), ⟨s_callV (C := RX5) (T := TX5) (N := 12) rfl ct_X5_addCell (by decide) (by decide) ⟨rfl, by decide +kernel, by decide +kernel, by decide +kernel⟩ tw_2_171 tw_2_173 ts_1_7 tw_1_4 tw_2_174 (by decide +kernel) rfl, ⟨s_aload_n (k := 0) (by decide +kernel) rfl rfl, ⟨s_get (C := RX5) (T := TX5) (N := 12) rfl inT5 (by decide) tw_1_96 (by decide +kernel) rfl, ⟨s_istore_n (k := 1) (by decide +kernel) rfl rfl, ⟨s_aload_n (k := 0) (by decide +kernel) rfl rfl, ⟨s_get (C := RX5) (T := TX5) (N := 12) rfl inT5 (by decide) tw_1_99 (by decide +kernel) rfl, ⟨s_istore_n (k := 2) (by decide +kernel) rfl rfl, ⟨s_aload_n (k := 0) (by decide +kernel) rfl rfl, ⟨s_get (C := RX5) (T := TX5) (N := 12) rfl inT5 (by decide) tw_1_99 (by decide +kernel) rfl, ⟨s_istore_n (k := 3) (by decide +kernel) rfl rfl, ⟨s_iload_n (k := 3) (by decide +kernel) rfl rfl, ⟨s_aload_n (k := 0) (by decide +kernel) rfl rfl, ⟨s_get (C := RX5) (T := TX5) (N := 12) rfl inT5 (by decide) tw_1_100 (by decide +kernel) rfl, ⟨s_cge (off := (45)) (by decide +kernel) rfl rfl, ⟨s_iload_n (k := 3) (by decide +kernel) rfl rfl, ⟨s_iload_n (k := 2) (by decide +kernel) rfl rfl, ⟨s_cne (off := (34)) (by decide +kernel) rfl rfl, ⟨s_aload_n (k := 0) (by decide +kernel) rfl rfl, ⟨s_iload_n (k := 3) (by decide +kernel) rfl rfl, ⟨s_callV (C := RX5) (T := TX5) (N := 12) rfl ct_X5_servingRule (by decide) (by decide) ⟨rfl, by decide +kernel, by decide +kernel, by decide +kernel⟩ tw_2_175 tw_2_177 ts_1_8 tw_1_4 tw_2_178 (by decide +kernel) rfl, ⟨s_istore (by decide +kernel) rfl, ⟨s_iload_n (k := 3) (by decide +kernel) rfl rfl, ⟨s_iload (by decide +kernel) rfl, ⟨s_iconst (by decide +kernel) rfl ⟨by decide, by decide⟩, ⟨s_cne (off := (11)) (by decide +kernel) rfl rfl, ⟨s_aload_n (k := 0) (by decide +kernel) rfl rfl, ⟨s_iload_n (k := 3) (by decide +kernel) rfl rfl, ⟨s_callV (C := RX5) (T := TX5) (N := 12) rfl ct_X5_writeLetter (by decide) (by decide) ⟨rfl, by decide +kernel, by decide +kernel, by decide +kernel⟩ tw_2_188 tw_2_190 ts_1_11 tw_1_4 tw_2_191 (by decide +kernel) rfl, ⟨s_goto (off := (10)) (by decide +kernel) rfl, ⟨s_aload_n (k := 0) (by decide +kernel) rfl rfl, ⟨s_iload (by decide +kernel) rfl, ⟨s_iload_n (k := 3) (by decide +kernel) rfl rfl, ⟨s_callV (C := RX5) (T := TX5) (N := 12) rfl ct_X5_writeRule (by decide) (by decide) ⟨rfl, by decide +kernel, by decide +kernel, by decide +kernel⟩ tw_2_192 tw_2_194 ts_1_12 tw_1_4 tw_2_195 (by decide +kernel) rfl, ⟨s_add (by decide +kernel) rfl, ⟨s_istore_n (k := 2) (by decide +kernel) rfl rfl, ⟨s_iinc (by decide +kernel) rfl, ⟨s_goto (off := (-47)) (by decide +kernel) rfl, ⟨s_aload_n (k := 0) (by decide +kernel) rfl rfl, ⟨s_dup (by decide +kernel) rfl, ⟨s_get (C := RX5) (T := TX5) (N := 12) rfl inT5 (by decide) tw_1_98 (by decide +kernel) rfl, ⟨s_aload_n (k := 0) (by decide +kernel) rfl rfl, ⟨s_get (C := RX5) (T := TX5) (N := 12) rfl inT5 (by decide) tw_1_96 (by decide +kernel) rfl, ⟨s_iload_n (k := 1) (by decide +kernel) rfl rfl, ⟨s_sub (by decide +kernel) rfl, ⟨s_add (by decide +kernel) rfl, ⟨s_puti (C := RX5) (T := TX5) (N := 12) (tyf := tyX5) rfl inT5 tyX5_ok nmX5 (by decide) rfl rfl tw_1_98 (by decide +kernel) rfl, ⟨s_vret rfl (by decide +kernel), trivial⟩⟩⟩⟩⟩⟩⟩⟩⟩⟩⟩⟩⟩⟩⟩⟩⟩⟩⟩⟩⟩⟩⟩⟩⟩⟩⟩⟩⟩⟩⟩⟩⟩⟩⟩⟩⟩⟩⟩⟩⟩⟩⟩⟩⟩⟩⟩⟩⟩⟩⟩⟩⟩⟩⟩⟩⟩⟩⟩⟩⟩
theorem ct_X5_writeWord : Ctr yX5_writeWord cX5_writeWord 5 none 3 73 sp_X5_writeWord := by
  refine ctr_of (by decide +kernel) ao_X5_writeWord rfl ?_
  rintro av M Ret ⟨rfl, hp, hR⟩ hok hM
  exact ⟨Nat.le_of_ble_eq_true rfl, fun Z hZ => b_X5_writeWord   M Ret hp hR hM Z hZ⟩
