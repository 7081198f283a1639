/-! THE REFERENCE: FEWEST of all, lines -/
def RW (V : BV) (i : Int) : Int := ((aEv V (-1) i).length : Int) - wcE (aEv V (-1) i) + (fwT V (-1) (vN V).toNat - fwT V (-1) i.toNat)
theorem fwT_word {V : BV} (w : Int) {i e : Int} (i0 : 0 ≤ i) (hl : ∀ j, i ≤ j → j < e → isLt (vS V j)) (hp : ¬ isLt (vS V (i - 1))) : ∀ n : Nat, i + 1 + n ≤ e → fwT V w (i.toNat + 1 + n) = fwT V w i.toNat + fwW V w i
  | 0, h => by
    show fwT V w i.toNat + (if isLt (vS V ((i.toNat : Nat) : Int)) ∧ ¬ isLt (vS V (((i.toNat : Nat) : Int) - 1)) then fwW V w ((i.toNat : Nat) : Int) else 0) = _
    rw [show ((i.toNat : Nat) : Int) = i by omega, if_pos ⟨hl i (by omega) (by omega), hp⟩]
  | n + 1, h => by
    have ih := fwT_word w i0 hl hp n (by omega)
    show fwT V w (i.toNat + 1 + n) + (if isLt (vS V ((i.toNat + 1 + n : Nat) : Int)) ∧ ¬ isLt (vS V (((i.toNat + 1 + n : Nat) : Int) - 1)) then fwW V w ((i.toNat + 1 + n : Nat) : Int) else 0) = _
    rw [if_neg (fun z => z.2 (hl _ (by omega) (by omega))), ih]; omega
theorem RW_word {V : BV} (h : vOk V) {i : Int} (i0 : 0 ≤ i) (i1 : i < vN V) (hl : isLt (vS V i)) (hp : ¬ isLt (vS V (i - 1))) : RW V i = fw V (-1) i (we (vN V) (vS V) i) (alC V i (we (vN V) (vS V) i)) i + (hdE V i (we (vN V) (vS V) i)).length + RW V (we (vN V) (vS V) i) := by
  have hg := we_gt h i1 hl
  have hs := we_spec (n := vN V) (S := vS V) (i := i) (by omega) h.nl
  have hf := fwT_word (V := V) (-1) i0 hs.2.2.1 hp (we (vN V) (vS V) i - i - 1).toNat (by omega)
  rw [show i.toNat + 1 + (we (vN V) (vS V) i - i - 1).toNat = (we (vN V) (vS V) i).toNat by omega] at hf
  have hw := wdE_wc h (-1) i (we (vN V) (vS V) i)
  have hd : (wdE V (-1) i (we (vN V) (vS V) i)).length = (hdE V i (we (vN V) (vS V) i)).length + (wEv V (-1) i (we (vN V) (vS V) i) (alC V i (we (vN V) (vS V) i)) i).length := by unfold wdE; rw [List.length_append]
  have hW : fwW V (-1) i = fw V (-1) i (we (vN V) (vS V) i) (alC V i (we (vN V) (vS V) i)) i := rfl
  unfold RW
  rw [aEv_word h i1 hl, List.length_append, wcE_app, hw, hf, hW]
  omega
theorem RW_sign {V : BV} (h : vOk V) {i : Int} (i0 : 0 ≤ i) (i1 : i < vN V) (hl : ¬ isLt (vS V i)) : RW V i = (sgE V i).length + RW V (i + 1) := by
  have hw : wcE (sgE V i) = 0 := by
    unfold wcE
    have : (sgE V i).filter (fun e => e.2.2.2 == 1) = [] := by
      rw [List.filter_eq_nil_iff]
      intro e he; simpa using sgE_wc V i e he
    rw [this]; rfl
  have hf : fwT V (-1) (i + 1).toNat = fwT V (-1) i.toNat := by
    rw [show (i + 1).toNat = i.toNat + 1 by omega]
    show fwT V (-1) i.toNat + (if isLt (vS V ((i.toNat : Nat) : Int)) ∧ _ then _ else 0) = _
    rw [if_neg (fun z => hl (by have := z.1; rwa [show ((i.toNat : Nat) : Int) = i by omega] at this))]; omega
  unfold RW
  rw [aEv_sign h i1 hl, List.length_append, wcE_app, hw, hf]
  omega
theorem RW_end {V : BV} : RW V (vN V) = 0 := by
  unfold RW
  rw [aEv_end (Int.le_refl _)]
  show (0 : Int) - 0 + _ = 0
  omega
def FXY (M N : Mem) : Prop := (∀ k, ¬ k = 73 → ¬ k = 78 → ¬ k = 81 → N k = M k) ∧ ∀ f, ¬ f = 7 → N 73 f = M 73 f
def sp_X7_fewest : SP := fun av M Ret => av = [mr 73] ∧ (vOk (YV M)) ∧ (∀ M2 : Mem, (FXY M M2) → Ret (some (mi (RW (YV M) 0))) M2)
theorem k_X7_fewest {code : List Sem} {Z : KZ} {Ret : KR} {ls : List (Option MV)} {M : Mem} {r : List MV} (hZ : Sim code Z Ret) (ip np : Nat)  (hc : code[ip]? = some (I_callV 7 0 sp_X7_fewest)) (hn : ip + 1 = np) (h3 : catS r ≤ 8)  (hp : vOk (YV M)) (kz : ∀ M2 : Mem, (FXY M M2) → Z np ls (mi (RW (YV M) 0) :: r) M2) : Z ip ls (mr 73 :: r) M := w_callV0 hZ ip np hc hn rfl rfl h3 ⟨rfl, hp, fun M2 h => kz M2 h⟩
def cd_X7_fewest : List Sem := [I_aload 0, I_const (0), I_puti 7 7, I_const (0), I_istore 1, I_const (0), I_istore 2, I_iload 2, I_aload 0, I_get 7 0, I_const (39), I_iald, I_cge 37, I_aload 0, I_iload 2, I_callV 7 1 sp_X7_sign0, I_callS 1 sp_X7_isLetter, I_ifeq 32, I_aload 0, I_iload 2, I_callV 7 1 sp_X7_wordTo, I_istore 3, I_iload 1, I_aload 0, I_iload 2, I_iload 3, I_callV 7 2 sp_X7_fewestOf, I_add, I_istore 1, I_iload 3, I_istore 2, I_goto 7, I_aload 0, I_iload 2, I_callV 7 1 sp_X7_putSign, I_iinc 2 (1), I_goto 7, I_iload 1, I_aload 0, I_get 7 7, I_add, I_iret]
def pc_X7_fewest : List Nat := [0, 1, 2, 5, 6, 7, 8, 9, 10, 11, 14, 16, 17, 20, 21, 22, 25, 28, 31, 32, 33, 36, 37, 38, 39, 40, 41, 44, 45, 46, 47, 48, 51, 52, 53, 56, 59, 62, 63, 64, 67, 68]
set_option maxRecDepth 100000 in
set_option maxHeartbeats 4000000 in
theorem b_X7_fewest  (M : Mem) (Ret : KR) (hp : vOk (YV M)) (hR : ∀ M2 : Mem, (FXY M M2) → Ret (some (mi (RW (YV M) 0))) M2) (hM : MOk M) (Z : KZ) (hZ : Sim cd_X7_fewest Z Ret) : Z 0 [some (mr 73), none, none, none] [] M := by
  have hvo := hp
  obtain ⟨V, hV⟩ : ∃ V, YV M = V := ⟨_, rfl⟩
  rw [hV] at hvo
  have hR' : ∀ (N : Mem) (x : Int), x = RW V 0 → FXY M N → Ret (some (mi x)) N := fun N x h1 h2 => by
    have q := hR N h2
    rw [hV] at q
    rw [h1]; exact q
  clear hR
  have n0 := hvo.1
  have n120 := hvo.2.1
  have loop : ∀ (d : Nat) (n i : Int) (N : Mem), d = (vN V - i).toNat → 0 ≤ i → i ≤ vN V → 0 ≤ n → n ≤ 243 * i → 0 ≤ N 73 7 → N 73 7 ≤ 2 * i → FXY M N → n + N 73 7 + RW V i = RW V 0 → Hid (isLt (vS V i) → ¬ isLt (vS V (i - 1))) → Z 7 [some (mr 73), some (mi n), some (mi i), none] [] N := by
    intro d
    induction d using Nat.strongRecOn with
    | ind d ih =>
      intro n i N hd i0 i1 m0 m1 c0 c1 hF hE hB
      have eN : YV N = V := by unfold YV at hV ⊢; rw [hF.1 74 (by omega) (by omega) (by omega)]; exact hV
      have hvN : vOk (YV N) := by rw [eN]; exact hvo
      have hbN := hvN.yb
      refine w_iload hZ 7 8 rfl rfl rfl ?_
      refine w_aload hZ 8 9 rfl rfl rfl ?_
      refine w_getr hZ 9 10 rfl rfl rfl rfl rfl ?_
      refine w_const hZ 10 11 rfl rfl  ?_
      refine w_ialdv hZ 11 12 rfl rfl rfl (by omega) (by omega) (v := vN V) ((Y_r eN).2.2.2) ?_
      refine w_cge hZ 12 13 rfl rfl (fun c12 => ?_) (fun c12 => ?_)
      · refine w_iload hZ 37 38 rfl rfl rfl ?_
        refine w_aload hZ 38 39 rfl rfl rfl ?_
        refine w_geti hZ 39 40 rfl rfl rfl rfl rfl ?_
        refine w_add hZ 40 41 rfl rfl (by unfold InR; omega) ?_
        refine w_iret hZ 41 rfl ?_
        have he : i = vN V := by omega
        rw [he, RW_end] at hE
        exact hR' N _ (by omega) hF
      · refine w_aload hZ 13 14 rfl rfl rfl ?_
        refine w_iload hZ 14 15 rfl rfl rfl ?_
        refine k_X7_sign0 hZ 15 16 rfl rfl (Nat.le_of_ble_eq_true rfl) hbN ?_
        rw [eN]
        refine k_X7_isLetter hZ 16 17 rfl rfl (Nat.le_of_ble_eq_true rfl)  ?_
        refine w_ifeq hZ 17 18 rfl rfl (fun c17 => ?_) (fun c17 => ?_)
        · replace c17 := b2i_z.mp c17
          have hrs := RW_sign hvo i0 (by omega) c17
          have hsl := sgE_len V i
          refine w_aload hZ 32 33 rfl rfl rfl ?_
          refine w_iload hZ 33 34 rfl rfl rfl ?_
          refine k_X7_putSign hZ 34 35 rfl rfl (Nat.le_of_ble_eq_true rfl) ⟨hvN, i0, by rw [eN]; omega, by rw [eN]; exact c17, c0, by omega⟩ (fun M34 p34 => ?_)
          refine w_in4_2 hZ 35 36 rfl rfl rfl (by unfold InR; omega) ?_
          refine w_goto hZ 36 7 rfl ?_
          rw [eN] at p34
          have e7 := p34.1
          refine ih (vN V - (i + 1)).toNat (by omega) n (i + 1) M34 rfl (by omega) (by omega) (by omega) (by omega) (by omega) (by omega) ⟨fun k k1 k2 k3 => by rw [p34.2.2.2.2 k k1 k2]; exact hF.1 k k1 k2 k3, fun f hf => by rw [p34.2.2.2.1 f hf]; exact hF.2 f hf⟩ (by omega) (fun _ z => c17 (by rwa [show i + 1 - 1 = i by omega] at z))
        · replace c17 := b2i_e.mp c17
          have hwg := we_gt hvo (i := i) (by omega) c17
          have hws := we_spec (n := vN V) (S := vS V) (i := i) (by omega) hvo.nl
          have hrw := RW_word hvo i0 (by omega) c17 (hB.u c17)
          have hfl := fw_le V (-1) i (we (vN V) (vS V) i) (alC V i (we (vN V) (vS V) i)) _ i rfl
          have hhl := hdE_len V i (we (vN V) (vS V) i)
          have hh3 : (hdE V i (we (vN V) (vS V) i)).length ≤ 3 := by
            have := b2i_01 (wnt V i)
            have : (if alC V i (we (vN V) (vS V) i) = true then (2 : Int) else 0) ≤ 2 := by split <;> omega
            omega
          replace hhl : True := trivial
          refine w_aload hZ 18 19 rfl rfl rfl ?_
          refine w_iload hZ 19 20 rfl rfl rfl ?_
          refine k_X7_wordTo hZ 20 21 rfl rfl (Nat.le_of_ble_eq_true rfl) ⟨hvN, i0, by rw [eN]; omega⟩ ?_
          rw [eN]
          refine w_st4_3 hZ 21 22 rfl rfl rfl ?_
          refine w_iload hZ 22 23 rfl rfl rfl ?_
          refine w_aload hZ 23 24 rfl rfl rfl ?_
          refine w_iload hZ 24 25 rfl rfl rfl ?_
          refine w_iload hZ 25 26 rfl rfl rfl ?_
          refine k_X7_fewestOf hZ 26 27 rfl rfl (Nat.le_of_ble_eq_true rfl) ⟨hvN, i0, hwg.1, by rw [eN]; exact hwg.2, by rw [eN]; exact hws.2.2.1⟩ (fun M26 p26 => ?_)
          rw [eN]
          refine w_add hZ 27 28 rfl rfl (by unfold InR; omega) ?_
          refine w_st4_1 hZ 28 29 rfl rfl rfl ?_
          refine w_iload hZ 29 30 rfl rfl rfl ?_
          refine w_st4_2 hZ 30 31 rfl rfl rfl ?_
          refine w_goto hZ 31 7 rfl ?_
          refine w_fg4_3 hZ ?_
          have e7 : M26 73 7 = N 73 7 := by rw [p26 73 (by omega)]
          refine ih (vN V - we (vN V) (vS V) i).toNat (by omega) _ _ M26 rfl (by omega) (by omega) (by omega) (by omega) (by omega) (by omega) ⟨fun k k1 k2 k3 => by rw [p26 k k3]; exact hF.1 k k1 k2 k3, fun f hf => by rw [p26 73 (by omega)]; exact hF.2 f hf⟩ (by rw [e7]; omega) (fun z => absurd z hws.2.2.2)
  refine w_aload hZ 0 1 rfl rfl rfl ?_
  refine w_const hZ 1 2 rfl rfl  ?_
  refine w_puti hZ 2 3 rfl rfl rfl rfl rfl ?_
  refine w_const hZ 3 4 rfl rfl  ?_
  refine w_st4_1 hZ 4 5 rfl rfl rfl ?_
  refine w_const hZ 5 6 rfl rfl  ?_
  refine w_st4_2 hZ 6 7 rfl rfl rfl ?_
  refine loop _ 0 0 _ rfl (Int.le_refl _) n0 (by omega) (by omega) (by simp [mup_at]) (by simp [mup_at]) ⟨fun o o1 _ _ => by funext q; simp [mup_at, o1], fun f hf => by simp [mup_at, hf]⟩ (by simp [mup_at]) (fun _ z => ?_)
  rw [hvo.2.2.2.2.2.1 (0 - 1) (Or.inl (by omega))] at z
  exact isLt_m1 z
set_option maxRecDepth 100000 in
set_option maxHeartbeats 4000000 in
theorem ao_X7_fewest : AllOk yX7_fewest.cls cX7_fewest 4 5 118 (some .int) none pc_X7_fewest 0 cd_X7_fewest := ⟨s_aload_n (k := 0) (by decide +kernel) rfl rfl, ⟨s_iconst (by decide +kernel) rfl ⟨by decide, by decide⟩, ⟨s_puti (C := RX7) (T := TX7) (N := 22) (tyf := tyX7) rfl inT7 tyX7_ok nmX7 (by decide) rfl rfl tw_3_166 (by decide +kernel) rfl, ⟨s_iconst (by decide +kernel) rfl ⟨by decide, by decide⟩, ⟨s_istore_n (k := 1) (by decide +kernel) rfl rfl, ⟨s_iconst (by decide +kernel) rfl ⟨by decide, by decide⟩, ⟨s_istore_n (k := 2) (by decide +kernel) rfl rfl, ⟨s_iload_n (k := 2) (by decide +kernel) rfl rfl, ⟨s_aload_n (k := 0) (by decide +kernel) rfl rfl, ⟨s_get (C := RX7) (T := TX7) (N := 22) rfl inT7 (by decide) tw_3_159 (by decide +kernel) rfl, ⟨s_bipush (by decide +kernel) rfl ⟨by decide, by decide⟩ (by decide +kernel), ⟨s_iald (by decide +kernel) rfl, ⟨s_cge (off := (45)) (by decide +kernel) rfl rfl, ⟨s_aload_n (k := 0) (by decide +kernel) rfl rfl, ⟨s_iload_n (k := 2) (by decide +kernel) rfl rfl, ⟨s_callV (C := RX7) (T := TX7) (N := 22) rfl ct_X7_sign0 (by decide) (by decide) ⟨rfl, by decide +kernel, by decide +kernel, by decide +kernel⟩ tw_4_90 tw_4_92 ts_3_9 tw_1_8 tw_4_93 (by decide +kernel) rfl, ⟨s_callS ct_X7_isLetter (by decide) (by decide) ⟨by decide +kernel, by decide +kernel, by decide +kernel⟩ tw_4_56 tw_4_57 tw_1_8 tw_4_58 (by decide +kernel) rfl, ⟨s_ifeq (off := (23)) (by decide +kernel) rfl rfl, ⟨s_aload_n (k := 0) (by decide +kernel) rfl rfl, ⟨s_iload_n (k := 2) (by decide +kernel) rfl rfl, ⟨s_callV (C := RX7) (T := TX7) (N := 22) rfl ct_X7_wordTo (by decide) (by decide) ⟨rfl, by decide +kernel, by decide +kernel, by decide +kernel⟩ tw_4_106 tw_4_108 ts_3_13 tw_1_8 tw_4_109 (by decide +kernel) rfl, ⟨s_istore_n (k := 3) (by decide +kernel) rfl rfl, ⟨s_iload_n (k := 1) (by decide +kernel) rfl rfl, ⟨s_aload_n (k := 0) (by decide +kernel) rfl rfl, ⟨s_iload_n (k := 2) (by decide +kernel) rfl rfl, ⟨s_iload_n (k := 3) (by decide +kernel) rfl rfl, ⟨s_callV (C := RX7) (T := TX7) (N := 22) rfl ct_X7_fewestOf (by decide) (by decide) ⟨rfl, by decide +kernel, by decide +kernel, by decide +kernel⟩ tw_4_154 tw_4_156 ts_4_8 tw_1_8 tw_4_157 (by decide +kernel) rfl, ⟨s_add (by decide +kernel) rfl, ⟨s_istore_n (k := 1) (by decide +kernel) rfl rfl, ⟨s_iload_n (k := 3) (by decide +kernel) rfl rfl, ⟨s_istore_n (k := 2) (by decide +kernel) rfl rfl, ⟨s_goto (off := (-39)) (by decide +kernel) rfl, ⟨s_aload_n (k := 0) (by decide +kernel) rfl rfl, ⟨s_iload_n (k := 2) (by decide +kernel) rfl rfl, ⟨s_callV (C := RX7) (T := TX7) (N := 22) rfl ct_X7_putSign (by decide) (by decide) ⟨rfl, by decide +kernel, by decide +kernel, by decide +kernel⟩ tw_4_142 tw_4_144 ts_4_5 tw_1_8 tw_4_145 (by decide +kernel) rfl, ⟨s_iinc (by decide +kernel) rfl, ⟨s_goto (off := (-50)) (by decide +kernel) rfl, ⟨s_iload_n (k := 1) (by decide +kernel) rfl rfl, ⟨s_aload_n (k := 0) (by decide +kernel) rfl rfl, ⟨s_get (C := RX7) (T := TX7) (N := 22) rfl inT7 (by decide) tw_3_166 (by decide +kernel) rfl, ⟨s_add (by decide +kernel) rfl, ⟨s_iret rfl (by decide +kernel), trivial⟩⟩⟩⟩⟩⟩⟩⟩⟩⟩⟩⟩⟩⟩⟩⟩⟩⟩⟩⟩⟩⟩⟩⟩⟩⟩⟩⟩⟩⟩⟩⟩⟩⟩⟩⟩⟩⟩⟩⟩⟩⟩
theorem ct_X7_fewest : Ctr yX7_fewest cX7_fewest 4 (some .int) 5 118 sp_X7_fewest := by
  refine ctr_of (by decide +kernel) ao_X7_fewest rfl ?_
  rintro av M Ret ⟨rfl, hp, hR⟩ hok hM
  exact ⟨Nat.le_of_ble_eq_true rfl, fun Z hZ => b_X7_fewest   M Ret hp hR hM Z hZ⟩
/-- what stands at a place of a line; -1: nothing, or no place -/
def fnd (s : LST) (l p : Int) : Int := if 0 ≤ l ∧ 0 ≤ p then lyAt s l.toNat p.toNat else -1
theorem lyAt_add (A : List (List Int)) (L : List Int) (c : Int) (l p : Nat) : lyAt (some (A, L ++ [c])) l p = if l = A.length ∧ p = L.length then c else lyAt (some (A, L)) l p := by
  show (((A ++ [L ++ [c]])[l]?).getD []).getD p (-1) = if l = A.length ∧ p = L.length then c else (((A ++ [L])[l]?).getD []).getD p (-1)
  by_cases q : l < A.length
  · rw [List.getElem?_append_left q, List.getElem?_append_left q, if_neg (by omega)]
  · rw [List.getElem?_append_right (by omega), List.getElem?_append_right (by omega)]
    by_cases q2 : l = A.length
    · rw [show l - A.length = 0 by omega]
      show (L ++ [c]).getD p (-1) = if l = A.length ∧ p = L.length then c else L.getD p (-1)
      rw [List.getD_eq_getElem?_getD, List.getD_eq_getElem?_getD]
      by_cases q3 : p < L.length
      · rw [List.getElem?_append_left q3, if_neg (by omega)]
      · rw [List.getElem?_append_right (by omega)]
        by_cases q4 : p = L.length
        · rw [if_pos ⟨q2, q4⟩, show p - L.length = 0 by omega]; rfl
        · rw [if_neg (fun z => q4 z.2), List.getElem?_eq_none (by simp; omega), List.getElem?_eq_none (by omega)]
    · rw [if_neg (fun z => q2 z.1), List.getElem?_eq_none (by simp; omega), List.getElem?_eq_none (by simp; omega)]
theorem lyAt_new (A : List (List Int)) (L : List Int) (l p : Nat) : lyAt (some (A ++ [L], [])) l p = lyAt (some (A, L)) l p := by
  show (((A ++ [L] ++ [[]])[l]?).getD []).getD p (-1) = (((A ++ [L])[l]?).getD []).getD p (-1)
  by_cases q : l < (A ++ [L]).length
  · rw [List.getElem?_append_left q]
  · rw [List.getElem?_append_right (by omega), List.getElem?_eq_none (l := A ++ [L]) (by omega)]
    by_cases q2 : l - (A ++ [L]).length = 0
    · rw [q2]; rfl
    · rw [List.getElem?_eq_none (by simp; simp at q2; omega)]
theorem fnd_add (A : List (List Int)) (L : List Int) (c l p : Int) : fnd (some (A, L ++ [c])) l p = if (A.length : Int) = l ∧ (L.length : Int) = p then c else fnd (some (A, L)) l p := by
  unfold fnd
  rw [lyAt_add]
  by_cases q : 0 ≤ l ∧ 0 ≤ p
  · rw [if_pos q, if_pos q]
    by_cases z : (A.length : Int) = l ∧ (L.length : Int) = p
    · rw [if_pos z, if_pos (by omega)]
    · rw [if_neg z, if_neg (by omega)]
  · rw [if_neg q, if_neg q, if_neg (by omega)]
theorem fnd_new (A : List (List Int)) (L : List Int) (l p : Int) : fnd (some (A ++ [L], [])) l p = fnd (some (A, L)) l p := by unfold fnd; rw [lyAt_new]
theorem fnd_0 (l p : Int) : fnd (some ([], [])) l p = -1 := by
  unfold fnd
  split
  · show ((([[]] : List (List Int))[l.toNat]?).getD []).getD p.toNat (-1) = -1
    cases l.toNat with
    | zero => rfl
    | succ n => rfl
  · rfl
/-- where the reference stands: the line, how many cells are on it -/
def LQ (s : LST) (nw us : Int) : Prop := match s with
  | none => nw = 0 ∧ us = 0
  | some q => nw = q.1.length ∧ us = q.2.length ∧ 0 < us
def YL (M N : Mem) : Prop := (∀ k, ¬ k = 73 → ¬ k = 78 → ¬ k = 79 → ¬ k = 80 → N k = M k) ∧ N 73 2 = M 73 2 ∧ N 73 16 = M 73 16
def FD (P N : Mem) : Prop := (∀ o, ¬ o = 73 → N o = P o) ∧ ∀ f, ¬ f = 11 → ¬ f = 14 → N 73 f = P 73 f
theorem FD.put {P N : Mem} (h : FD P N) (z : Int) : FD P (mup N 73 14 z) := ⟨fun o ho => by rw [← h.1 o ho]; funext q; simp [mup_at, ho], fun f h1 h2 => by rw [← h.2 f h1 h2]; simp [mup_at, h2]⟩
def sp_X7_layCell : SP := fun av M Ret => ∃ ln : Int, ∃ pl : Int, ∃ c : Int, av = [mr 73, mi ln, mi pl, mi c] ∧ (∀ M2 : Mem, (M2 = mup M 73 14 (if ln = M 73 12 ∧ pl = M 73 13 then c else M 73 14)) → Ret none M2)
theorem k_X7_layCell {code : List Sem} {Z : KZ} {Ret : KR} {ls : List (Option MV)} {M : Mem} {r : List MV} (hZ : Sim code Z Ret) (ip np : Nat) {ln pl c : Int} (hc : code[ip]? = some (I_callV 7 3 sp_X7_layCell)) (hn : ip + 1 = np) (h3 : catS r ≤ 8)   (kz : ∀ M2 : Mem, (M2 = mup M 73 14 (if ln = M 73 12 ∧ pl = M 73 13 then c else M 73 14)) → Z np ls r M2) : Z ip ls (mi c :: mi pl :: mi ln :: mr 73 :: r) M := w_callV3 hZ ip np hc hn rfl rfl h3 ⟨_, _, _, rfl, fun M2 h => kz M2 h⟩
def cd_X7_layCell : List Sem := [I_aload 0, I_iload 1, I_aload 0, I_get 7 12, I_cne 11, I_iload 2, I_aload 0, I_get 7 13, I_cne 11, I_iload 3, I_goto 13, I_aload 0, I_get 7 14, I_puti 7 14, I_vret]
def pc_X7_layCell : List Nat := [0, 1, 2, 3, 6, 9, 10, 11, 14, 17, 18, 21, 22, 25, 28]
set_option maxRecDepth 100000 in
set_option maxHeartbeats 4000000 in
theorem b_X7_layCell (ln : Int) (i_ln : InR ln) (pl : Int) (i_pl : InR pl) (c : Int) (i_c : InR c) (M : Mem) (Ret : KR)  (hR : ∀ M2 : Mem, (M2 = mup M 73 14 (if ln = M 73 12 ∧ pl = M 73 13 then c else M 73 14)) → Ret none M2) (hM : MOk M) (Z : KZ) (hZ : Sim cd_X7_layCell Z Ret) : Z 0 [some (mr 73), some (mi ln), some (mi pl), some (mi c)] [] M := by
  refine w_aload hZ 0 1 rfl rfl rfl ?_
  refine w_iload hZ 1 2 rfl rfl rfl ?_
  refine w_aload hZ 2 3 rfl rfl rfl ?_
  refine w_geti hZ 3 4 rfl rfl rfl rfl rfl ?_
  refine w_cne hZ 4 5 rfl rfl (fun c4 => ?_) (fun c4 => ?_)
  · refine w_aload hZ 11 12 rfl rfl rfl ?_
    refine w_geti hZ 12 13 rfl rfl rfl rfl rfl ?_
    refine w_puti hZ 13 14 rfl rfl rfl rfl rfl ?_
    refine w_vret hZ 14 rfl ?_
    refine hR _ ?_
    first
      | exact congrArg (mup M 73 14) (if_pos ⟨c4, c8⟩).symm
      | exact congrArg (mup M 73 14) (if_neg (fun z => c4 z.1)).symm
      | exact congrArg (mup M 73 14) (if_neg (fun z => c8 z.2)).symm
  · refine w_iload hZ 5 6 rfl rfl rfl ?_
    refine w_aload hZ 6 7 rfl rfl rfl ?_
    refine w_geti hZ 7 8 rfl rfl rfl rfl rfl ?_
    refine w_cne hZ 8 9 rfl rfl (fun c8 => ?_) (fun c8 => ?_)
    · refine w_aload hZ 11 12 rfl rfl rfl ?_
      refine w_geti hZ 12 13 rfl rfl rfl rfl rfl ?_
      refine w_puti hZ 13 14 rfl rfl rfl rfl rfl ?_
      refine w_vret hZ 14 rfl ?_
      refine hR _ ?_
      first
        | exact congrArg (mup M 73 14) (if_pos ⟨c4, c8⟩).symm
        | exact congrArg (mup M 73 14) (if_neg (fun z => c4 z.1)).symm
        | exact congrArg (mup M 73 14) (if_neg (fun z => c8 z.2)).symm
    · refine w_iload hZ 9 10 rfl rfl rfl ?_
      refine w_goto hZ 10 13 rfl ?_
      refine w_puti hZ 13 14 rfl rfl rfl rfl rfl ?_
      refine w_vret hZ 14 rfl ?_
      refine hR _ ?_
      first
        | exact congrArg (mup M 73 14) (if_pos ⟨c4, c8⟩).symm
        | exact congrArg (mup M 73 14) (if_neg (fun z => c4 z.1)).symm
        | exact congrArg (mup M 73 14) (if_neg (fun z => c8 z.2)).symm
set_option maxRecDepth 100000 in
set_option maxHeartbeats 4000000 in
theorem ao_X7_layCell : AllOk yX7_layCell.cls cX7_layCell 4 0 0 none none pc_X7_layCell 0 cd_X7_layCell := ⟨s_aload_n (k := 0) (by decide +kernel) rfl rfl, ⟨s_iload_n (k := 1) (by decide +kernel) rfl rfl, ⟨s_aload_n (k := 0) (by decide +kernel) rfl rfl, ⟨s_get (C := RX7) (T := TX7) (N := 22) rfl inT7 (by decide) tw_3_171 (by decide +kernel) rfl, ⟨s_cne (off := (15)) (by decide +kernel) rfl rfl, ⟨s_iload_n (k := 2) (by decide +kernel) rfl rfl, ⟨s_aload_n (k := 0) (by decide +kernel) rfl rfl, ⟨s_get (C := RX7) (T := TX7) (N := 22) rfl inT7 (by decide) tw_3_172 (by decide +kernel) rfl, ⟨s_cne (off := (7)) (by decide +kernel) rfl rfl, ⟨s_iload_n (k := 3) (by decide +kernel) rfl rfl, ⟨s_goto (off := (7)) (by decide +kernel) rfl, ⟨s_aload_n (k := 0) (by decide +kernel) rfl rfl, ⟨s_get (C := RX7) (T := TX7) (N := 22) rfl inT7 (by decide) tw_3_173 (by decide +kernel) rfl, ⟨s_puti (C := RX7) (T := TX7) (N := 22) (tyf := tyX7) rfl inT7 tyX7_ok nmX7 (by decide) rfl rfl tw_3_173 (by decide +kernel) rfl, ⟨s_vret rfl (by decide +kernel), trivial⟩⟩⟩⟩⟩⟩⟩⟩⟩⟩⟩⟩⟩⟩⟩
theorem ct_X7_layCell : Ctr yX7_layCell cX7_layCell 4 none 0 0 sp_X7_layCell := by
  refine ctr_of (by decide +kernel) ao_X7_layCell rfl ?_
  rintro av M Ret ⟨ln, pl, c, rfl, hR⟩ hok hM
  exact ⟨Nat.le_of_ble_eq_true rfl, fun Z hZ => b_X7_layCell  ln (hok _ (List.mem_of_getElem? (i := 1) rfl)) pl (hok _ (List.mem_of_getElem? (i := 2) rfl)) c (hok _ (List.mem_of_getElem? (i := 3) rfl)) M Ret  hR hM Z hZ⟩
def sp_X7_layLines : SP := fun av M Ret => ∃ l : Int, ∃ p : Int, av = [mr 73, mi l, mi p] ∧ (vOk (YV M)) ∧ (∀ M2 : Mem, (M2 73 11 = lyN (lyS (YV M)) ∧ (0 ≤ l → 0 ≤ p → M2 73 14 = lyAt (lyS (YV M)) l.toNat p.toNat) ∧ YL M M2 ∧ 0 ≤ lyN (lyS (YV M)) ∧ lyN (lyS (YV M)) ≤ 1000) → Ret none M2)
theorem k_X7_layLines {code : List Sem} {Z : KZ} {Ret : KR} {ls : List (Option MV)} {M : Mem} {r : List MV} (hZ : Sim code Z Ret) (ip np : Nat) {l p : Int} (hc : code[ip]? = some (I_callV 7 2 sp_X7_layLines)) (hn : ip + 1 = np) (h3 : catS r ≤ 8)  (hp : vOk (YV M)) (kz : ∀ M2 : Mem, (M2 73 11 = lyN (lyS (YV M)) ∧ (0 ≤ l → 0 ≤ p → M2 73 14 = lyAt (lyS (YV M)) l.toNat p.toNat) ∧ YL M M2 ∧ 0 ≤ lyN (lyS (YV M)) ∧ lyN (lyS (YV M)) ≤ 1000) → Z np ls r M2) : Z ip ls (mi p :: mi l :: mr 73 :: r) M := w_callV2 hZ ip np hc hn rfl rfl h3 ⟨_, _, rfl, hp, fun M2 h => kz M2 h⟩
def cd_X7_layLines : List Sem := [I_aload 0, I_const (-1), I_callV 7 1 sp_X7_putAll, I_aload 0, I_iload 1, I_puti 7 12, I_aload 0, I_iload 2, I_puti 7 13, I_aload 0, I_const (-1), I_puti 7 14, I_const (0), I_istore 3, I_const (0), I_istore 4, I_const (0), I_istore 5, I_iload 5, I_aload 0, I_get 7 7, I_cge 102, I_iload 5, I_istore 6, I_iload 6, I_aload 0, I_get 7 7, I_cge 35, I_aload 0, I_get 7 6, I_iload 6, I_iald, I_ifeq 35, I_iinc 6 (1), I_goto 24, I_iload 6, I_iload 5, I_sub, I_istore 7, I_iload 7, I_ifle 62, I_iload 4, I_ifle 62, I_iload 7, I_aload 0, I_get 7 0, I_const (37), I_iald, I_cgt 59, I_iload 4, I_const (1), I_add, I_iload 7, I_add, I_aload 0, I_get 7 0, I_const (37), I_iald, I_cle 62, I_iinc 3 (1), I_const (0), I_istore 4, I_iload 7, I_ifle 72, I_iload 4, I_ifle 72, I_aload 0, I_iload 3, I_iload 4, I_const (0), I_callV 7 3 sp_X7_layCell, I_iinc 4 (1), I_iload 5, I_istore 8, I_iload 8, I_iload 6, I_cge 97, I_iload 4, I_aload 0, I_get 7 0, I_const (37), I_iald, I_cne 86, I_iinc 3 (1), I_const (0), I_istore 4, I_aload 0, I_iload 3, I_iload 4, I_aload 0, I_get 7 6, I_iload 8, I_iald, I_callV 7 3 sp_X7_layCell, I_iinc 4 (1), I_iinc 8 (1), I_goto 74, I_iload 6, I_const (1), I_add, I_istore 5, I_goto 18, I_aload 0, I_iload 4, I_ifle 109, I_iload 3, I_const (1), I_add, I_goto 110, I_const (0), I_puti 7 11, I_vret]
def pc_X7_layLines : List Nat := [0, 1, 2, 5, 6, 7, 10, 11, 12, 15, 16, 17, 20, 21, 22, 23, 25, 26, 28, 30, 31, 34, 37, 39, 41, 43, 44, 47, 50, 51, 54, 56, 57, 60, 63, 66, 68, 70, 71, 73, 75, 78, 80, 83, 85, 86, 89, 91, 92, 95, 97, 98, 99, 101, 102, 103, 106, 108, 109, 112, 115, 116, 118, 120, 123, 125, 128, 129, 130, 132, 133, 136, 139, 141, 143, 145, 147, 150, 152, 153, 156, 158, 159, 162, 165, 166, 168, 169, 170, 172, 173, 176, 178, 179, 182, 185, 188, 191, 193, 194, 195, 197, 200, 201, 203, 206, 207, 208, 209, 212, 213, 216]
set_option maxRecDepth 100000 in
set_option maxHeartbeats 4000000 in
theorem b_X7_layLines (l : Int) (i_l : InR l) (p : Int) (i_p : InR p) (M : Mem) (Ret : KR) (hp : vOk (YV M)) (hR : ∀ M2 : Mem, (M2 73 11 = lyN (lyS (YV M)) ∧ (0 ≤ l → 0 ≤ p → M2 73 14 = lyAt (lyS (YV M)) l.toNat p.toNat) ∧ YL M M2 ∧ 0 ≤ lyN (lyS (YV M)) ∧ lyN (lyS (YV M)) ≤ 1000) → Ret none M2) (hM : MOk M) (Z : KZ) (hZ : Sim cd_X7_layLines Z Ret) : Z 0 [some (mr 73), some (mi l), some (mi p), none, none, none, none, none, none] [] M := by
  have hvo := hp
  have h240 : (evN (YV M) (-1)).length ≤ 240 := aEv_240 hp (-1) (Int.le_refl 0)
  obtain ⟨V, hV⟩ : ∃ V, YV M = V := ⟨_, rfl⟩
  have hW : 4 ≤ vW (YV M) ∧ vW (YV M) ≤ 40 := ⟨hvo.2.2.2.2.2.2.2.2.2.1, hvo.2.2.2.2.2.2.2.2.2.2.1⟩
  rw [hV] at hvo h240 hW
  obtain ⟨F, hFe⟩ : ∃ F, evF (evN V (-1)) = F := ⟨_, rfl⟩
  obtain ⟨m, hm⟩ : ∃ m : Int, ((evN V (-1)).length : Int) = m := ⟨_, rfl⟩
  have hS : lyS V = ly (vW V) F m 0 none := by unfold lyS; rw [hFe, hm]
  obtain ⟨w, hw⟩ : ∃ w, vW V = w := ⟨_, rfl⟩
  rw [hw] at hS hW
  have main : ∀ P : Mem, FW M P → WY (evN V (-1)) P → ∀ Q : Mem, (∀ o, ¬ o = 73 → Q o = P o) → (∀ f, ¬ f = 12 → ¬ f = 13 → ¬ f = 14 → Q 73 f = P 73 f) → Q 73 12 = l → Q 73 13 = p → ∀ (d : Nat) (i nw us : Int) (s : LST) (N : Mem), d = (m + 1 - i).toNat → 0 ≤ i → i ≤ m + 1 → LQ s nw us → us ≤ w → 0 ≤ nw → nw ≤ 2 * i → FD Q N → N 73 14 = fnd s l p → Hid (ly w F m i s = lyS V) → Z 18 [some (mr 73), some (mi l), some (mi p), some (mi nw), some (mi us), some (mi i), none, none, none] [] N := by
    intro P hPF hPW Q q1 q2 q12 q13 d
    have hcell : ∀ j : Int, 0 ≤ j → j < m → Q 78 j.toNat = F j := fun j j0 j1 => by
      rw [q1 78 (by omega), ← hFe, ← hPW.sg, sgn_in j0 (by rw [hm]; exact j1)]
    have h7 : Q 73 7 = m := by rw [q2 7 (by omega) (by omega) (by omega), hPW.1, hm]
    have h37 : Q 74 37 = w := by rw [q1 74 (by omega), hPF.1 74 (by omega) (by omega) (by omega) (by omega), (Y_r hV).2.1, hw]
    have hmb : 0 ≤ m ∧ m ≤ 240 := by omega
    induction d using Nat.strongRecOn with
    | ind d ih =>
      intro i nw us s N hd i0 i1 hL u1 nw0 nw1 hF hfd hE
      have fin97 : i ≤ m → ∀ (b nw2 us2 x7 x8 : Int) (s2 : LST) (N2 : Mem), i ≤ b → b ≤ m → LQ s2 nw2 us2 → us2 ≤ w → 0 ≤ nw2 → nw2 ≤ 2 * b + 2 → FD Q N2 → N2 73 14 = fnd s2 l p → ly w F m (b + 1) s2 = lyS V → Z 97 [some (mr 73), some (mi l), some (mi p), some (mi nw2), some (mi us2), some (mi i), some (mi b), some (mi x7), some (mi x8)] [] N2 := by
        intro him b nw2 us2 x7 x8 s2 N2 b0 b1 g1 g2 g3 g4 g5 g6 g7
        refine w_iload hZ 97 98 rfl rfl rfl ?_
        refine w_const hZ 98 99 rfl rfl ?_
        refine w_add hZ 99 100 rfl rfl (by unfold InR; omega) ?_
        refine w_st9_5 hZ 100 101 rfl rfl rfl ?_
        refine w_goto hZ 101 18 rfl ?_
        refine w_fg9_6 hZ ?_
        refine w_fg9_7 hZ ?_
        refine w_fg9_8 hZ ?_
        exact ih (m + 1 - (b + 1)).toNat (by omega) (b + 1) nw2 us2 s2 N2 rfl (by omega) (by omega) g1 g2 g3 (by omega) g5 g6 g7
      have kloop : i ≤ m → ∀ b : Int, i < b → b ≤ m → ∀ s2 : LST, ly w F m (b + 1) s2 = lyS V → ∀ (d2 : Nat) (k nw2 us2 x7 : Int) (A : List (List Int)) (L : List Int) (N2 : Mem), d2 = (b - k).toNat → i ≤ k → k ≤ b → nw2 = A.length → us2 = L.length → us2 ≤ w → nw2 ≤ 2 * k + 1 → FD Q N2 → N2 73 14 = fnd (some (A, L)) l p → (k < b ∨ 0 < us2) → Hid (some (lyR w F (b - k).toNat k (A, L)) = s2) → Z 74 [some (mr 73), some (mi l), some (mi p), some (mi nw2), some (mi us2), some (mi i), some (mi b), some (mi x7), some (mi k)] [] N2 := by
        intro him b b0 b1 s2 hs2 d2
        replace hs2 : Hid (ly w F m (b + 1) s2 = lyS V) := hs2
        induction d2 using Nat.strongRecOn with
        | ind d2 ih2 =>
          intro k nw2 us2 x7 A L N2 hd2 k0 k1 hA hL2 hu hn hF2 hf2 hne hR2
          have n37 : N2 74 37 = w := by rw [hF2.1 74 (by omega)]; exact h37
          have n78 : k < b → N2 78 k.toNat = F k := fun hk => by rw [hF2.1 78 (by omega)]; exact hcell k (by omega) (by omega)
          have n12 : N2 73 12 = l := by rw [hF2.2 12 (by omega) (by omega)]; exact q12
          have n13 : N2 73 13 = p := by rw [hF2.2 13 (by omega) (by omega)]; exact q13
          have hst : k < b → lyR w F (b - k).toNat k (A, L) = lyR w F (b - (k + 1)).toNat (k + 1) (lyC w A L (F k)) := fun hk => by
            rw [show (b - k).toNat = (b - (k + 1)).toNat + 1 by omega]; rfl
          replace hst : k < b → Hid (lyR w F (b - k).toNat k (A, L) = lyR w F (b - (k + 1)).toNat (k + 1) (lyC w A L (F k))) := hst
          refine w_iload hZ 74 75 rfl rfl rfl ?_
          refine w_iload hZ 75 76 rfl rfl rfl ?_
          refine w_cge hZ 76 77 rfl rfl (fun c76 => ?_) (fun c76 => ?_)
          · have hR3 := hR2.u
            rw [show (b - k).toNat = 0 by omega] at hR3
            refine fin97 him b nw2 us2 _ _ (some (A, L)) N2 (by omega) b1 ⟨hA, hL2, by omega⟩ hu (by omega) (by omega) hF2 hf2 ?_
            have e : some (A, L) = s2 := hR3
            rw [e]; exact hs2.u
          · refine w_iload hZ 77 78 rfl rfl rfl ?_
            refine w_aload hZ 78 79 rfl rfl rfl ?_
            refine w_getr hZ 79 80 rfl rfl rfl rfl rfl ?_
            refine w_const hZ 80 81 rfl rfl  ?_
            refine w_ialdv hZ 81 82 rfl rfl rfl (by omega) (by omega) (v := w) n37 ?_
            refine w_cne hZ 82 83 rfl rfl (fun c82 => ?_) (fun c82 => ?_)
            · refine w_aload hZ 86 87 rfl rfl rfl ?_
              refine w_iload hZ 87 88 rfl rfl rfl ?_
              refine w_iload hZ 88 89 rfl rfl rfl ?_
              refine w_aload hZ 89 90 rfl rfl rfl ?_
              refine w_getr hZ 90 91 rfl rfl rfl rfl rfl ?_
              refine w_iload hZ 91 92 rfl rfl rfl ?_
              refine w_ialdv hZ 92 93 rfl rfl rfl (by omega) (by omega) (v := F k) (n78 (by omega)) ?_
              refine k_X7_layCell hZ 93 94 rfl rfl (Nat.le_of_ble_eq_true rfl)  (fun M93 p93 => ?_)
              refine w_in9_4 hZ 94 95 rfl rfl rfl (by unfold InR; omega) ?_
              refine w_in9_8 hZ 95 96 rfl rfl rfl (by unfold InR; omega) ?_
              refine w_goto hZ 96 74 rfl ?_
              first
                | (refine ih2 (b - (k + 1)).toNat (by omega) (k + 1) _ _ x7 A (L ++ [F k]) _ rfl (by omega) (by omega) hA (by rw [hL2]; simp) (by omega) (by omega) (by rw [p93]; exact hF2.put _) ?_ (Or.inr (by omega)) ?_
                   · rw [p93, mup_at, if_pos ⟨rfl, rfl⟩, fnd_add, n12, n13, hf2, hA, hL2]
                   · unfold Hid
                     rw [← hR2.u, (hst (by omega)).u]
                     unfold lyC
                     rw [if_neg (by omega)])
                | (refine ih2 (b - (k + 1)).toNat (by omega) (k + 1) _ _ x7 (A ++ [L]) ([] ++ [F k]) _ rfl (by omega) (by omega) (by rw [hA]; simp) rfl (by omega) (by omega) (by rw [p93]; exact hF2.put _) ?_ (Or.inr (by omega)) ?_
                   · rw [p93, mup_at, if_pos ⟨rfl, rfl⟩, fnd_add, n12, n13, hf2, fnd_new, hA]
                     simp
                   · unfold Hid
                     rw [← hR2.u, (hst (by omega)).u]
                     unfold lyC
                     rw [if_pos (by omega)]
                     rfl)
            · refine w_in9_3 hZ 83 84 rfl rfl rfl (by unfold InR; omega) ?_
              refine w_const hZ 84 85 rfl rfl  ?_
              refine w_st9_4 hZ 85 86 rfl rfl rfl ?_
              refine w_aload hZ 86 87 rfl rfl rfl ?_
              refine w_iload hZ 87 88 rfl rfl rfl ?_
              refine w_iload hZ 88 89 rfl rfl rfl ?_
              refine w_aload hZ 89 90 rfl rfl rfl ?_
              refine w_getr hZ 90 91 rfl rfl rfl rfl rfl ?_
              refine w_iload hZ 91 92 rfl rfl rfl ?_
              refine w_ialdv hZ 92 93 rfl rfl rfl (by omega) (by omega) (v := F k) (n78 (by omega)) ?_
              refine k_X7_layCell hZ 93 94 rfl rfl (Nat.le_of_ble_eq_true rfl)  (fun M93 p93 => ?_)
              refine w_in9_4 hZ 94 95 rfl rfl rfl (by unfold InR; omega) ?_
              refine w_in9_8 hZ 95 96 rfl rfl rfl (by unfold InR; omega) ?_
              refine w_goto hZ 96 74 rfl ?_
              first
                | (refine ih2 (b - (k + 1)).toNat (by omega) (k + 1) _ _ x7 A (L ++ [F k]) _ rfl (by omega) (by omega) hA (by rw [hL2]; simp) (by omega) (by omega) (by rw [p93]; exact hF2.put _) ?_ (Or.inr (by omega)) ?_
                   · rw [p93, mup_at, if_pos ⟨rfl, rfl⟩, fnd_add, n12, n13, hf2, hA, hL2]
                   · unfold Hid
                     rw [← hR2.u, (hst (by omega)).u]
                     unfold lyC
                     rw [if_neg (by omega)])
                | (refine ih2 (b - (k + 1)).toNat (by omega) (k + 1) _ _ x7 (A ++ [L]) ([] ++ [F k]) _ rfl (by omega) (by omega) (by rw [hA]; simp) rfl (by omega) (by omega) (by rw [p93]; exact hF2.put _) ?_ (Or.inr (by omega)) ?_
                   · rw [p93, mup_at, if_pos ⟨rfl, rfl⟩, fnd_add, n12, n13, hf2, fnd_new, hA]
                     simp
                   · unfold Hid
                     rw [← hR2.u, (hst (by omega)).u]
                     unfold lyC
                     rw [if_pos (by omega)]
                     rfl)
      have m35 : i < m → ∀ b : Int, i ≤ b → b ≤ m → pe F m i = b → Z 35 [some (mr 73), some (mi l), some (mi p), some (mi nw), some (mi us), some (mi i), some (mi b), none, none] [] N := by
        intro him b b0 b1 hpe
        have n37 : N 74 37 = w := by rw [hF.1 74 (by omega)]; exact h37
        have n12 : N 73 12 = l := by rw [hF.2 12 (by omega) (by omega)]; exact q12
        have n13 : N 73 13 = p := by rw [hF.2 13 (by omega) (by omega)]; exact q13
        have hsp : Hid _ := pe_spec (F := F) (m := m) (i := i) (by omega)
        by_cases hbi : b = i
        · have hz : F i = 0 := by
            have := hsp.u.2.2.2
            rw [hpe, hbi] at this
            exact this him
          have hE2 : ly w F m (b + 1) s = lyS V := by rw [← hE.u, ly_blank him hz, hbi]
          replace hE2 : Hid (ly w F m (b + 1) s = lyS V) := hE2
          refine w_iload hZ 35 36 rfl rfl rfl ?_
          refine w_iload hZ 36 37 rfl rfl rfl ?_
          refine w_sub hZ 37 38 rfl rfl (by unfold InR; omega) ?_
          refine w_st9_7 hZ 38 39 rfl rfl rfl ?_
          refine w_iload hZ 39 40 rfl rfl rfl ?_
          refine w_ifle hZ 40 41 rfl rfl (fun c40 => ?_) (fun c40 => absurd c40 (by omega))
          refine w_iload hZ 62 63 rfl rfl rfl ?_
          refine w_ifle hZ 63 64 rfl rfl (fun c63 => ?_) (fun c63 => absurd c63 (by omega))
          refine w_iload hZ 72 73 rfl rfl rfl ?_
          refine w_st9_8 hZ 73 74 rfl rfl rfl ?_
          refine w_iload hZ 74 75 rfl rfl rfl ?_
          refine w_iload hZ 75 76 rfl rfl rfl ?_
          refine w_cge hZ 76 77 rfl rfl (fun c76 => ?_) (fun c76 => absurd c76 (by omega))
          exact fin97 (by omega) b nw us _ _ s N b0 b1 hL u1 nw0 (by omega) hF hfd hE2.u
        · have hz : ¬ F i = 0 := by
            have := hsp.u.2.2.1 i (Int.le_refl _)
            rw [hpe] at this
            exact this (by omega)
          have hE2 : ly w F m (b + 1) (lyP w F i b s) = lyS V := by
            rw [← hE.u, ly_piece him hz, hpe]
            by_cases hbm : b < m
            · have := hsp.u.2.2.2
              rw [hpe] at this
              rw [ly_blank hbm (this hbm)]
            · rw [ly_end (by omega), ly_end (by omega)]
          replace hE2 : Hid (ly w F m (b + 1) (lyP w F i b s) = lyS V) := hE2
          cases s with
          | none =>
            obtain ⟨rfl, rfl⟩ : nw = 0 ∧ us = 0 := hL
            refine w_iload hZ 35 36 rfl rfl rfl ?_
            refine w_iload hZ 36 37 rfl rfl rfl ?_
            refine w_sub hZ 37 38 rfl rfl (by unfold InR; omega) ?_
            refine w_st9_7 hZ 38 39 rfl rfl rfl ?_
            refine w_iload hZ 39 40 rfl rfl rfl ?_
            refine w_ifle hZ 40 41 rfl rfl (fun c40 => absurd c40 (by omega)) (fun c40 => ?_)
            refine w_iload hZ 41 42 rfl rfl rfl ?_
            refine w_ifle hZ 42 43 rfl rfl (fun c42 => ?_) (fun c42 => absurd c42 (by omega))
            refine w_iload hZ 62 63 rfl rfl rfl ?_
            refine w_ifle hZ 63 64 rfl rfl (fun c63 => absurd c63 (by omega)) (fun c63 => ?_)
            refine w_iload hZ 64 65 rfl rfl rfl ?_
            refine w_ifle hZ 65 66 rfl rfl (fun c65 => ?_) (fun c65 => absurd c65 (by omega))
            refine w_iload hZ 72 73 rfl rfl rfl ?_
            refine w_st9_8 hZ 73 74 rfl rfl rfl ?_
            refine kloop (by omega) b (by omega) b1 _ hE2.u _ i 0 0 _ [] [] N rfl (Int.le_refl _) b0 rfl rfl (by omega) (by omega) hF ?_ (Or.inl (by omega)) rfl
            rw [hfd, fnd_0]
            unfold fnd
            split <;> rfl
          | some q =>
            obtain ⟨A, L⟩ := q
            obtain ⟨hA, hL2, hL3⟩ : nw = A.length ∧ us = L.length ∧ 0 < us := hL
            have hP : ∀ z, ly0 w (b - i) (some (A, L)) = z → Hid (lyP w F i b (some (A, L)) = some (lyR w F (b - i).toNat i z)) := fun z hz => by subst hz; exact rfl
            have hP0 : Hid (ly0 w (b - i) (some (A, L)) = if (L.length : Int) + 1 + (b - i) ≤ w then (A, L ++ [0]) else (A ++ [L], [])) := rfl
            refine w_iload hZ 35 36 rfl rfl rfl ?_
            refine w_iload hZ 36 37 rfl rfl rfl ?_
            refine w_sub hZ 37 38 rfl rfl (by unfold InR; omega) ?_
            refine w_st9_7 hZ 38 39 rfl rfl rfl ?_
            refine w_iload hZ 39 40 rfl rfl rfl ?_
            refine w_ifle hZ 40 41 rfl rfl (fun c40 => absurd c40 (by omega)) (fun c40 => ?_)
            refine w_iload hZ 41 42 rfl rfl rfl ?_
            refine w_ifle hZ 42 43 rfl rfl (fun c42 => absurd c42 (by omega)) (fun c42 => ?_)
            refine w_iload hZ 43 44 rfl rfl rfl ?_
            refine w_aload hZ 44 45 rfl rfl rfl ?_
            refine w_getr hZ 45 46 rfl rfl rfl rfl rfl ?_
            refine w_const hZ 46 47 rfl rfl  ?_
            refine w_ialdv hZ 47 48 rfl rfl rfl (by omega) (by omega) (v := w) n37 ?_
            refine w_cgt hZ 48 49 rfl rfl (fun c48 => ?_) (fun c48 => ?_)
            · refine w_in9_3 hZ 59 60 rfl rfl rfl (by unfold InR; omega) ?_
              refine w_const hZ 60 61 rfl rfl  ?_
              refine w_st9_4 hZ 61 62 rfl rfl rfl ?_
              refine w_iload hZ 62 63 rfl rfl rfl ?_
              refine w_ifle hZ 63 64 rfl rfl (fun c63 => absurd c63 (by omega)) (fun c63 => ?_)
              refine w_iload hZ 64 65 rfl rfl rfl ?_
              refine w_ifle hZ 65 66 rfl rfl (fun c65 => ?_) (fun c65 => ?_)
              · refine w_iload hZ 72 73 rfl rfl rfl ?_
                refine w_st9_8 hZ 73 74 rfl rfl rfl ?_
                have hP1 := hP0.u
                first
                  | exact absurd c65 (by omega)
                  | (rw [if_neg (by omega)] at hP1
                     refine kloop (by omega) b (by omega) b1 _ hE2.u _ i _ _ _ (A ++ [L]) [] N rfl (Int.le_refl _) b0 (by rw [hA]; simp) rfl (by omega) (by omega) hF ?_ (Or.inl (by omega)) ?_
                     · rw [hfd, fnd_new]
                     · exact (hP _ hP1).u.symm)
                  | (rw [if_pos (by omega)] at hP1
                     refine kloop (by omega) b (by omega) b1 _ hE2.u _ i _ _ _ A (L ++ [0]) _ rfl (Int.le_refl _) b0 hA (by rw [hL2]; simp) (by omega) (by omega) (by rw [p70]; exact hF.put _) ?_ (Or.inl (by omega)) ?_
                     · rw [p70, mup_at, if_pos ⟨rfl, rfl⟩, fnd_add, n12, n13, hfd, hA, hL2]
                     · exact (hP _ hP1).u.symm)
              · refine w_aload hZ 66 67 rfl rfl rfl ?_
                refine w_iload hZ 67 68 rfl rfl rfl ?_
                refine w_iload hZ 68 69 rfl rfl rfl ?_
                refine w_const hZ 69 70 rfl rfl  ?_
                refine k_X7_layCell hZ 70 71 rfl rfl (Nat.le_of_ble_eq_true rfl)  (fun M70 p70 => ?_)
                refine w_in9_4 hZ 71 72 rfl rfl rfl (by unfold InR; omega) ?_
                refine w_iload hZ 72 73 rfl rfl rfl ?_
                refine w_st9_8 hZ 73 74 rfl rfl rfl ?_
                have hP1 := hP0.u
                first
                  | exact absurd c65 (by omega)
                  | (rw [if_neg (by omega)] at hP1
                     refine kloop (by omega) b (by omega) b1 _ hE2.u _ i _ _ _ (A ++ [L]) [] N rfl (Int.le_refl _) b0 (by rw [hA]; simp) rfl (by omega) (by omega) hF ?_ (Or.inl (by omega)) ?_
                     · rw [hfd, fnd_new]
                     · exact (hP _ hP1).u.symm)
                  | (rw [if_pos (by omega)] at hP1
                     refine kloop (by omega) b (by omega) b1 _ hE2.u _ i _ _ _ A (L ++ [0]) _ rfl (Int.le_refl _) b0 hA (by rw [hL2]; simp) (by omega) (by omega) (by rw [p70]; exact hF.put _) ?_ (Or.inl (by omega)) ?_
                     · rw [p70, mup_at, if_pos ⟨rfl, rfl⟩, fnd_add, n12, n13, hfd, hA, hL2]
                     · exact (hP _ hP1).u.symm)
            · refine w_iload hZ 49 50 rfl rfl rfl ?_
              refine w_const hZ 50 51 rfl rfl  ?_
              refine w_add hZ 51 52 rfl rfl (by unfold InR; omega) ?_
              refine w_iload hZ 52 53 rfl rfl rfl ?_
              refine w_add hZ 53 54 rfl rfl (by unfold InR; omega) ?_
              refine w_aload hZ 54 55 rfl rfl rfl ?_
              refine w_getr hZ 55 56 rfl rfl rfl rfl rfl ?_
              refine w_const hZ 56 57 rfl rfl  ?_
              refine w_ialdv hZ 57 58 rfl rfl rfl (by omega) (by omega) (v := w) n37 ?_
              refine w_cle hZ 58 59 rfl rfl (fun c58 => ?_) (fun c58 => ?_)
              · refine w_iload hZ 62 63 rfl rfl rfl ?_
                refine w_ifle hZ 63 64 rfl rfl (fun c63 => absurd c63 (by omega)) (fun c63 => ?_)
                refine w_iload hZ 64 65 rfl rfl rfl ?_
                refine w_ifle hZ 65 66 rfl rfl (fun c65 => ?_) (fun c65 => ?_)
                · refine w_iload hZ 72 73 rfl rfl rfl ?_
                  refine w_st9_8 hZ 73 74 rfl rfl rfl ?_
                  have hP1 := hP0.u
                  first
                    | exact absurd c65 (by omega)
                    | (rw [if_neg (by omega)] at hP1
                       refine kloop (by omega) b (by omega) b1 _ hE2.u _ i _ _ _ (A ++ [L]) [] N rfl (Int.le_refl _) b0 (by rw [hA]; simp) rfl (by omega) (by omega) hF ?_ (Or.inl (by omega)) ?_
                       · rw [hfd, fnd_new]
                       · exact (hP _ hP1).u.symm)
                    | (rw [if_pos (by omega)] at hP1
                       refine kloop (by omega) b (by omega) b1 _ hE2.u _ i _ _ _ A (L ++ [0]) _ rfl (Int.le_refl _) b0 hA (by rw [hL2]; simp) (by omega) (by omega) (by rw [p70]; exact hF.put _) ?_ (Or.inl (by omega)) ?_
                       · rw [p70, mup_at, if_pos ⟨rfl, rfl⟩, fnd_add, n12, n13, hfd, hA, hL2]
                       · exact (hP _ hP1).u.symm)
                · refine w_aload hZ 66 67 rfl rfl rfl ?_
                  refine w_iload hZ 67 68 rfl rfl rfl ?_
                  refine w_iload hZ 68 69 rfl rfl rfl ?_
                  refine w_const hZ 69 70 rfl rfl  ?_
                  refine k_X7_layCell hZ 70 71 rfl rfl (Nat.le_of_ble_eq_true rfl)  (fun M70 p70 => ?_)
                  refine w_in9_4 hZ 71 72 rfl rfl rfl (by unfold InR; omega) ?_
                  refine w_iload hZ 72 73 rfl rfl rfl ?_
                  refine w_st9_8 hZ 73 74 rfl rfl rfl ?_
                  have hP1 := hP0.u
                  first
                    | exact absurd c65 (by omega)
                    | (rw [if_neg (by omega)] at hP1
                       refine kloop (by omega) b (by omega) b1 _ hE2.u _ i _ _ _ (A ++ [L]) [] N rfl (Int.le_refl _) b0 (by rw [hA]; simp) rfl (by omega) (by omega) hF ?_ (Or.inl (by omega)) ?_
                       · rw [hfd, fnd_new]
                       · exact (hP _ hP1).u.symm)
                    | (rw [if_pos (by omega)] at hP1
                       refine kloop (by omega) b (by omega) b1 _ hE2.u _ i _ _ _ A (L ++ [0]) _ rfl (Int.le_refl _) b0 hA (by rw [hL2]; simp) (by omega) (by omega) (by rw [p70]; exact hF.put _) ?_ (Or.inl (by omega)) ?_
                       · rw [p70, mup_at, if_pos ⟨rfl, rfl⟩, fnd_add, n12, n13, hfd, hA, hL2]
                       · exact (hP _ hP1).u.symm)
              · refine w_in9_3 hZ 59 60 rfl rfl rfl (by unfold InR; omega) ?_
                refine w_const hZ 60 61 rfl rfl  ?_
                refine w_st9_4 hZ 61 62 rfl rfl rfl ?_
                refine w_iload hZ 62 63 rfl rfl rfl ?_
                refine w_ifle hZ 63 64 rfl rfl (fun c63 => absurd c63 (by omega)) (fun c63 => ?_)
                refine w_iload hZ 64 65 rfl rfl rfl ?_
                refine w_ifle hZ 65 66 rfl rfl (fun c65 => ?_) (fun c65 => ?_)
                · refine w_iload hZ 72 73 rfl rfl rfl ?_
                  refine w_st9_8 hZ 73 74 rfl rfl rfl ?_
                  have hP1 := hP0.u
                  first
                    | exact absurd c65 (by omega)
                    | (rw [if_neg (by omega)] at hP1
                       refine kloop (by omega) b (by omega) b1 _ hE2.u _ i _ _ _ (A ++ [L]) [] N rfl (Int.le_refl _) b0 (by rw [hA]; simp) rfl (by omega) (by omega) hF ?_ (Or.inl (by omega)) ?_
                       · rw [hfd, fnd_new]
                       · exact (hP _ hP1).u.symm)
                    | (rw [if_pos (by omega)] at hP1
                       refine kloop (by omega) b (by omega) b1 _ hE2.u _ i _ _ _ A (L ++ [0]) _ rfl (Int.le_refl _) b0 hA (by rw [hL2]; simp) (by omega) (by omega) (by rw [p70]; exact hF.put _) ?_ (Or.inl (by omega)) ?_
                       · rw [p70, mup_at, if_pos ⟨rfl, rfl⟩, fnd_add, n12, n13, hfd, hA, hL2]
                       · exact (hP _ hP1).u.symm)
                · refine w_aload hZ 66 67 rfl rfl rfl ?_
                  refine w_iload hZ 67 68 rfl rfl rfl ?_
                  refine w_iload hZ 68 69 rfl rfl rfl ?_
                  refine w_const hZ 69 70 rfl rfl  ?_
                  refine k_X7_layCell hZ 70 71 rfl rfl (Nat.le_of_ble_eq_true rfl)  (fun M70 p70 => ?_)
                  refine w_in9_4 hZ 71 72 rfl rfl rfl (by unfold InR; omega) ?_
                  refine w_iload hZ 72 73 rfl rfl rfl ?_
                  refine w_st9_8 hZ 73 74 rfl rfl rfl ?_
                  have hP1 := hP0.u
                  first
                    | exact absurd c65 (by omega)
                    | (rw [if_neg (by omega)] at hP1
                       refine kloop (by omega) b (by omega) b1 _ hE2.u _ i _ _ _ (A ++ [L]) [] N rfl (Int.le_refl _) b0 (by rw [hA]; simp) rfl (by omega) (by omega) hF ?_ (Or.inl (by omega)) ?_
                       · rw [hfd, fnd_new]
                       · exact (hP _ hP1).u.symm)
                    | (rw [if_pos (by omega)] at hP1
                       refine kloop (by omega) b (by omega) b1 _ hE2.u _ i _ _ _ A (L ++ [0]) _ rfl (Int.le_refl _) b0 hA (by rw [hL2]; simp) (by omega) (by omega) (by rw [p70]; exact hF.put _) ?_ (Or.inl (by omega)) ?_
                       · rw [p70, mup_at, if_pos ⟨rfl, rfl⟩, fnd_add, n12, n13, hfd, hA, hL2]
                       · exact (hP _ hP1).u.symm)
      have bloop : i < m → ∀ (d2 : Nat) (b : Int), d2 = (m - b).toNat → i ≤ b → b ≤ m → Hid (∀ j, i ≤ j → j < b → ¬ F j = 0) → Z 24 [some (mr 73), some (mi l), some (mi p), some (mi nw), some (mi us), some (mi i), some (mi b), none, none] [] N := by
        intro him d2
        have n7 : N 73 7 = m := by rw [hF.2 7 (by omega) (by omega)]; exact h7
        induction d2 using Nat.strongRecOn with
        | ind d2 ih2 =>
          intro b hd2 b0 b1 hb
          have n78 : b < m → N 78 b.toNat = F b := fun hk => by rw [hF.1 78 (by omega)]; exact hcell b (by omega) hk
          refine w_iload hZ 24 25 rfl rfl rfl ?_
          refine w_aload hZ 25 26 rfl rfl rfl ?_
          refine w_getiv hZ 26 27 rfl rfl rfl rfl rfl (v := m) n7 ?_
          refine w_cge hZ 27 28 rfl rfl (fun c27 => ?_) (fun c27 => ?_)
          · first
              | exact m35 him b b0 b1 (pe_eq b0 b1 hb.u (fun z => absurd z (by omega)))
              | exact m35 him b b0 b1 (pe_eq b0 b1 hb.u (fun _ => c32))
          · refine w_aload hZ 28 29 rfl rfl rfl ?_
            refine w_getr hZ 29 30 rfl rfl rfl rfl rfl ?_
            refine w_iload hZ 30 31 rfl rfl rfl ?_
            refine w_ialdv hZ 31 32 rfl rfl rfl (by omega) (by omega) (v := F b) (n78 (by omega)) ?_
            refine w_ifeq hZ 32 33 rfl rfl (fun c32 => ?_) (fun c32 => ?_)
            · first
                | exact m35 him b b0 b1 (pe_eq b0 b1 hb.u (fun z => absurd z (by omega)))
                | exact m35 him b b0 b1 (pe_eq b0 b1 hb.u (fun _ => c32))
            · refine w_in9_6 hZ 33 34 rfl rfl rfl (by unfold InR; omega) ?_
              refine w_goto hZ 34 24 rfl ?_
              refine ih2 (m - (b + 1)).toNat (by omega) (b + 1) rfl (by omega) (by omega) (fun j j0 j1 => ?_)
              by_cases q : j = b
              · rw [q]; exact c32
              · exact hb.u j j0 (by omega)
      refine w_iload hZ 18 19 rfl rfl rfl ?_
      refine w_aload hZ 19 20 rfl rfl rfl ?_
      refine w_getiv hZ 20 21 rfl rfl rfl rfl rfl (v := m) (by rw [hF.2 7 (by omega) (by omega)]; exact h7) ?_
      refine w_cge hZ 21 22 rfl rfl (fun c21 => ?_) (fun c21 => ?_)
      · refine w_aload hZ 102 103 rfl rfl rfl ?_
        refine w_iload hZ 103 104 rfl rfl rfl ?_
        refine w_ifle hZ 104 105 rfl rfl (fun c104 => ?_) (fun c104 => ?_)
        · refine w_const hZ 109 110 rfl rfl  ?_
          refine w_puti hZ 110 111 rfl rfl rfl rfl rfl ?_
          refine w_vret hZ 111 rfl ?_
          have hE2 := hE.u
          rw [ly_end (by omega)] at hE2
          have hlN : ∀ x : Int, x = lyN s → 0 ≤ x → x ≤ 1000 → Ret none (mup N 73 11 x) := by
            intro x hx x0 x1
            refine hR _ ?_
            rw [hV, ← hE2]
            refine ⟨by rw [mup_at, if_pos ⟨rfl, rfl⟩, hx], fun l0 p0 => ?_, ⟨fun o o1 o2 o3 o4 => ?_, ?_, ?_⟩, by omega, by omega⟩
            · rw [mup_at, if_neg (by omega), hfd]
              unfold fnd
              rw [if_pos ⟨l0, p0⟩]
            · rw [← hPF.1 o o1 o2 o3 o4, ← q1 o o1, ← hF.1 o o1]; funext q; simp [mup_at, o1]
            · rw [mup_at, if_neg (by omega), hF.2 2 (by omega) (by omega), q2 2 (by omega) (by omega) (by omega), hPF.2 2 (by omega)]
            · rw [mup_at, if_neg (by omega), hF.2 16 (by omega) (by omega), q2 16 (by omega) (by omega) (by omega), hPF.2 16 (by omega)]
          cases s with
          | none =>
            obtain ⟨rfl, rfl⟩ : nw = 0 ∧ us = 0 := hL
            first
              | exact absurd c104 (by omega)
              | exact hlN _ rfl (by omega) (by omega)
          | some q =>
            obtain ⟨hA, hL2, hL3⟩ : nw = q.1.length ∧ us = q.2.length ∧ 0 < us := hL
            first
              | exact absurd c104 (by omega)
              | exact hlN _ (by rw [hA]; rfl) (by omega) (by omega)
        · refine w_iload hZ 105 106 rfl rfl rfl ?_
          refine w_const hZ 106 107 rfl rfl  ?_
          refine w_add hZ 107 108 rfl rfl (by unfold InR; omega) ?_
          refine w_goto hZ 108 110 rfl ?_
          refine w_puti hZ 110 111 rfl rfl rfl rfl rfl ?_
          refine w_vret hZ 111 rfl ?_
          have hE2 := hE.u
          rw [ly_end (by omega)] at hE2
          have hlN : ∀ x : Int, x = lyN s → 0 ≤ x → x ≤ 1000 → Ret none (mup N 73 11 x) := by
            intro x hx x0 x1
            refine hR _ ?_
            rw [hV, ← hE2]
            refine ⟨by rw [mup_at, if_pos ⟨rfl, rfl⟩, hx], fun l0 p0 => ?_, ⟨fun o o1 o2 o3 o4 => ?_, ?_, ?_⟩, by omega, by omega⟩
            · rw [mup_at, if_neg (by omega), hfd]
              unfold fnd
              rw [if_pos ⟨l0, p0⟩]
            · rw [← hPF.1 o o1 o2 o3 o4, ← q1 o o1, ← hF.1 o o1]; funext q; simp [mup_at, o1]
            · rw [mup_at, if_neg (by omega), hF.2 2 (by omega) (by omega), q2 2 (by omega) (by omega) (by omega), hPF.2 2 (by omega)]
            · rw [mup_at, if_neg (by omega), hF.2 16 (by omega) (by omega), q2 16 (by omega) (by omega) (by omega), hPF.2 16 (by omega)]
          cases s with
          | none =>
            obtain ⟨rfl, rfl⟩ : nw = 0 ∧ us = 0 := hL
            first
              | exact absurd c104 (by omega)
              | exact hlN _ rfl (by omega) (by omega)
          | some q =>
            obtain ⟨hA, hL2, hL3⟩ : nw = q.1.length ∧ us = q.2.length ∧ 0 < us := hL
            first
              | exact absurd c104 (by omega)
              | exact hlN _ (by rw [hA]; rfl) (by omega) (by omega)
      · refine w_iload hZ 22 23 rfl rfl rfl ?_
        refine w_st9_6 hZ 23 24 rfl rfl rfl ?_
        exact bloop (by omega) _ i rfl (Int.le_refl _) (by omega) (fun j j0 j1 => absurd j1 (by omega))
  refine w_aload hZ 0 1 rfl rfl rfl ?_
  refine w_const hZ 1 2 rfl rfl  ?_
  refine k_X7_putAll hZ 2 3 rfl rfl (Nat.le_of_ble_eq_true rfl) hp (fun M2 p2 => ?_)
  refine w_aload hZ 3 4 rfl rfl rfl ?_
  refine w_iload hZ 4 5 rfl rfl rfl ?_
  refine w_puti hZ 5 6 rfl rfl rfl rfl rfl ?_
  refine w_aload hZ 6 7 rfl rfl rfl ?_
  refine w_iload hZ 7 8 rfl rfl rfl ?_
  refine w_puti hZ 8 9 rfl rfl rfl rfl rfl ?_
  refine w_aload hZ 9 10 rfl rfl rfl ?_
  refine w_const hZ 10 11 rfl rfl  ?_
  refine w_puti hZ 11 12 rfl rfl rfl rfl rfl ?_
  refine w_const hZ 12 13 rfl rfl  ?_
  refine w_st9_3 hZ 13 14 rfl rfl rfl ?_
  refine w_const hZ 14 15 rfl rfl  ?_
  refine w_st9_4 hZ 15 16 rfl rfl rfl ?_
  refine w_const hZ 16 17 rfl rfl  ?_
  refine w_st9_5 hZ 17 18 rfl rfl rfl ?_
  rw [hV] at p2
  have hE0 : ly w F m 0 none = lyS V := hS.symm
  refine main M2 p2.2 p2.1 (mup (mup (mup M2 73 12 l) 73 13 p) 73 14 (-1)) (fun o ho => by funext q; simp [mup_at, ho]) (fun f f1 f2 f3 => by simp [mup_at, f1, f2, f3]) (by simp [mup_at]) (by simp [mup_at]) _ 0 0 0 none _ rfl (Int.le_refl _) (by omega) ⟨rfl, rfl⟩ (by omega) (Int.le_refl _) (by omega) ⟨fun _ _ => rfl, fun _ _ _ => rfl⟩ ?_ hE0
  unfold fnd
  rw [mup_at, if_pos ⟨rfl, rfl⟩]
  split <;> rfl
set_option maxRecDepth 100000 in
set_option maxHeartbeats 4000000 in
theorem ao_X7_layLines : AllOk yX7_layLines.cls cX7_layLines 9 6 153 none none pc_X7_layLines 0 cd_X7_layLines := ⟨s_aload_n (k := 0) (by decide +kernel) rfl rfl, ⟨s_iconst (by decide +kernel) rfl ⟨by decide, by decide⟩, ⟨s_callV (C := RX7) (T := TX7) (N := 22) rfl ct_X7_putAll (by decide) (by decide) ⟨rfl, by decide +kernel, by decide +kernel, by decide +kernel⟩ tw_4_102 tw_4_104 ts_3_12 tw_1_8 tw_4_105 (by decide +kernel) rfl, ⟨s_aload_n (k := 0) (by decide +kernel) rfl rfl, ⟨s_iload_n (k := 1) (by decide +kernel) rfl rfl, ⟨s_puti (C := RX7) (T := TX7) (N := 22) (tyf := tyX7) rfl inT7 tyX7_ok nmX7 (by decide) rfl rfl tw_3_171 (by decide +kernel) rfl, ⟨s_aload_n (k := 0) (by decide +kernel) rfl rfl, ⟨s_iload_n (k := 2) (by decide +kernel) rfl rfl, ⟨s_puti (C := RX7) (T := TX7) (N := 22) (tyf := tyX7) rfl inT7 tyX7_ok nmX7 (by decide) rfl rfl tw_3_172 (by decide +kernel) rfl, ⟨s_aload_n (k := 0) (by decide +kernel) rfl rfl, ⟨s_iconst (by decide +kernel) rfl ⟨by decide, by decide⟩, ⟨s_puti (C := RX7) (T := TX7) (N := 22) (tyf := tyX7) rfl inT7 tyX7_ok nmX7 (by decide) rfl rfl tw_3_173 (by decide +kernel) rfl, ⟨s_iconst (by decide +kernel) rfl ⟨by decide, by decide⟩, ⟨s_istore_n (k := 3) (by decide +kernel) rfl rfl, ⟨s_iconst (by decide +kernel) rfl ⟨by decide, by decide⟩, ⟨s_istore (by decide +kernel) rfl, ⟨s_iconst (by decide +kernel) rfl ⟨by decide, by decide⟩, ⟨s_istore (by decide +kernel) rfl, ⟨s_iload (by decide +kernel) rfl, ⟨s_aload_n (k := 0) (by decide +kernel) rfl rfl, ⟨s_get (C := RX7) (T := TX7) (N := 22) rfl inT7 (by decide) tw_3_166 (by decide +kernel) rfl, ⟨s_cge (off := (166)) (by decide +kernel) rfl rfl, ⟨s_iload (by decide +kernel) rfl, ⟨s_istore (by decide +kernel) rfl, ⟨s_iload (by decide +kernel) rfl, ⟨s_aload_n (k := 0) (by decide +kernel) rfl rfl, ⟨s_get (C := RX7) (T := TX7) (N := 22) rfl inT7 (by decide) tw_3_166 (by decide +kernel) rfl, ⟨s_cge (off := (19)) (by decide +kernel) rfl rfl, ⟨s_aload_n (k := 0) (by decide +kernel) rfl rfl, ⟨s_get (C := RX7) (T := TX7) (N := 22) rfl inT7 (by decide) tw_3_165 (by decide +kernel) rfl, ⟨s_iload (by decide +kernel) rfl, ⟨s_iald (by decide +kernel) rfl, ⟨s_ifeq (off := (9)) (by decide +kernel) rfl rfl, ⟨s_iinc (by decide +kernel) rfl, ⟨s_goto (off := (-22)) (by decide +kernel) rfl, ⟨s_iload (by decide +kernel) rfl, ⟨s_iload (by decide +kernel) rfl, ⟨s_sub (by decide +kernel) rfl, ⟨s_istore (by decide +kernel) rfl, ⟨s_iload (by decide +kernel) rfl, ⟨s_ifle (off := (43)) (by decide +kernel) rfl rfl, ⟨s_iload (by decide +kernel) rfl, ⟨s_ifle (off := (38)) (by decide +kernel) rfl rfl, ⟨s_iload (by decide +kernel) rfl, ⟨s_aload_n (k := 0) (by decide +kernel) rfl rfl, ⟨s_get (C := RX7) (T := TX7) (N := 22) rfl inT7 (by decide) tw_3_159 (by decide +kernel) rfl, ⟨s_bipush (by decide +kernel) rfl ⟨by decide, by decide⟩ (by decide +kernel), ⟨s_iald (by decide +kernel) rfl, ⟨s_cgt (off := (20)) (by decide +kernel) rfl rfl, ⟨s_iload (by decide +kernel) rfl, ⟨s_iconst (by decide +kernel) rfl ⟨by decide, by decide⟩, ⟨s_add (by decide +kernel) rfl, ⟨s_iload (by decide +kernel) rfl, ⟨s_add (by decide +kernel) rfl, ⟨s_aload_n (k := 0) (by decide +kernel) rfl rfl, ⟨s_get (C := RX7) (T := TX7) (N := 22) rfl inT7 (by decide) tw_3_159 (by decide +kernel) rfl, ⟨s_bipush (by decide +kernel) rfl ⟨by decide, by decide⟩ (by decide +kernel), ⟨s_iald (by decide +kernel) rfl, ⟨s_cle (off := (9)) (by decide +kernel) rfl rfl, ⟨s_iinc (by decide +kernel) rfl, ⟨s_iconst (by decide +kernel) rfl ⟨by decide, by decide⟩, ⟨s_istore (by decide +kernel) rfl, ⟨s_iload (by decide +kernel) rfl, ⟨s_ifle (off := (19)) (by decide +kernel) rfl rfl, ⟨s_iload (by decide +kernel) rfl, ⟨s_ifle (off := (14)) (by decide +kernel) rfl rfl, ⟨s_aload_n (k := 0) (by decide +kernel) rfl rfl, ⟨s_iload_n (k := 3) (by decide +kernel) rfl rfl, ⟨s_iload (by decide +kernel) rfl, ⟨s_iconst (by decide +kernel) rfl ⟨by decide, by decide⟩, ⟨s_callV (C := RX7) (T := TX7) (N := 22) rfl ct_X7_layCell (by decide) (by decide) ⟨rfl, by decide +kernel, by decide +kernel, by decide +kernel⟩ tw_4_166 tw_4_168 ts_4_11 tw_1_8 tw_4_169 (by decide +kernel) rfl, ⟨s_iinc (by decide +kernel) rfl, ⟨s_iload (by decide +kernel) rfl, ⟨s_istore (by decide +kernel) rfl, ⟨s_iload (by decide +kernel) rfl, ⟨s_iload (by decide +kernel) rfl, ⟨s_cge (off := (44)) (by decide +kernel) rfl rfl, ⟨s_iload (by decide +kernel) rfl, ⟨s_aload_n (k := 0) (by decide +kernel) rfl rfl, ⟨s_get (C := RX7) (T := TX7) (N := 22) rfl inT7 (by decide) tw_3_159 (by decide +kernel) rfl, ⟨s_bipush (by decide +kernel) rfl ⟨by decide, by decide⟩ (by decide +kernel), ⟨s_iald (by decide +kernel) rfl, ⟨s_cne (off := (9)) (by decide +kernel) rfl rfl, ⟨s_iinc (by decide +kernel) rfl, ⟨s_iconst (by decide +kernel) rfl ⟨by decide, by decide⟩, ⟨s_istore (by decide +kernel) rfl, ⟨s_aload_n (k := 0) (by decide +kernel) rfl rfl, ⟨s_iload_n (k := 3) (by decide +kernel) rfl rfl, ⟨s_iload (by decide +kernel) rfl, ⟨s_aload_n (k := 0) (by decide +kernel) rfl rfl, ⟨s_get (C := RX7) (T := TX7) (N := 22) rfl inT7 (by decide) tw_3_165 (by decide +kernel) rfl, ⟨s_iload (by decide +kernel) rfl, ⟨s_iald (by decide +kernel) rfl, ⟨s_callV (C := RX7) (T := TX7) (N := 22) rfl ct_X7_layCell (by decide) (by decide) ⟨rfl, by decide +kernel, by decide +kernel, by decide +kernel⟩ tw_4_166 tw_4_168 ts_4_11 tw_1_8 tw_4_169 (by decide +kernel) rfl, ⟨s_iinc (by decide +kernel) rfl, ⟨s_iinc (by decide +kernel) rfl, ⟨s_goto (off := (-45)) (by decide +kernel) rfl, ⟨s_iload (by decide +kernel) rfl, ⟨s_iconst (by decide +kernel) rfl ⟨by decide, by decide⟩, ⟨s_add (by decide +kernel) rfl, ⟨s_istore (by decide +kernel) rfl, ⟨s_goto (off := (-169)) (by decide +kernel) rfl, ⟨s_aload_n (k := 0) (by decide +kernel) rfl rfl, ⟨s_iload (by decide +kernel) rfl, ⟨s_ifle (off := (9)) (by decide +kernel) rfl rfl, ⟨s_iload_n (k := 3) (by decide +kernel) rfl rfl, ⟨s_iconst (by decide +kernel) rfl ⟨by decide, by decide⟩, ⟨s_add (by decide +kernel) rfl, ⟨s_goto (off := (4)) (by decide +kernel) rfl, ⟨s_iconst (by decide +kernel) rfl ⟨by decide, by decide⟩, ⟨s_puti (C := RX7) (T := TX7) (N := 22) (tyf := tyX7) rfl inT7 tyX7_ok nmX7 (by decide) rfl rfl tw_3_170 (by decide +kernel) rfl, ⟨s_vret rfl (by decide +kernel), trivial⟩⟩⟩⟩⟩⟩⟩⟩⟩⟩⟩⟩⟩⟩⟩⟩⟩⟩⟩⟩⟩⟩⟩⟩⟩⟩⟩⟩⟩⟩⟩⟩⟩⟩⟩⟩⟩⟩⟩⟩⟩⟩⟩⟩⟩⟩⟩⟩⟩⟩⟩⟩⟩⟩⟩⟩⟩⟩⟩⟩⟩⟩⟩⟩⟩⟩⟩⟩⟩⟩⟩⟩⟩⟩⟩⟩⟩⟩⟩⟩⟩⟩⟩⟩⟩⟩⟩⟩⟩⟩⟩⟩⟩⟩⟩⟩⟩⟩⟩⟩⟩⟩⟩⟩⟩⟩⟩⟩⟩⟩⟩⟩
theorem ct_X7_layLines : Ctr yX7_layLines cX7_layLines 9 none 6 153 sp_X7_layLines := by
  refine ctr_of (by decide +kernel) ao_X7_layLines rfl ?_
  rintro av M Ret ⟨l, p, rfl, hp, hR⟩ hok hM
  exact ⟨Nat.le_of_ble_eq_true rfl, fun Z hZ => b_X7_layLines  l (hok _ (List.mem_of_getElem? (i := 1) rfl)) p (hok _ (List.mem_of_getElem? (i := 2) rfl)) M Ret hp hR hM Z hZ⟩
