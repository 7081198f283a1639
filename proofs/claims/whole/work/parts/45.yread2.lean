/-! THE REFERENCE: READ BACK, steps -/
def RP (M : Mem) : Prop := vOk (YV M) ∧ 0 ≤ M 73 16 ∧ M 73 16 ≤ 240 ∧ 0 ≤ M 73 20 ∧ M 73 20 < M 73 16 ∧ 0 ≤ M 73 18 ∧ M 73 18 ≤ 4 * M 73 20
def PS (r : RST) (M N : Mem) (ft : Int) : Prop := (r.1 = 0 → OG r.2.2.2.2 M N r.2.2.1 ft (M 73 19)) ∧ (¬ r.1 = 0 → N 73 19 = r.2.1) ∧ FR M N
def feR (fe ft : Int) : Prop := (fe = -1 ∧ ft = 0) ∨ (fe = ft ∧ 0 < ft)
theorem OG.pl {D : List Int} {M N : Mem} {p p2 f a : Int} (h : OG D M N p f a) (e : p = p2) : OG D M N p2 f a := e ▸ h
theorem fk_12 (V : BV) (c : Int) : fk V c = 1 ∨ fk V c = 2 := by unfold fk; split <;> simp
theorem stp_60L {V : BV} {F : Int → Int} {m i fe : Int} (h : F i = 60) (h2 : isLC (F (i + 1))) : stp V F m i fe = (0, -1, i + 2, fe, [65 + F (i + 1) - 1]) := by
  unfold stp; rw [if_pos h, if_neg (by have := h2.2; omega), if_pos h2]
theorem stp_60f {V : BV} {F : Int → Int} {m i fe : Int} (h : F i = 60) (h1 : ¬ F (i + 1) = 60) (h2 : ¬ isLC (F (i + 1))) : stp V F m i fe = (fk V (F (i + 1)), i + 1, i + 2, fe, []) := by
  unfold stp; rw [if_pos h, if_neg h1, if_neg h2]
abbrev crG (V : BV) (F : Int → Int) (j : Int) : Prop := isLC (F j) ∨ isRl V (F j)
theorem crF_n {V : BV} {F : Int → Int} {j : Int} (h : ¬ crG V F j) (k : Nat) : crF V F k j = (j, []) := by
  cases k with
  | zero => rfl
  | succ k => show (if _ then _ else _) = _; rw [if_neg h]
theorem crF_y {V : BV} {F : Int → Int} {m j : Int} (h : crG V F j) (hj : j < m) : crF V F (m - j).toNat j = ((crF V F (m - (j + 1)).toNat (j + 1)).1, ltrs V (F j) 65 ++ (crF V F (m - (j + 1)).toNat (j + 1)).2) := by
  rw [show (m - j).toNat = (m - (j + 1)).toNat + 1 by omega]
  show (if _ then _ else _) = _; rw [if_pos h]
theorem stp_66n {V : BV} {F : Int → Int} {m i fe : Int} (h : F i = 60) (h1 : F (i + 1) = 60) (h2 : ¬ crG V F (i + 2)) : stp V F m i fe = (fk V (F (i + 2)), i + 2, i + 2, fe, []) := by
  unfold stp; rw [if_pos h, if_pos h1, crF_n h2, if_pos rfl]
theorem stp_66y {V : BV} {F : Int → Int} {m i fe : Int} (h : F i = 60) (h1 : F (i + 1) = 60) (h2 : crG V F (i + 2)) (hm : i + 2 < m) : stp V F m i fe = (0, -1, (crF V F (m - (i + 2)).toNat (i + 2)).1, fe, (crF V F (m - (i + 2)).toNat (i + 2)).2) := by
  have q : ¬ (crF V F (m - (i + 2)).toNat (i + 2)).1 = i + 2 := by
    rw [crF_y h2 hm]
    have := (crF_spec V F (m - (i + 2 + 1)).toNat (i + 2 + 1)).1
    show ¬ (crF V F (m - (i + 2 + 1)).toNat (i + 2 + 1)).1 = i + 2
    omega
  unfold stp; rw [if_pos h, if_pos h1, if_neg q]
abbrev frG (F : Int → Int) (j : Int) : Prop := isFC (F j) ∨ (isPCC (F j) ∧ isFC (F (j + 1)))
theorem frF_n {F : Int → Int} {j : Int} (h : ¬ frG F j) (k : Nat) : frF F k j = (j, []) := by
  cases k with
  | zero => rfl
  | succ k => show (if _ then _ else if _ then _ else _) = _; rw [if_neg (fun z => h (Or.inl z)), if_neg (fun z => h (Or.inr z))]
theorem frF_f {F : Int → Int} {m j : Int} (h : isFC (F j)) (hj : j < m) : frF F (m - j).toNat j = ((frF F (m - (j + 1)).toNat (j + 1)).1, fgS (F j) :: (frF F (m - (j + 1)).toNat (j + 1)).2) := by
  rw [show (m - j).toNat = (m - (j + 1)).toNat + 1 by omega]
  show (if _ then _ else if _ then _ else _) = _; rw [if_pos h]
theorem frF_p {F : Int → Int} {m j : Int} (h0 : ¬ isFC (F j)) (h : isPCC (F j) ∧ isFC (F (j + 1))) (hj : j < m) : frF F (m - j).toNat j = ((frF F (m - (j + 1)).toNat (j + 1)).1, mkS (F j) :: (frF F (m - (j + 1)).toNat (j + 1)).2) := by
  rw [show (m - j).toNat = (m - (j + 1)).toNat + 1 by omega]
  show (if _ then _ else if _ then _ else _) = _; rw [if_neg h0, if_pos h]
theorem stp_61y {V : BV} {F : Int → Int} {m i fe : Int} (h : F i = 61) (h1 : isFC (F (i + 1))) : stp V F m i fe = (0, -1, (frF F (m - (i + 1)).toNat (i + 1)).1, (frF F (m - (i + 1)).toNat (i + 1)).1, (frF F (m - (i + 1)).toNat (i + 1)).2) := by
  unfold stp; rw [if_neg (by omega), if_pos h, if_pos h1]
theorem stp_61n {V : BV} {F : Int → Int} {m i fe : Int} (h : F i = 61) (h1 : ¬ isFC (F (i + 1))) : stp V F m i fe = (fk V (F (i + 1)), i + 1, i + 1, fe, []) := by
  unfold stp; rw [if_neg (by omega), if_pos h, if_neg h1]
theorem stp_62y {V : BV} {F : Int → Int} {m i fe : Int} (h : F i = 62) (h1 : bhF F fe i ∧ (isFC (F (i + 1)) ∨ isRl V (F (i + 1)))) : stp V F m i fe = (0, -1, i + 1, fe, []) := by
  unfold stp; rw [if_neg (by omega), if_neg (by omega), if_pos h, if_pos h1]
theorem stp_62n {V : BV} {F : Int → Int} {m i fe : Int} (h : F i = 62) (h1 : ¬ (bhF F fe i ∧ (isFC (F (i + 1)) ∨ isRl V (F (i + 1))))) : stp V F m i fe = (2, i, i + 1, fe, []) := by
  unfold stp; rw [if_neg (by omega), if_neg (by omega), if_pos h, if_neg h1]
theorem stp_no {V : BV} {F : Int → Int} {m i fe : Int} (h : noCl V (F i)) : stp V F m i fe = (1, i, i + 1, fe, []) := by
  have : F i = 63 ∨ F i ≤ 59 := by
    rcases h with h | ⟨h, _⟩
    · exact Or.inl h
    · exact Or.inr h.2
  unfold stp; rw [if_neg (by omega), if_neg (by omega), if_neg (by omega), if_pos h]
theorem stp_ok {V : BV} {F : Int → Int} {m i fe : Int} (h0 : ¬ F i = 60) (h1 : ¬ F i = 61) (h2 : ¬ F i = 62) (h : ¬ noCl V (F i)) : stp V F m i fe = (0, -1, i + 1, fe, if isLC (F i) ∨ isRC (F i) then ltrs V (F i) 97 else [mkS (F i)]) := by
  unfold stp; rw [if_neg h0, if_neg h1, if_neg h2, if_neg h]
def stp2 (V : BV) (F : Int → Int) (m i fe : Int) : RST := if F i = 62 ∧ (stp V F m i fe).1 = 0 then (0, -1, i + 2, fe, ltrs V (F (i + 1)) 97) else stp V F m i fe
theorem stp2_n {V : BV} {F : Int → Int} {m i fe : Int} (h : ¬ F i = 62) : stp2 V F m i fe = stp V F m i fe := if_neg (fun z => h z.1)
def sp_X7_readGreat : SP := fun av M Ret => ∃ fe : Int, av = [mr 73] ∧ (RP M ∧ FY M (M 73 20) = 60) ∧ (∀ M2 : Mem, (PS (stp (YV M) (FY M) (M 73 16) (M 73 20) fe) M M2 (M 73 21)) → Ret (some (mi ((stp (YV M) (FY M) (M 73 16) (M 73 20) fe).1))) M2)
theorem k_X7_readGreat {code : List Sem} {Z : KZ} {Ret : KR} {ls : List (Option MV)} {M : Mem} {r : List MV} (hZ : Sim code Z Ret) (ip np : Nat) {fe : Int}  (hc : code[ip]? = some (I_callV 7 0 sp_X7_readGreat)) (hn : ip + 1 = np) (h3 : catS r ≤ 8)  (hp : RP M ∧ FY M (M 73 20) = 60) (kz : ∀ M2 : Mem, (PS (stp (YV M) (FY M) (M 73 16) (M 73 20) fe) M M2 (M 73 21)) → Z np ls (mi ((stp (YV M) (FY M) (M 73 16) (M 73 20) fe).1) :: r) M2) : Z ip ls (mr 73 :: r) M := w_callV0 hZ ip np hc hn rfl rfl h3 ⟨_, rfl, hp, fun M2 h => kz M2 h⟩
def cd_X7_readGreat : List Sem := [I_aload 0, I_dup, I_get 7 20, I_const (1), I_add, I_puti 7 20, I_aload 0, I_aload 0, I_get 7 20, I_callV 7 1 sp_X7_feltAt, I_istore 1, I_iload 1, I_callS 1 sp_X7_isLetterCell, I_ifeq 20, I_aload 0, I_iload 1, I_const (1), I_callV 7 2 sp_X7_giveLetters, I_const (0), I_iret, I_iload 1, I_const (60), I_ceq 28, I_aload 0, I_aload 0, I_get 7 20, I_callV 7 1 sp_X7_faults, I_iret, I_aload 0, I_dup, I_get 7 20, I_const (1), I_add, I_puti 7 20, I_aload 0, I_aload 0, I_get 7 20, I_callV 7 1 sp_X7_feltAt, I_callS 1 sp_X7_isLetterCell, I_ifne 52, I_aload 0, I_aload 0, I_aload 0, I_get 7 20, I_callV 7 1 sp_X7_feltAt, I_callV 7 1 sp_X7_isRuleCell, I_ifne 52, I_aload 0, I_aload 0, I_get 7 20, I_callV 7 1 sp_X7_faults, I_iret, I_aload 0, I_aload 0, I_get 7 20, I_callV 7 1 sp_X7_feltAt, I_callS 1 sp_X7_isLetterCell, I_ifne 65, I_aload 0, I_aload 0, I_aload 0, I_get 7 20, I_callV 7 1 sp_X7_feltAt, I_callV 7 1 sp_X7_isRuleCell, I_ifeq 73, I_aload 0, I_aload 0, I_aload 0, I_get 7 20, I_callV 7 1 sp_X7_feltAt, I_const (1), I_callV 7 2 sp_X7_giveLetters, I_goto 52, I_const (0), I_iret]
def pc_X7_readGreat : List Nat := [0, 1, 2, 5, 6, 7, 10, 11, 12, 15, 18, 19, 20, 23, 26, 27, 28, 29, 32, 33, 34, 35, 37, 40, 41, 42, 45, 48, 49, 50, 51, 54, 55, 56, 59, 60, 61, 64, 67, 70, 73, 74, 75, 76, 79, 82, 85, 88, 89, 90, 93, 96, 97, 98, 99, 102, 105, 108, 111, 112, 113, 114, 117, 120, 123, 126, 127, 128, 129, 132, 135, 136, 139, 142, 143]
set_option maxRecDepth 100000 in
set_option maxHeartbeats 4000000 in
theorem b_X7_readGreat (fe : Int)  (M : Mem) (Ret : KR) (hp : RP M ∧ FY M (M 73 20) = 60) (hR : ∀ M2 : Mem, (PS (stp (YV M) (FY M) (M 73 16) (M 73 20) fe) M M2 (M 73 21)) → Ret (some (mi ((stp (YV M) (FY M) (M 73 16) (M 73 20) fe).1))) M2) (hM : MOk M) (Z : KZ) (hZ : Sim cd_X7_readGreat Z Ret) : Z 0 [some (mr 73), none] [] M := by
  obtain ⟨hRP, hFi⟩ := hp
  obtain ⟨hvo, m0, m1, i0, i1, s0, s1⟩ := hRP
  have hFm : ∀ j, M 73 16 ≤ j → FY M j = -1 := fun j hj => sgn_hi hj
  have hF0 : ∀ j, j < 0 → FY M j = -1 := fun j hj => sgn_lo hj
  have ok : ∀ r : RST, stp (YV M) (FY M) (M 73 16) (M 73 20) fe = r → r.1 = 0 → ∀ N : Mem, OG r.2.2.2.2 M N r.2.2.1 (M 73 21) (M 73 19) → Ret (some (mi 0)) N := by
    intro r hr h0 N hN
    have q := hR N
    rw [hr, h0] at q
    exact q ⟨fun _ => hN, fun z => absurd h0 z, hN.fr⟩
  have bad : ∀ r : RST, stp (YV M) (FY M) (M 73 16) (M 73 20) fe = r → ∀ (N : Mem) (x : Int), x = r.1 → ¬ r.1 = 0 → N 73 19 = r.2.1 → FR M N → Ret (some (mi x)) N := by
    intro r hr N x hx h0 h1 h2
    have q := hR N
    rw [hr, ← hx] at q
    exact q ⟨fun z => absurd z h0, fun _ => h1, h2⟩
  obtain ⟨V, hV⟩ : ∃ V, YV M = V := ⟨_, rfl⟩
  obtain ⟨F, hF⟩ : ∃ F, FY M = F := ⟨_, rfl⟩
  obtain ⟨m, hm⟩ : ∃ m, M 73 16 = m := ⟨_, rfl⟩
  obtain ⟨i, hi⟩ : ∃ i, M 73 20 = i := ⟨_, rfl⟩
  rw [hm] at m0 m1
  rw [hV] at hvo
  rw [hF, hm] at hFm
  rw [hF] at hF0
  rw [hi] at i0 i1 s1
  rw [hm] at i1
  rw [hV, hF, hm, hi] at ok bad
  rw [hF, hi] at hFi
  have loop : F (i + 1) = 60 → crG V F (i + 2) → i + 2 < m → ∀ c : Int, ∀ (d : Nat) (j : Int) (D : List Int) (N : Mem), d = (m - j).toNat → i + 2 ≤ j → j ≤ m → OG D M N j (M 73 21) (M 73 19) → (D.length : Int) ≤ 4 * (j - (i + 2)) → Hid (crF V F (m - (i + 2)).toNat (i + 2) = ((crF V F (m - j).toNat j).1, D ++ (crF V F (m - j).toNat j).2)) → Z 52 [some (mr 73), some (mi c)] [] N := by
    intro h61 hg2 h2m c d
    replace hg2 : Hid (crG V F (i + 2)) := hg2
    induction d using Nat.strongRecOn with
    | ind d ih =>
      intro j D N hd j0 j1 hO hDl hE
      have hpl := hO.2.2.2.1
      have h18 := hO.1
      have eY : YV N = V := by rw [hO.fr.yv]; exact hV
      have eF : FY N = F := by rw [hO.fr.fy]; exact hF
      have hvN : vOk (YV N) := by rw [eY]; exact hvo
      have step : crG V F j → ∀ N2 : Mem, OG (ltrs (YV N) (F j) (if true = true then (65 : Int) else 97)) N N2 (N 73 20 + 1) (N 73 21) (N 73 19) → Z 52 [some (mr 73), some (mi c)] [] N2 := by
        intro hg N2 h2
        have hjm : j < m := by
          rcases Int.lt_or_eq_of_le j1 with q | q
          · exact q
          · have q2 := hFm j (by omega)
            rw [show crG V F j = (isLC (F j) ∨ isRl V (F j)) from rfl, q2] at hg
            simp only [isLC, isRl, isRC] at hg
            omega
        rw [if_pos rfl, eY, hpl, hO.2.2.2.2.1, hO.2.2.2.2.2.1] at h2
        have hl := ltrs_len V (F j) 65
        refine ih (m - (j + 1)).toNat (by omega) (j + 1) _ N2 rfl (by omega) (by omega) (hO.trans h2 s0) (by rw [List.length_append]; omega) ?_
        unfold Hid
        rw [hE.u, crF_y hg hjm, List.append_assoc]
      refine w_aload hZ 52 53 rfl rfl rfl ?_
      refine w_aload hZ 53 54 rfl rfl rfl ?_
      refine w_getiv hZ 54 55 rfl rfl rfl rfl rfl (v := j) hpl ?_
      refine k_X7_feltAt hZ 55 56 rfl rfl (Nat.le_of_ble_eq_true rfl) ⟨by rw [hO.fr.m, hm]; exact m0, by rw [hO.fr.m, hm]; exact m1⟩ ?_
      rw [eF]
      refine k_X7_isLetterCell hZ 56 57 rfl rfl (Nat.le_of_ble_eq_true rfl)  ?_
      refine w_ifne hZ 57 58 rfl rfl (fun c57 => ?_) (fun c57 => ?_)
      · refine w_aload hZ 65 66 rfl rfl rfl ?_
        refine w_aload hZ 66 67 rfl rfl rfl ?_
        refine w_aload hZ 67 68 rfl rfl rfl ?_
        refine w_getiv hZ 68 69 rfl rfl rfl rfl rfl (v := j) hpl ?_
        refine k_X7_feltAt hZ 69 70 rfl rfl (Nat.le_of_ble_eq_true rfl) ⟨by rw [hO.fr.m, hm]; exact m0, by rw [hO.fr.m, hm]; exact m1⟩ ?_
        rw [eF]
        refine w_const hZ 70 71 rfl rfl  ?_
        have hgg : crG V F j := by
          first
            | exact Or.inl (b2i_e.mp c57)
            | exact Or.inr (b2i_e.mp c64)
        refine k_X7_giveLetters hZ 71 72 rfl rfl (Nat.le_of_ble_eq_true rfl) ⟨hvN, by rw [eY]; exact hgg, by omega, by omega, by omega, by omega, (b2i_t (p := true = true) rfl).symm⟩ (fun M71 p71 => ?_)
        refine w_goto hZ 72 52 rfl ?_
        exact step hgg _ p71
      · refine w_aload hZ 58 59 rfl rfl rfl ?_
        refine w_aload hZ 59 60 rfl rfl rfl ?_
        refine w_aload hZ 60 61 rfl rfl rfl ?_
        refine w_getiv hZ 61 62 rfl rfl rfl rfl rfl (v := j) hpl ?_
        refine k_X7_feltAt hZ 62 63 rfl rfl (Nat.le_of_ble_eq_true rfl) ⟨by rw [hO.fr.m, hm]; exact m0, by rw [hO.fr.m, hm]; exact m1⟩ ?_
        rw [eF]
        refine k_X7_isRuleCell hZ 63 64 rfl rfl (Nat.le_of_ble_eq_true rfl) hvN ?_
        rw [eY]
        refine w_ifeq hZ 64 65 rfl rfl (fun c64 => ?_) (fun c64 => ?_)
        · refine w_const hZ 73 74 rfl rfl  ?_
          refine w_iret hZ 74 rfl ?_
          have hn : ¬ crG V F j := fun z => z.elim (b2i_z.mp c57) (b2i_z.mp c64)
          have hE2 := hE.u
          rw [crF_n hn, List.append_nil] at hE2
          refine ok _ (stp_66y hFi h61 hg2.u h2m) rfl N ?_
          rw [hE2]
          exact hO
        · refine w_aload hZ 65 66 rfl rfl rfl ?_
          refine w_aload hZ 66 67 rfl rfl rfl ?_
          refine w_aload hZ 67 68 rfl rfl rfl ?_
          refine w_getiv hZ 68 69 rfl rfl rfl rfl rfl (v := j) hpl ?_
          refine k_X7_feltAt hZ 69 70 rfl rfl (Nat.le_of_ble_eq_true rfl) ⟨by rw [hO.fr.m, hm]; exact m0, by rw [hO.fr.m, hm]; exact m1⟩ ?_
          rw [eF]
          refine w_const hZ 70 71 rfl rfl  ?_
          have hgg : crG V F j := by
            first
              | exact Or.inl (b2i_e.mp c57)
              | exact Or.inr (b2i_e.mp c64)
          refine k_X7_giveLetters hZ 71 72 rfl rfl (Nat.le_of_ble_eq_true rfl) ⟨hvN, by rw [eY]; exact hgg, by omega, by omega, by omega, by omega, (b2i_t (p := true = true) rfl).symm⟩ (fun M71 p71 => ?_)
          refine w_goto hZ 72 52 rfl ?_
          exact step hgg _ p71
  refine w_aload hZ 0 1 rfl rfl rfl ?_
  refine w_dup hZ 1 2 rfl rfl rfl ?_
  refine w_getiv hZ 2 3 rfl rfl rfl rfl rfl (v := i) hi ?_
  refine w_const hZ 3 4 rfl rfl  ?_
  refine w_add hZ 4 5 rfl rfl (by unfold InR; omega) ?_
  refine w_puti hZ 5 6 rfl rfl rfl rfl rfl ?_
  refine gen_mem (P := fun N => OG [] M N (i + 1) (M 73 21) (M 73 19)) ((OG_nil M).place (i + 1)) (fun N hN => ?_)
  have h18 : N 73 18 = M 73 18 := by have := hN.1; simpa using this
  have eY : YV N = V := by rw [hN.fr.yv]; exact hV
  have eF : FY N = F := by rw [hN.fr.fy]; exact hF
  have hvN : vOk (YV N) := by rw [eY]; exact hvo
  refine w_aload hZ 6 7 rfl rfl rfl ?_
  refine w_aload hZ 7 8 rfl rfl rfl ?_
  refine w_getiv hZ 8 9 rfl rfl rfl rfl rfl (v := i + 1) hN.2.2.2.1 ?_
  refine k_X7_feltAt hZ 9 10 rfl rfl (Nat.le_of_ble_eq_true rfl) ⟨by rw [hN.fr.m, hm]; exact m0, by rw [hN.fr.m, hm]; exact m1⟩ ?_
  rw [eF]
  refine w_st2_1 hZ 10 11 rfl rfl rfl ?_
  refine w_iload hZ 11 12 rfl rfl rfl ?_
  refine k_X7_isLetterCell hZ 12 13 rfl rfl (Nat.le_of_ble_eq_true rfl)  ?_
  refine w_ifeq hZ 13 14 rfl rfl (fun c13 => ?_) (fun c13 => ?_)
  · refine w_iload hZ 20 21 rfl rfl rfl ?_
    refine w_const hZ 21 22 rfl rfl  ?_
    refine w_ceq hZ 22 23 rfl rfl (fun c22 => ?_) (fun c22 => ?_)
    · refine w_aload hZ 28 29 rfl rfl rfl ?_
      refine w_dup hZ 29 30 rfl rfl rfl ?_
      refine w_getiv hZ 30 31 rfl rfl rfl rfl rfl (v := i + 1) hN.2.2.2.1 ?_
      refine w_const hZ 31 32 rfl rfl  ?_
      refine w_add hZ 32 33 rfl rfl (by unfold InR; omega) ?_
      refine w_puti hZ 33 34 rfl rfl rfl rfl rfl ?_
      refine gen_mem (P := fun N => OG [] M N (i + 2) (M 73 21) (M 73 19)) ((hN.place (i + 1 + 1)).pl (by omega)) (fun P hP => ?_)
      have eY2 : YV P = V := by rw [hP.fr.yv]; exact hV
      have eF2 : FY P = F := by rw [hP.fr.fy]; exact hF
      have hvP : vOk (YV P) := by rw [eY2]; exact hvo
      refine w_aload hZ 34 35 rfl rfl rfl ?_
      refine w_aload hZ 35 36 rfl rfl rfl ?_
      refine w_getiv hZ 36 37 rfl rfl rfl rfl rfl (v := i + 2) hP.2.2.2.1 ?_
      refine k_X7_feltAt hZ 37 38 rfl rfl (Nat.le_of_ble_eq_true rfl) ⟨by rw [hP.fr.m, hm]; exact m0, by rw [hP.fr.m, hm]; exact m1⟩ ?_
      rw [eF2]
      refine k_X7_isLetterCell hZ 38 39 rfl rfl (Nat.le_of_ble_eq_true rfl)  ?_
      refine w_ifne hZ 39 40 rfl rfl (fun c39 => ?_) (fun c39 => ?_)
      · have hgg : crG V F (i + 2) := by
          first
            | exact Or.inl (b2i_e.mp c39)
            | exact Or.inr (b2i_e.mp c46)
        have hjm : i + 2 < m := by
          rcases Int.lt_or_le (i + 2) m with q | q
          · exact q
          · have q2 := hFm (i + 2) q
            rw [show crG V F (i + 2) = (isLC (F (i + 2)) ∨ isRl V (F (i + 2))) from rfl, q2] at hgg
            simp only [isLC, isRl, isRC] at hgg
            omega
        exact loop c22 hgg hjm _ _ (i + 2) [] P rfl (Int.le_refl _) (by omega) hP (by simp) rfl
      · refine w_aload hZ 40 41 rfl rfl rfl ?_
        refine w_aload hZ 41 42 rfl rfl rfl ?_
        refine w_aload hZ 42 43 rfl rfl rfl ?_
        refine w_getiv hZ 43 44 rfl rfl rfl rfl rfl (v := i + 2) hP.2.2.2.1 ?_
        refine k_X7_feltAt hZ 44 45 rfl rfl (Nat.le_of_ble_eq_true rfl) ⟨by rw [hP.fr.m, hm]; exact m0, by rw [hP.fr.m, hm]; exact m1⟩ ?_
        rw [eF2]
        refine k_X7_isRuleCell hZ 45 46 rfl rfl (Nat.le_of_ble_eq_true rfl) hvP ?_
        rw [eY2]
        refine w_ifne hZ 46 47 rfl rfl (fun c46 => ?_) (fun c46 => ?_)
        · have hgg : crG V F (i + 2) := by
            first
              | exact Or.inl (b2i_e.mp c39)
              | exact Or.inr (b2i_e.mp c46)
          have hjm : i + 2 < m := by
            rcases Int.lt_or_le (i + 2) m with q | q
            · exact q
            · have q2 := hFm (i + 2) q
              rw [show crG V F (i + 2) = (isLC (F (i + 2)) ∨ isRl V (F (i + 2))) from rfl, q2] at hgg
              simp only [isLC, isRl, isRC] at hgg
              omega
          exact loop c22 hgg hjm _ _ (i + 2) [] P rfl (Int.le_refl _) (by omega) hP (by simp) rfl
        · refine w_aload hZ 47 48 rfl rfl rfl ?_
          refine w_aload hZ 48 49 rfl rfl rfl ?_
          refine w_getiv hZ 49 50 rfl rfl rfl rfl rfl (v := i + 2) hP.2.2.2.1 ?_
          refine k_X7_faults hZ 50 51 rfl rfl (Nat.le_of_ble_eq_true rfl) ⟨hvP, by rw [hP.fr.m, hm]; exact m0, by rw [hP.fr.m, hm]; exact m1⟩ (fun M50 p50 => ?_)
          refine w_iret hZ 51 rfl ?_
          rw [eY2, eF2]
          have h12 := fk_12 V (F (i + 2))
          refine bad _ (stp_66n hFi c22 (fun z => z.elim (b2i_z.mp c39) (b2i_z.mp c46))) _ _ rfl (by show ¬ fk V (F (i + 2)) = 0; omega) ?_ ?_
          · rw [p50]; simp [mup_at]
          · rw [p50]; exact hP.fr.put (by omega) _
    · refine w_aload hZ 23 24 rfl rfl rfl ?_
      refine w_aload hZ 24 25 rfl rfl rfl ?_
      refine w_getiv hZ 25 26 rfl rfl rfl rfl rfl (v := i + 1) hN.2.2.2.1 ?_
      refine k_X7_faults hZ 26 27 rfl rfl (Nat.le_of_ble_eq_true rfl) ⟨hvN, by rw [hN.fr.m, hm]; exact m0, by rw [hN.fr.m, hm]; exact m1⟩ (fun M26 p26 => ?_)
      refine w_iret hZ 27 rfl ?_
      rw [eY, eF]
      have h12 := fk_12 V (F (i + 1))
      refine bad _ (stp_60f hFi c22 (b2i_z.mp c13)) _ _ rfl (by show ¬ fk V (F (i + 1)) = 0; omega) ?_ ?_
      · rw [p26]; simp [mup_at]
      · rw [p26]; exact hN.fr.put (by omega) _
  · refine w_aload hZ 14 15 rfl rfl rfl ?_
    refine w_iload hZ 15 16 rfl rfl rfl ?_
    refine w_const hZ 16 17 rfl rfl  ?_
    refine k_X7_giveLetters hZ 17 18 rfl rfl (Nat.le_of_ble_eq_true rfl) ⟨hvN, Or.inl (b2i_e.mp c13), by omega, by omega, by rw [hN.2.2.2.1]; omega, by rw [hN.2.2.2.1]; omega, (b2i_t (p := true = true) rfl).symm⟩ (fun M17 p17 => ?_)
    refine w_const hZ 18 19 rfl rfl  ?_
    refine w_iret hZ 19 rfl ?_
    have h2 := hN.trans p17 s0
    rw [if_pos rfl, hN.2.2.2.1, hN.2.2.2.2.1, hN.2.2.2.2.2.1] at h2
    have hlt : ltrs (YV N) (F (i + 1)) 65 = [65 + F (i + 1) - 1] := by unfold ltrs; rw [if_pos (b2i_e.mp c13)]
    rw [hlt] at h2
    exact ok _ (stp_60L hFi (b2i_e.mp c13)) rfl _ (h2.pl (show i + 1 + 1 = i + 2 by omega))
set_option maxRecDepth 100000 in
set_option maxHeartbeats 4000000 in
theorem ao_X7_readGreat : AllOk yX7_readGreat.cls cX7_readGreat 2 3 70 (some .int) none pc_X7_readGreat 0 cd_X7_readGreat := ⟨s_aload_n (k := 0) (by decide +kernel) rfl rfl, ⟨s_dup (by decide +kernel) rfl, ⟨s_get (C := RX7) (T := TX7) (N := 22) rfl inT7 (by decide) tw_3_179 (by decide +kernel) rfl, ⟨s_iconst (by decide +kernel) rfl ⟨by decide, by decide⟩, ⟨s_add (by decide +kernel) rfl, ⟨s_puti (C := RX7) (T := TX7) (N := 22) (tyf := tyX7) rfl inT7 tyX7_ok nmX7 (by decide) rfl rfl tw_3_179 (by decide +kernel) rfl, ⟨s_aload_n (k := 0) (by decide +kernel) rfl rfl, ⟨s_aload_n (k := 0) (by decide +kernel) rfl rfl, ⟨s_get (C := RX7) (T := TX7) (N := 22) rfl inT7 (by decide) tw_3_179 (by decide +kernel) rfl, ⟨s_callV (C := RX7) (T := TX7) (N := 22) rfl ct_X7_feltAt (by decide) (by decide) ⟨rfl, by decide +kernel, by decide +kernel, by decide +kernel⟩ tw_4_219 tw_4_221 ts_5_1 tw_1_8 tw_4_222 (by decide +kernel) rfl, ⟨s_istore_n (k := 1) (by decide +kernel) rfl rfl, ⟨s_iload_n (k := 1) (by decide +kernel) rfl rfl, ⟨s_callS ct_X7_isLetterCell (by decide) (by decide) ⟨by decide +kernel, by decide +kernel, by decide +kernel⟩ tw_4_223 tw_4_224 tw_1_8 tw_4_225 (by decide +kernel) rfl, ⟨s_ifeq (off := (11)) (by decide +kernel) rfl rfl, ⟨s_aload_n (k := 0) (by decide +kernel) rfl rfl, ⟨s_iload_n (k := 1) (by decide +kernel) rfl rfl, ⟨s_iconst (by decide +kernel) rfl ⟨by decide, by decide⟩, ⟨s_callV (C := RX7) (T := TX7) (N := 22) rfl ct_X7_giveLetters (by decide) (by decide) ⟨rfl, by decide +kernel, by decide +kernel, by decide +kernel⟩ tw_4_231 tw_4_233 ts_5_3 tw_1_8 tw_4_234 (by decide +kernel) rfl, ⟨s_iconst (by decide +kernel) rfl ⟨by decide, by decide⟩, ⟨s_iret rfl (by decide +kernel), ⟨s_iload_n (k := 1) (by decide +kernel) rfl rfl, ⟨s_bipush (by decide +kernel) rfl ⟨by decide, by decide⟩ (by decide +kernel), ⟨s_ceq (off := (12)) (by decide +kernel) rfl rfl, ⟨s_aload_n (k := 0) (by decide +kernel) rfl rfl, ⟨s_aload_n (k := 0) (by decide +kernel) rfl rfl, ⟨s_get (C := RX7) (T := TX7) (N := 22) rfl inT7 (by decide) tw_3_179 (by decide +kernel) rfl, ⟨s_callV (C := RX7) (T := TX7) (N := 22) rfl ct_X7_faults (by decide) (by decide) ⟨rfl, by decide +kernel, by decide +kernel, by decide +kernel⟩ tw_5_3 tw_5_5 ts_5_6 tw_1_8 tw_5_6 (by decide +kernel) rfl, ⟨s_iret rfl (by decide +kernel), ⟨s_aload_n (k := 0) (by decide +kernel) rfl rfl, ⟨s_dup (by decide +kernel) rfl, ⟨s_get (C := RX7) (T := TX7) (N := 22) rfl inT7 (by decide) tw_3_179 (by decide +kernel) rfl, ⟨s_iconst (by decide +kernel) rfl ⟨by decide, by decide⟩, ⟨s_add (by decide +kernel) rfl, ⟨s_puti (C := RX7) (T := TX7) (N := 22) (tyf := tyX7) rfl inT7 tyX7_ok nmX7 (by decide) rfl rfl tw_3_179 (by decide +kernel) rfl, ⟨s_aload_n (k := 0) (by decide +kernel) rfl rfl, ⟨s_aload_n (k := 0) (by decide +kernel) rfl rfl, ⟨s_get (C := RX7) (T := TX7) (N := 22) rfl inT7 (by decide) tw_3_179 (by decide +kernel) rfl, ⟨s_callV (C := RX7) (T := TX7) (N := 22) rfl ct_X7_feltAt (by decide) (by decide) ⟨rfl, by decide +kernel, by decide +kernel, by decide +kernel⟩ tw_4_219 tw_4_221 ts_5_1 tw_1_8 tw_4_222 (by decide +kernel) rfl, ⟨s_callS ct_X7_isLetterCell (by decide) (by decide) ⟨by decide +kernel, by decide +kernel, by decide +kernel⟩ tw_4_223 tw_4_224 tw_1_8 tw_4_225 (by decide +kernel) rfl, ⟨s_ifne (off := (27)) (by decide +kernel) rfl rfl, ⟨s_aload_n (k := 0) (by decide +kernel) rfl rfl, ⟨s_aload_n (k := 0) (by decide +kernel) rfl rfl, ⟨s_aload_n (k := 0) (by decide +kernel) rfl rfl, ⟨s_get (C := RX7) (T := TX7) (N := 22) rfl inT7 (by decide) tw_3_179 (by decide +kernel) rfl, ⟨s_callV (C := RX7) (T := TX7) (N := 22) rfl ct_X7_feltAt (by decide) (by decide) ⟨rfl, by decide +kernel, by decide +kernel, by decide +kernel⟩ tw_4_219 tw_4_221 ts_5_1 tw_1_8 tw_4_222 (by decide +kernel) rfl, ⟨s_callV (C := RX7) (T := TX7) (N := 22) rfl ct_X7_isRuleCell (by decide) (by decide) ⟨rfl, by decide +kernel, by decide +kernel, by decide +kernel⟩ tw_4_227 tw_4_229 ts_5_2 tw_1_8 tw_4_230 (by decide +kernel) rfl, ⟨s_ifne (off := (12)) (by decide +kernel) rfl rfl, ⟨s_aload_n (k := 0) (by decide +kernel) rfl rfl, ⟨s_aload_n (k := 0) (by decide +kernel) rfl rfl, ⟨s_get (C := RX7) (T := TX7) (N := 22) rfl inT7 (by decide) tw_3_179 (by decide +kernel) rfl, ⟨s_callV (C := RX7) (T := TX7) (N := 22) rfl ct_X7_faults (by decide) (by decide) ⟨rfl, by decide +kernel, by decide +kernel, by decide +kernel⟩ tw_5_3 tw_5_5 ts_5_6 tw_1_8 tw_5_6 (by decide +kernel) rfl, ⟨s_iret rfl (by decide +kernel), ⟨s_aload_n (k := 0) (by decide +kernel) rfl rfl, ⟨s_aload_n (k := 0) (by decide +kernel) rfl rfl, ⟨s_get (C := RX7) (T := TX7) (N := 22) rfl inT7 (by decide) tw_3_179 (by decide +kernel) rfl, ⟨s_callV (C := RX7) (T := TX7) (N := 22) rfl ct_X7_feltAt (by decide) (by decide) ⟨rfl, by decide +kernel, by decide +kernel, by decide +kernel⟩ tw_4_219 tw_4_221 ts_5_1 tw_1_8 tw_4_222 (by decide +kernel) rfl, ⟨s_callS ct_X7_isLetterCell (by decide) (by decide) ⟨by decide +kernel, by decide +kernel, by decide +kernel⟩ tw_4_223 tw_4_224 tw_1_8 tw_4_225 (by decide +kernel) rfl, ⟨s_ifne (off := (18)) (by decide +kernel) rfl rfl, ⟨s_aload_n (k := 0) (by decide +kernel) rfl rfl, ⟨s_aload_n (k := 0) (by decide +kernel) rfl rfl, ⟨s_aload_n (k := 0) (by decide +kernel) rfl rfl, ⟨s_get (C := RX7) (T := TX7) (N := 22) rfl inT7 (by decide) tw_3_179 (by decide +kernel) rfl, ⟨s_callV (C := RX7) (T := TX7) (N := 22) rfl ct_X7_feltAt (by decide) (by decide) ⟨rfl, by decide +kernel, by decide +kernel, by decide +kernel⟩ tw_4_219 tw_4_221 ts_5_1 tw_1_8 tw_4_222 (by decide +kernel) rfl, ⟨s_callV (C := RX7) (T := TX7) (N := 22) rfl ct_X7_isRuleCell (by decide) (by decide) ⟨rfl, by decide +kernel, by decide +kernel, by decide +kernel⟩ tw_4_227 tw_4_229 ts_5_2 tw_1_8 tw_4_230 (by decide +kernel) rfl, ⟨s_ifeq (off := (19)) (by decide +kernel) rfl rfl, ⟨s_aload_n (k := 0) (by decide +kernel) rfl rfl, ⟨s_aload_n (k := 0) (by decide +kernel) rfl rfl, ⟨s_aload_n (k := 0) (by decide +kernel) rfl rfl, ⟨s_get (C := RX7) (T := TX7) (N := 22) rfl inT7 (by decide) tw_3_179 (by decide +kernel) rfl, ⟨s_callV (C := RX7) (T := TX7) (N := 22) rfl ct_X7_feltAt (by decide) (by decide) ⟨rfl, by decide +kernel, by decide +kernel, by decide +kernel⟩ tw_4_219 tw_4_221 ts_5_1 tw_1_8 tw_4_222 (by decide +kernel) rfl, ⟨s_iconst (by decide +kernel) rfl ⟨by decide, by decide⟩, ⟨s_callV (C := RX7) (T := TX7) (N := 22) rfl ct_X7_giveLetters (by decide) (by decide) ⟨rfl, by decide +kernel, by decide +kernel, by decide +kernel⟩ tw_4_231 tw_4_233 ts_5_3 tw_1_8 tw_4_234 (by decide +kernel) rfl, ⟨s_goto (off := (-42)) (by decide +kernel) rfl, ⟨s_iconst (by decide +kernel) rfl ⟨by decide, by decide⟩, ⟨s_iret rfl (by decide +kernel), trivial⟩⟩⟩⟩⟩⟩⟩⟩⟩⟩⟩⟩⟩⟩⟩⟩⟩⟩⟩⟩⟩⟩⟩⟩⟩⟩⟩⟩⟩⟩⟩⟩⟩⟩⟩⟩⟩⟩⟩⟩⟩⟩⟩⟩⟩⟩⟩⟩⟩⟩⟩⟩⟩⟩⟩⟩⟩⟩⟩⟩⟩⟩⟩⟩⟩⟩⟩⟩⟩⟩⟩⟩⟩⟩⟩
theorem ct_X7_readGreat : Ctr yX7_readGreat cX7_readGreat 2 (some .int) 3 70 sp_X7_readGreat := by
  refine ctr_of (by decide +kernel) ao_X7_readGreat rfl ?_
  rintro av M Ret ⟨fe, rfl, hp, hR⟩ hok hM
  exact ⟨Nat.le_of_ble_eq_true rfl, fun Z hZ => b_X7_readGreat fe  M Ret hp hR hM Z hZ⟩
def sp_X7_readFigures : SP := fun av M Ret => ∃ fe : Int, av = [mr 73] ∧ (RP M ∧ FY M (M 73 20) = 61) ∧ (∀ M2 : Mem, (PS (stp (YV M) (FY M) (M 73 16) (M 73 20) fe) M M2 (stp (YV M) (FY M) (M 73 16) (M 73 20) fe).2.2.2.1) → Ret (some (mi ((stp (YV M) (FY M) (M 73 16) (M 73 20) fe).1))) M2)
theorem k_X7_readFigures {code : List Sem} {Z : KZ} {Ret : KR} {ls : List (Option MV)} {M : Mem} {r : List MV} (hZ : Sim code Z Ret) (ip np : Nat) {fe : Int}  (hc : code[ip]? = some (I_callV 7 0 sp_X7_readFigures)) (hn : ip + 1 = np) (h3 : catS r ≤ 8)  (hp : RP M ∧ FY M (M 73 20) = 61) (kz : ∀ M2 : Mem, (PS (stp (YV M) (FY M) (M 73 16) (M 73 20) fe) M M2 (stp (YV M) (FY M) (M 73 16) (M 73 20) fe).2.2.2.1) → Z np ls (mi ((stp (YV M) (FY M) (M 73 16) (M 73 20) fe).1) :: r) M2) : Z ip ls (mr 73 :: r) M := w_callV0 hZ ip np hc hn rfl rfl h3 ⟨_, rfl, hp, fun M2 h => kz M2 h⟩
def cd_X7_readFigures : List Sem := [I_aload 0, I_dup, I_get 7 20, I_const (1), I_add, I_puti 7 20, I_aload 0, I_aload 0, I_get 7 20, I_callV 7 1 sp_X7_feltAt, I_callS 1 sp_X7_isFigureCell, I_ifne 17, I_aload 0, I_aload 0, I_get 7 20, I_callV 7 1 sp_X7_faults, I_iret, I_const (1), I_istore 1, I_iload 1, I_ifeq 81, I_aload 0, I_aload 0, I_get 7 20, I_callV 7 1 sp_X7_feltAt, I_istore 2, I_iload 2, I_callS 1 sp_X7_isFigureCell, I_ifeq 40, I_aload 0, I_iload 2, I_const (10), I_cne 35, I_const (48), I_goto 38, I_const (48), I_iload 2, I_add, I_callV 7 1 sp_X7_give, I_goto 48, I_aload 0, I_iload 2, I_const (27), I_cne 46, I_const (46), I_goto 47, I_const (44), I_callV 7 1 sp_X7_give, I_aload 0, I_dup, I_get 7 20, I_const (1), I_add, I_puti 7 20, I_aload 0, I_aload 0, I_get 7 20, I_callV 7 1 sp_X7_feltAt, I_istore 2, I_iload 2, I_callS 1 sp_X7_isFigureCell, I_ifne 76, I_iload 2, I_const (27), I_ceq 68, I_iload 2, I_const (28), I_cne 78, I_aload 0, I_aload 0, I_get 7 20, I_const (1), I_add, I_callV 7 1 sp_X7_feltAt, I_callS 1 sp_X7_isFigureCell, I_ifeq 78, I_const (1), I_goto 79, I_const (0), I_istore 1, I_goto 19, I_aload 0, I_aload 0, I_get 7 20, I_puti 7 21, I_const (0), I_iret]
def pc_X7_readFigures : List Nat := [0, 1, 2, 5, 6, 7, 10, 11, 12, 15, 18, 21, 24, 25, 26, 29, 32, 33, 34, 35, 36, 39, 40, 41, 44, 47, 48, 49, 52, 55, 56, 57, 59, 62, 64, 67, 69, 70, 71, 74, 77, 78, 79, 81, 84, 86, 89, 91, 94, 95, 96, 99, 100, 101, 104, 105, 106, 109, 112, 113, 114, 117, 120, 121, 123, 126, 127, 129, 132, 133, 134, 137, 138, 139, 142, 145, 148, 149, 152, 153, 154, 157, 158, 159, 162, 165, 166]
set_option maxRecDepth 100000 in
set_option maxHeartbeats 4000000 in
theorem b_X7_readFigures (fe : Int)  (M : Mem) (Ret : KR) (hp : RP M ∧ FY M (M 73 20) = 61) (hR : ∀ M2 : Mem, (PS (stp (YV M) (FY M) (M 73 16) (M 73 20) fe) M M2 (stp (YV M) (FY M) (M 73 16) (M 73 20) fe).2.2.2.1) → Ret (some (mi ((stp (YV M) (FY M) (M 73 16) (M 73 20) fe).1))) M2) (hM : MOk M) (Z : KZ) (hZ : Sim cd_X7_readFigures Z Ret) : Z 0 [some (mr 73), none, none] [] M := by
  obtain ⟨hRP, hFi⟩ := hp
  obtain ⟨hvo, m0, m1, i0, i1, s0, s1⟩ := hRP
  have hFm : ∀ j, M 73 16 ≤ j → FY M j = -1 := fun j hj => sgn_hi hj
  have hF0 : ∀ j, j < 0 → FY M j = -1 := fun j hj => sgn_lo hj
  have ok : ∀ r : RST, stp (YV M) (FY M) (M 73 16) (M 73 20) fe = r → r.1 = 0 → ∀ N : Mem, OG r.2.2.2.2 M N r.2.2.1 r.2.2.2.1 (M 73 19) → Ret (some (mi 0)) N := by
    intro r hr h0 N hN
    have q := hR N
    rw [hr, h0] at q
    exact q ⟨fun _ => hN, fun z => absurd h0 z, hN.fr⟩
  have bad : ∀ r : RST, stp (YV M) (FY M) (M 73 16) (M 73 20) fe = r → ∀ (N : Mem) (x : Int), x = r.1 → ¬ r.1 = 0 → N 73 19 = r.2.1 → FR M N → Ret (some (mi x)) N := by
    intro r hr N x hx h0 h1 h2
    have q := hR N
    rw [hr, ← hx] at q
    exact q ⟨fun z => absurd z h0, fun _ => h1, h2⟩
  obtain ⟨V, hV⟩ : ∃ V, YV M = V := ⟨_, rfl⟩
  obtain ⟨F, hF⟩ : ∃ F, FY M = F := ⟨_, rfl⟩
  obtain ⟨m, hm⟩ : ∃ m, M 73 16 = m := ⟨_, rfl⟩
  obtain ⟨i, hi⟩ : ∃ i, M 73 20 = i := ⟨_, rfl⟩
  rw [hm] at m0 m1
  rw [hV] at hvo
  rw [hF, hm] at hFm
  rw [hF] at hF0
  rw [hi] at i0 i1 s1
  rw [hm] at i1
  rw [hV, hF, hm, hi] at ok bad
  rw [hF, hi] at hFi
  have loop : isFC (F (i + 1)) → ∀ (d : Nat) (j mo : Int) (D : List Int) (N : Mem), d = (m - j).toNat → i + 1 ≤ j → j ≤ m → (mo = 0 ∨ mo = 1) → Hid (mo = 1 ↔ frG F j) → OG D M N j (M 73 21) (M 73 19) → (D.length : Int) ≤ j - (i + 1) → Hid (frF F (m - (i + 1)).toNat (i + 1) = ((frF F (m - j).toNat j).1, D ++ (frF F (m - j).toNat j).2)) → Z 19 [some (mr 73), some (mi mo), none] [] N := by
    intro hfc d
    induction d using Nat.strongRecOn with
    | ind d ih =>
      intro j mo D N hd j0 j1 hmo hG hO hDl hE
      have hpl := hO.2.2.2.1
      have h18 := hO.1
      have eF : FY N = F := by rw [hO.fr.fy]; exact hF
      have hgm : frG F j → j < m := fun hg => by
        rcases Int.lt_or_eq_of_le j1 with q | q
        · exact q
        · have q2 := hFm j (by omega)
          rw [show frG F j = (isFC (F j) ∨ (isPCC (F j) ∧ isFC (F (j + 1)))) from rfl, q2] at hg
          simp only [isFC, isPCC] at hg
          omega
      have m48 : j < m → ∀ (D2 : List Int) (N2 : Mem), OG D2 M N2 j (M 73 21) (M 73 19) → (D2.length : Int) ≤ j + 1 - (i + 1) → Hid (frF F (m - (i + 1)).toNat (i + 1) = ((frF F (m - (j + 1)).toNat (j + 1)).1, D2 ++ (frF F (m - (j + 1)).toNat (j + 1)).2)) → Z 48 [some (mr 73), some (mi mo), some (mi (F j))] [] N2 := by
        intro hjm D2 N2 hO2 hD2 hE2
        have hpl2 := hO2.2.2.2.1
        have nxt : ∀ (N3 : Mem) (mo2 x : Int), (mo2 = 0 ∨ mo2 = 1) → (mo2 = 1 ↔ frG F (j + 1)) → OG D2 M N3 (j + 1) (M 73 21) (M 73 19) → Z 80 [some (mr 73), some (mi mo2), some (mi x)] [] N3 := by
          intro N3 mo2 x g1 g2 g3
          refine w_goto hZ 80 19 rfl ?_
          refine w_fg3_2 hZ ?_
          exact ih (m - (j + 1)).toNat (by omega) (j + 1) mo2 D2 N3 rfl (by omega) (by omega) g1 g2 g3 hD2 hE2
        refine w_aload hZ 48 49 rfl rfl rfl ?_
        refine w_dup hZ 49 50 rfl rfl rfl ?_
        refine w_getiv hZ 50 51 rfl rfl rfl rfl rfl (v := j) hpl2 ?_
        refine w_const hZ 51 52 rfl rfl  ?_
        refine w_add hZ 52 53 rfl rfl (by unfold InR; omega) ?_
        refine w_puti hZ 53 54 rfl rfl rfl rfl rfl ?_
        refine gen_mem (P := fun N => OG D2 M N (j + 1) (M 73 21) (M 73 19)) (hO2.place (j + 1)) (fun P hP => ?_)
        have eF2 : FY P = F := by rw [hP.fr.fy]; exact hF
        refine w_aload hZ 54 55 rfl rfl rfl ?_
        refine w_aload hZ 55 56 rfl rfl rfl ?_
        refine w_getiv hZ 56 57 rfl rfl rfl rfl rfl (v := j + 1) hP.2.2.2.1 ?_
        refine k_X7_feltAt hZ 57 58 rfl rfl (Nat.le_of_ble_eq_true rfl) ⟨by rw [hP.fr.m, hm]; exact m0, by rw [hP.fr.m, hm]; exact m1⟩ ?_
        rw [eF2]
        refine w_st3_2 hZ 58 59 rfl rfl rfl ?_
        refine w_iload hZ 59 60 rfl rfl rfl ?_
        refine k_X7_isFigureCell hZ 60 61 rfl rfl (Nat.le_of_ble_eq_true rfl)  ?_
        refine w_ifne hZ 61 62 rfl rfl (fun c61 => ?_) (fun c61 => ?_)
        · refine w_const hZ 76 77 rfl rfl  ?_
          refine w_goto hZ 77 79 rfl ?_
          refine w_st3_1 hZ 79 80 rfl rfl rfl ?_
          first
            | exact nxt P _ _ (Or.inr rfl) ⟨fun _ => Or.inl (b2i_e.mp c61), fun _ => rfl⟩ hP
            | exact nxt P _ _ (Or.inr rfl) ⟨fun _ => Or.inr ⟨Or.inl c64, b2i_e.mp c75⟩, fun _ => rfl⟩ hP
            | exact nxt P _ _ (Or.inr rfl) ⟨fun _ => Or.inr ⟨Or.inr c67, b2i_e.mp c75⟩, fun _ => rfl⟩ hP
            | exact nxt P _ _ (Or.inl rfl) ⟨fun z => absurd z (by decide), fun z => z.elim (fun z => absurd z (b2i_z.mp c61)) (fun z => absurd z.2 (b2i_z.mp c75))⟩ hP
            | exact nxt P _ _ (Or.inl rfl) ⟨fun z => absurd z (by decide), fun z => z.elim (fun z => absurd z (b2i_z.mp c61)) (fun z => z.1.elim (fun z => absurd z c64) (fun z => absurd z c67))⟩ hP
        · refine w_iload hZ 62 63 rfl rfl rfl ?_
          refine w_const hZ 63 64 rfl rfl  ?_
          refine w_ceq hZ 64 65 rfl rfl (fun c64 => ?_) (fun c64 => ?_)
          · refine w_aload hZ 68 69 rfl rfl rfl ?_
            refine w_aload hZ 69 70 rfl rfl rfl ?_
            refine w_getiv hZ 70 71 rfl rfl rfl rfl rfl (v := j + 1) hP.2.2.2.1 ?_
            refine w_const hZ 71 72 rfl rfl  ?_
            refine w_add hZ 72 73 rfl rfl (by unfold InR; omega) ?_
            refine k_X7_feltAt hZ 73 74 rfl rfl (Nat.le_of_ble_eq_true rfl) ⟨by rw [hP.fr.m, hm]; exact m0, by rw [hP.fr.m, hm]; exact m1⟩ ?_
            rw [eF2]
            refine k_X7_isFigureCell hZ 74 75 rfl rfl (Nat.le_of_ble_eq_true rfl)  ?_
            refine w_ifeq hZ 75 76 rfl rfl (fun c75 => ?_) (fun c75 => ?_)
            · refine w_const hZ 78 79 rfl rfl  ?_
              refine w_st3_1 hZ 79 80 rfl rfl rfl ?_
              first
                | exact nxt P _ _ (Or.inr rfl) ⟨fun _ => Or.inl (b2i_e.mp c61), fun _ => rfl⟩ hP
                | exact nxt P _ _ (Or.inr rfl) ⟨fun _ => Or.inr ⟨Or.inl c64, b2i_e.mp c75⟩, fun _ => rfl⟩ hP
                | exact nxt P _ _ (Or.inr rfl) ⟨fun _ => Or.inr ⟨Or.inr c67, b2i_e.mp c75⟩, fun _ => rfl⟩ hP
                | exact nxt P _ _ (Or.inl rfl) ⟨fun z => absurd z (by decide), fun z => z.elim (fun z => absurd z (b2i_z.mp c61)) (fun z => absurd z.2 (b2i_z.mp c75))⟩ hP
                | exact nxt P _ _ (Or.inl rfl) ⟨fun z => absurd z (by decide), fun z => z.elim (fun z => absurd z (b2i_z.mp c61)) (fun z => z.1.elim (fun z => absurd z c64) (fun z => absurd z c67))⟩ hP
            · refine w_const hZ 76 77 rfl rfl  ?_
              refine w_goto hZ 77 79 rfl ?_
              refine w_st3_1 hZ 79 80 rfl rfl rfl ?_
              first
                | exact nxt P _ _ (Or.inr rfl) ⟨fun _ => Or.inl (b2i_e.mp c61), fun _ => rfl⟩ hP
                | exact nxt P _ _ (Or.inr rfl) ⟨fun _ => Or.inr ⟨Or.inl c64, b2i_e.mp c75⟩, fun _ => rfl⟩ hP
                | exact nxt P _ _ (Or.inr rfl) ⟨fun _ => Or.inr ⟨Or.inr c67, b2i_e.mp c75⟩, fun _ => rfl⟩ hP
                | exact nxt P _ _ (Or.inl rfl) ⟨fun z => absurd z (by decide), fun z => z.elim (fun z => absurd z (b2i_z.mp c61)) (fun z => absurd z.2 (b2i_z.mp c75))⟩ hP
                | exact nxt P _ _ (Or.inl rfl) ⟨fun z => absurd z (by decide), fun z => z.elim (fun z => absurd z (b2i_z.mp c61)) (fun z => z.1.elim (fun z => absurd z c64) (fun z => absurd z c67))⟩ hP
          · refine w_iload hZ 65 66 rfl rfl rfl ?_
            refine w_const hZ 66 67 rfl rfl  ?_
            refine w_cne hZ 67 68 rfl rfl (fun c67 => ?_) (fun c67 => ?_)
            · refine w_const hZ 78 79 rfl rfl  ?_
              refine w_st3_1 hZ 79 80 rfl rfl rfl ?_
              first
                | exact nxt P _ _ (Or.inr rfl) ⟨fun _ => Or.inl (b2i_e.mp c61), fun _ => rfl⟩ hP
                | exact nxt P _ _ (Or.inr rfl) ⟨fun _ => Or.inr ⟨Or.inl c64, b2i_e.mp c75⟩, fun _ => rfl⟩ hP
                | exact nxt P _ _ (Or.inr rfl) ⟨fun _ => Or.inr ⟨Or.inr c67, b2i_e.mp c75⟩, fun _ => rfl⟩ hP
                | exact nxt P _ _ (Or.inl rfl) ⟨fun z => absurd z (by decide), fun z => z.elim (fun z => absurd z (b2i_z.mp c61)) (fun z => absurd z.2 (b2i_z.mp c75))⟩ hP
                | exact nxt P _ _ (Or.inl rfl) ⟨fun z => absurd z (by decide), fun z => z.elim (fun z => absurd z (b2i_z.mp c61)) (fun z => z.1.elim (fun z => absurd z c64) (fun z => absurd z c67))⟩ hP
            · refine w_aload hZ 68 69 rfl rfl rfl ?_
              refine w_aload hZ 69 70 rfl rfl rfl ?_
              refine w_getiv hZ 70 71 rfl rfl rfl rfl rfl (v := j + 1) hP.2.2.2.1 ?_
              refine w_const hZ 71 72 rfl rfl  ?_
              refine w_add hZ 72 73 rfl rfl (by unfold InR; omega) ?_
              refine k_X7_feltAt hZ 73 74 rfl rfl (Nat.le_of_ble_eq_true rfl) ⟨by rw [hP.fr.m, hm]; exact m0, by rw [hP.fr.m, hm]; exact m1⟩ ?_
              rw [eF2]
              refine k_X7_isFigureCell hZ 74 75 rfl rfl (Nat.le_of_ble_eq_true rfl)  ?_
              refine w_ifeq hZ 75 76 rfl rfl (fun c75 => ?_) (fun c75 => ?_)
              · refine w_const hZ 78 79 rfl rfl  ?_
                refine w_st3_1 hZ 79 80 rfl rfl rfl ?_
                first
                  | exact nxt P _ _ (Or.inr rfl) ⟨fun _ => Or.inl (b2i_e.mp c61), fun _ => rfl⟩ hP
                  | exact nxt P _ _ (Or.inr rfl) ⟨fun _ => Or.inr ⟨Or.inl c64, b2i_e.mp c75⟩, fun _ => rfl⟩ hP
                  | exact nxt P _ _ (Or.inr rfl) ⟨fun _ => Or.inr ⟨Or.inr c67, b2i_e.mp c75⟩, fun _ => rfl⟩ hP
                  | exact nxt P _ _ (Or.inl rfl) ⟨fun z => absurd z (by decide), fun z => z.elim (fun z => absurd z (b2i_z.mp c61)) (fun z => absurd z.2 (b2i_z.mp c75))⟩ hP
                  | exact nxt P _ _ (Or.inl rfl) ⟨fun z => absurd z (by decide), fun z => z.elim (fun z => absurd z (b2i_z.mp c61)) (fun z => z.1.elim (fun z => absurd z c64) (fun z => absurd z c67))⟩ hP
              · refine w_const hZ 76 77 rfl rfl  ?_
                refine w_goto hZ 77 79 rfl ?_
                refine w_st3_1 hZ 79 80 rfl rfl rfl ?_
                first
                  | exact nxt P _ _ (Or.inr rfl) ⟨fun _ => Or.inl (b2i_e.mp c61), fun _ => rfl⟩ hP
                  | exact nxt P _ _ (Or.inr rfl) ⟨fun _ => Or.inr ⟨Or.inl c64, b2i_e.mp c75⟩, fun _ => rfl⟩ hP
                  | exact nxt P _ _ (Or.inr rfl) ⟨fun _ => Or.inr ⟨Or.inr c67, b2i_e.mp c75⟩, fun _ => rfl⟩ hP
                  | exact nxt P _ _ (Or.inl rfl) ⟨fun z => absurd z (by decide), fun z => z.elim (fun z => absurd z (b2i_z.mp c61)) (fun z => absurd z.2 (b2i_z.mp c75))⟩ hP
                  | exact nxt P _ _ (Or.inl rfl) ⟨fun z => absurd z (by decide), fun z => z.elim (fun z => absurd z (b2i_z.mp c61)) (fun z => z.1.elim (fun z => absurd z c64) (fun z => absurd z c67))⟩ hP
      refine w_iload hZ 19 20 rfl rfl rfl ?_
      refine w_ifeq hZ 20 21 rfl rfl (fun c20 => ?_) (fun c20 => ?_)
      · refine w_aload hZ 81 82 rfl rfl rfl ?_
        refine w_aload hZ 82 83 rfl rfl rfl ?_
        refine w_getiv hZ 83 84 rfl rfl rfl rfl rfl (v := j) hpl ?_
        refine w_puti hZ 84 85 rfl rfl rfl rfl rfl ?_
        refine w_const hZ 85 86 rfl rfl  ?_
        refine w_iret hZ 86 rfl ?_
        have hn : ¬ frG F j := fun z => by have := hG.u.mpr z; omega
        have hE2 := hE.u
        rw [frF_n hn, List.append_nil] at hE2
        refine ok _ (stp_61y hFi hfc) rfl _ ?_
        rw [hE2]
        exact hO.figs j
      · have hg : frG F j := hG.u.mp (by omega)
        have hjm := hgm hg
        replace hg : Hid (frG F j) := hg
        replace hgm : True := trivial
        refine w_aload hZ 21 22 rfl rfl rfl ?_
        refine w_aload hZ 22 23 rfl rfl rfl ?_
        refine w_getiv hZ 23 24 rfl rfl rfl rfl rfl (v := j) hpl ?_
        refine k_X7_feltAt hZ 24 25 rfl rfl (Nat.le_of_ble_eq_true rfl) ⟨by rw [hO.fr.m, hm]; exact m0, by rw [hO.fr.m, hm]; exact m1⟩ ?_
        rw [eF]
        refine w_st3_2 hZ 25 26 rfl rfl rfl ?_
        refine w_iload hZ 26 27 rfl rfl rfl ?_
        refine k_X7_isFigureCell hZ 27 28 rfl rfl (Nat.le_of_ble_eq_true rfl)  ?_
        refine w_ifeq hZ 28 29 rfl rfl (fun c28 => ?_) (fun c28 => ?_)
        · refine w_aload hZ 40 41 rfl rfl rfl ?_
          refine w_iload hZ 41 42 rfl rfl rfl ?_
          refine w_const hZ 42 43 rfl rfl  ?_
          refine w_cne hZ 43 44 rfl rfl (fun c43 => ?_) (fun c43 => ?_)
          · refine w_const hZ 46 47 rfl rfl  ?_
            refine k_X7_give hZ 47 48 rfl rfl (Nat.le_of_ble_eq_true rfl) ⟨by omega, by omega⟩ (fun M47 p47 => ?_)
            have hE2 := hE.u
            first
              | (have c28b := b2i_e.mp (b2i_t c28 ▸ (by decide : ¬ (1 : Int) = 0))
                 rw [frF_f c28 hjm] at hE2
                 have hgv : ∀ x : Int, x = fgS (F j) → Z 48 [some (mr 73), some (mi mo), some (mi (F j))] [] (gvY N x) := fun x hx => by
                   subst hx
                   exact m48 hjm _ _ (hO.give s0 _) (by rw [List.length_append]; simp; omega) (by unfold Hid; rw [hE2, List.append_assoc]; rfl)
                 rw [p38]
                 first
                   | exact hgv _ (by unfold fgS; rw [if_pos c32])
                   | exact hgv _ (by unfold fgS; rw [if_neg c32]))
              | (have hpc : isPCC (F j) ∧ isFC (F (j + 1)) := hg.u.elim (fun z => absurd z (b2i_z.mp c28)) (fun z => z)
                 rw [frF_p (b2i_z.mp c28) hpc hjm] at hE2
                 have hgv : ∀ x : Int, x = mkS (F j) → Z 48 [some (mr 73), some (mi mo), some (mi (F j))] [] (gvY N x) := fun x hx => by
                   subst hx
                   exact m48 hjm _ _ (hO.give s0 _) (by rw [List.length_append]; simp; omega) (by unfold Hid; rw [hE2, List.append_assoc]; rfl)
                 rw [p47]
                 first
                   | exact hgv _ (by unfold mkS; rw [if_pos c43])
                   | exact hgv _ (by unfold mkS; rw [if_neg c43, if_pos (hpc.1.elim (fun z => absurd z c43) (fun z => z))]))
          · refine w_const hZ 44 45 rfl rfl  ?_
            refine w_goto hZ 45 47 rfl ?_
            refine k_X7_give hZ 47 48 rfl rfl (Nat.le_of_ble_eq_true rfl) ⟨by omega, by omega⟩ (fun M47 p47 => ?_)
            have hE2 := hE.u
            first
              | (have c28b := b2i_e.mp (b2i_t c28 ▸ (by decide : ¬ (1 : Int) = 0))
                 rw [frF_f c28 hjm] at hE2
                 have hgv : ∀ x : Int, x = fgS (F j) → Z 48 [some (mr 73), some (mi mo), some (mi (F j))] [] (gvY N x) := fun x hx => by
                   subst hx
                   exact m48 hjm _ _ (hO.give s0 _) (by rw [List.length_append]; simp; omega) (by unfold Hid; rw [hE2, List.append_assoc]; rfl)
                 rw [p38]
                 first
                   | exact hgv _ (by unfold fgS; rw [if_pos c32])
                   | exact hgv _ (by unfold fgS; rw [if_neg c32]))
              | (have hpc : isPCC (F j) ∧ isFC (F (j + 1)) := hg.u.elim (fun z => absurd z (b2i_z.mp c28)) (fun z => z)
                 rw [frF_p (b2i_z.mp c28) hpc hjm] at hE2
                 have hgv : ∀ x : Int, x = mkS (F j) → Z 48 [some (mr 73), some (mi mo), some (mi (F j))] [] (gvY N x) := fun x hx => by
                   subst hx
                   exact m48 hjm _ _ (hO.give s0 _) (by rw [List.length_append]; simp; omega) (by unfold Hid; rw [hE2, List.append_assoc]; rfl)
                 rw [p47]
                 first
                   | exact hgv _ (by unfold mkS; rw [if_pos c43])
                   | exact hgv _ (by unfold mkS; rw [if_neg c43, if_pos (hpc.1.elim (fun z => absurd z c43) (fun z => z))]))
        · replace c28 := b2i_e.mp c28
          have hfr := c28.1
          have hfr2 := c28.2
          refine w_aload hZ 29 30 rfl rfl rfl ?_
          refine w_iload hZ 30 31 rfl rfl rfl ?_
          refine w_const hZ 31 32 rfl rfl  ?_
          refine w_cne hZ 32 33 rfl rfl (fun c32 => ?_) (fun c32 => ?_)
          · refine w_const hZ 35 36 rfl rfl  ?_
            refine w_iload hZ 36 37 rfl rfl rfl ?_
            refine w_add hZ 37 38 rfl rfl (by unfold InR; omega) ?_
            refine k_X7_give hZ 38 39 rfl rfl (Nat.le_of_ble_eq_true rfl) ⟨by omega, by omega⟩ (fun M38 p38 => ?_)
            refine w_goto hZ 39 48 rfl ?_
            have hE2 := hE.u
            first
              | (have c28b := b2i_e.mp (b2i_t c28 ▸ (by decide : ¬ (1 : Int) = 0))
                 rw [frF_f c28 hjm] at hE2
                 have hgv : ∀ x : Int, x = fgS (F j) → Z 48 [some (mr 73), some (mi mo), some (mi (F j))] [] (gvY N x) := fun x hx => by
                   subst hx
                   exact m48 hjm _ _ (hO.give s0 _) (by rw [List.length_append]; simp; omega) (by unfold Hid; rw [hE2, List.append_assoc]; rfl)
                 rw [p38]
                 first
                   | exact hgv _ (by unfold fgS; rw [if_pos c32])
                   | exact hgv _ (by unfold fgS; rw [if_neg c32]))
              | (have hpc : isPCC (F j) ∧ isFC (F (j + 1)) := hg.u.elim (fun z => absurd z (b2i_z.mp c28)) (fun z => z)
                 rw [frF_p (b2i_z.mp c28) hpc hjm] at hE2
                 have hgv : ∀ x : Int, x = mkS (F j) → Z 48 [some (mr 73), some (mi mo), some (mi (F j))] [] (gvY N x) := fun x hx => by
                   subst hx
                   exact m48 hjm _ _ (hO.give s0 _) (by rw [List.length_append]; simp; omega) (by unfold Hid; rw [hE2, List.append_assoc]; rfl)
                 rw [p47]
                 first
                   | exact hgv _ (by unfold mkS; rw [if_pos c43])
                   | exact hgv _ (by unfold mkS; rw [if_neg c43, if_pos (hpc.1.elim (fun z => absurd z c43) (fun z => z))]))
          · refine w_const hZ 33 34 rfl rfl  ?_
            refine w_goto hZ 34 38 rfl ?_
            refine k_X7_give hZ 38 39 rfl rfl (Nat.le_of_ble_eq_true rfl) ⟨by omega, by omega⟩ (fun M38 p38 => ?_)
            refine w_goto hZ 39 48 rfl ?_
            have hE2 := hE.u
            first
              | (have c28b := b2i_e.mp (b2i_t c28 ▸ (by decide : ¬ (1 : Int) = 0))
                 rw [frF_f c28 hjm] at hE2
                 have hgv : ∀ x : Int, x = fgS (F j) → Z 48 [some (mr 73), some (mi mo), some (mi (F j))] [] (gvY N x) := fun x hx => by
                   subst hx
                   exact m48 hjm _ _ (hO.give s0 _) (by rw [List.length_append]; simp; omega) (by unfold Hid; rw [hE2, List.append_assoc]; rfl)
                 rw [p38]
                 first
                   | exact hgv _ (by unfold fgS; rw [if_pos c32])
                   | exact hgv _ (by unfold fgS; rw [if_neg c32]))
              | (have hpc : isPCC (F j) ∧ isFC (F (j + 1)) := hg.u.elim (fun z => absurd z (b2i_z.mp c28)) (fun z => z)
                 rw [frF_p (b2i_z.mp c28) hpc hjm] at hE2
                 have hgv : ∀ x : Int, x = mkS (F j) → Z 48 [some (mr 73), some (mi mo), some (mi (F j))] [] (gvY N x) := fun x hx => by
                   subst hx
                   exact m48 hjm _ _ (hO.give s0 _) (by rw [List.length_append]; simp; omega) (by unfold Hid; rw [hE2, List.append_assoc]; rfl)
                 rw [p47]
                 first
                   | exact hgv _ (by unfold mkS; rw [if_pos c43])
                   | exact hgv _ (by unfold mkS; rw [if_neg c43, if_pos (hpc.1.elim (fun z => absurd z c43) (fun z => z))]))
  refine w_aload hZ 0 1 rfl rfl rfl ?_
  refine w_dup hZ 1 2 rfl rfl rfl ?_
  refine w_getiv hZ 2 3 rfl rfl rfl rfl rfl (v := i) hi ?_
  refine w_const hZ 3 4 rfl rfl  ?_
  refine w_add hZ 4 5 rfl rfl (by unfold InR; omega) ?_
  refine w_puti hZ 5 6 rfl rfl rfl rfl rfl ?_
  refine gen_mem (P := fun N => OG [] M N (i + 1) (M 73 21) (M 73 19)) ((OG_nil M).place (i + 1)) (fun N hN => ?_)
  have eY : YV N = V := by rw [hN.fr.yv]; exact hV
  have eF : FY N = F := by rw [hN.fr.fy]; exact hF
  have hvN : vOk (YV N) := by rw [eY]; exact hvo
  refine w_aload hZ 6 7 rfl rfl rfl ?_
  refine w_aload hZ 7 8 rfl rfl rfl ?_
  refine w_getiv hZ 8 9 rfl rfl rfl rfl rfl (v := i + 1) hN.2.2.2.1 ?_
  refine k_X7_feltAt hZ 9 10 rfl rfl (Nat.le_of_ble_eq_true rfl) ⟨by rw [hN.fr.m, hm]; exact m0, by rw [hN.fr.m, hm]; exact m1⟩ ?_
  rw [eF]
  refine k_X7_isFigureCell hZ 10 11 rfl rfl (Nat.le_of_ble_eq_true rfl)  ?_
  refine w_ifne hZ 11 12 rfl rfl (fun c11 => ?_) (fun c11 => ?_)
  · refine w_const hZ 17 18 rfl rfl  ?_
    refine w_st3_1 hZ 18 19 rfl rfl rfl ?_
    exact loop (b2i_e.mp c11) _ (i + 1) 1 [] N rfl (Int.le_refl _) (by omega) (Or.inr rfl) ⟨fun _ => Or.inl (b2i_e.mp c11), fun _ => rfl⟩ hN (by simp) rfl
  · refine w_aload hZ 12 13 rfl rfl rfl ?_
    refine w_aload hZ 13 14 rfl rfl rfl ?_
    refine w_getiv hZ 14 15 rfl rfl rfl rfl rfl (v := i + 1) hN.2.2.2.1 ?_
    refine k_X7_faults hZ 15 16 rfl rfl (Nat.le_of_ble_eq_true rfl) ⟨hvN, by rw [hN.fr.m, hm]; exact m0, by rw [hN.fr.m, hm]; exact m1⟩ (fun M15 p15 => ?_)
    refine w_iret hZ 16 rfl ?_
    rw [eY, eF]
    have h12 := fk_12 V (F (i + 1))
    refine bad _ (stp_61n hFi (b2i_z.mp c11)) _ _ rfl (by show ¬ fk V (F (i + 1)) = 0; omega) ?_ ?_
    · rw [p15]; simp [mup_at]
    · rw [p15]; exact hN.fr.put (by omega) _
set_option maxRecDepth 100000 in
set_option maxHeartbeats 4000000 in
theorem ao_X7_readFigures : AllOk yX7_readFigures.cls cX7_readFigures 3 3 68 (some .int) none pc_X7_readFigures 0 cd_X7_readFigures := ⟨s_aload_n (k := 0) (by decide +kernel) rfl rfl, ⟨s_dup (by decide +kernel) rfl, ⟨s_get (C := RX7) (T := TX7) (N := 22) rfl inT7 (by decide) tw_3_179 (by decide +kernel) rfl, ⟨s_iconst (by decide +kernel) rfl ⟨by decide, by decide⟩, ⟨s_add (by decide +kernel) rfl, ⟨s_puti (C := RX7) (T := TX7) (N := 22) (tyf := tyX7) rfl inT7 tyX7_ok nmX7 (by decide) rfl rfl tw_3_179 (by decide +kernel) rfl, ⟨s_aload_n (k := 0) (by decide +kernel) rfl rfl, ⟨s_aload_n (k := 0) (by decide +kernel) rfl rfl, ⟨s_get (C := RX7) (T := TX7) (N := 22) rfl inT7 (by decide) tw_3_179 (by decide +kernel) rfl, ⟨s_callV (C := RX7) (T := TX7) (N := 22) rfl ct_X7_feltAt (by decide) (by decide) ⟨rfl, by decide +kernel, by decide +kernel, by decide +kernel⟩ tw_4_219 tw_4_221 ts_5_1 tw_1_8 tw_4_222 (by decide +kernel) rfl, ⟨s_callS ct_X7_isFigureCell (by decide) (by decide) ⟨by decide +kernel, by decide +kernel, by decide +kernel⟩ tw_5_11 tw_5_12 tw_1_8 tw_5_13 (by decide +kernel) rfl, ⟨s_ifne (off := (12)) (by decide +kernel) rfl rfl, ⟨s_aload_n (k := 0) (by decide +kernel) rfl rfl, ⟨s_aload_n (k := 0) (by decide +kernel) rfl rfl, ⟨s_get (C := RX7) (T := TX7) (N := 22) rfl inT7 (by decide) tw_3_179 (by decide +kernel) rfl, ⟨s_callV (C := RX7) (T := TX7) (N := 22) rfl ct_X7_faults (by decide) (by decide) ⟨rfl, by decide +kernel, by decide +kernel, by decide +kernel⟩ tw_5_3 tw_5_5 ts_5_6 tw_1_8 tw_5_6 (by decide +kernel) rfl, ⟨s_iret rfl (by decide +kernel), ⟨s_iconst (by decide +kernel) rfl ⟨by decide, by decide⟩, ⟨s_istore_n (k := 1) (by decide +kernel) rfl rfl, ⟨s_iload_n (k := 1) (by decide +kernel) rfl rfl, ⟨s_ifeq (off := (121)) (by decide +kernel) rfl rfl, ⟨s_aload_n (k := 0) (by decide +kernel) rfl rfl, ⟨s_aload_n (k := 0) (by decide +kernel) rfl rfl, ⟨s_get (C := RX7) (T := TX7) (N := 22) rfl inT7 (by decide) tw_3_179 (by decide +kernel) rfl, ⟨s_callV (C := RX7) (T := TX7) (N := 22) rfl ct_X7_feltAt (by decide) (by decide) ⟨rfl, by decide +kernel, by decide +kernel, by decide +kernel⟩ tw_4_219 tw_4_221 ts_5_1 tw_1_8 tw_4_222 (by decide +kernel) rfl, ⟨s_istore_n (k := 2) (by decide +kernel) rfl rfl, ⟨s_iload_n (k := 2) (by decide +kernel) rfl rfl, ⟨s_callS ct_X7_isFigureCell (by decide) (by decide) ⟨by decide +kernel, by decide +kernel, by decide +kernel⟩ tw_5_11 tw_5_12 tw_1_8 tw_5_13 (by decide +kernel) rfl, ⟨s_ifeq (off := (25)) (by decide +kernel) rfl rfl, ⟨s_aload_n (k := 0) (by decide +kernel) rfl rfl, ⟨s_iload_n (k := 2) (by decide +kernel) rfl rfl, ⟨s_bipush (by decide +kernel) rfl ⟨by decide, by decide⟩ (by decide +kernel), ⟨s_cne (off := (8)) (by decide +kernel) rfl rfl, ⟨s_bipush (by decide +kernel) rfl ⟨by decide, by decide⟩ (by decide +kernel), ⟨s_goto (off := (7)) (by decide +kernel) rfl, ⟨s_bipush (by decide +kernel) rfl ⟨by decide, by decide⟩ (by decide +kernel), ⟨s_iload_n (k := 2) (by decide +kernel) rfl rfl, ⟨s_add (by decide +kernel) rfl, ⟨s_callV (C := RX7) (T := TX7) (N := 22) rfl ct_X7_give (by decide) (by decide) ⟨rfl, by decide +kernel, by decide +kernel, by decide +kernel⟩ tw_4_235 tw_4_237 ts_5_4 tw_1_8 tw_4_238 (by decide +kernel) rfl, ⟨s_goto (off := (20)) (by decide +kernel) rfl, ⟨s_aload_n (k := 0) (by decide +kernel) rfl rfl, ⟨s_iload_n (k := 2) (by decide +kernel) rfl rfl, ⟨s_bipush (by decide +kernel) rfl ⟨by decide, by decide⟩ (by decide +kernel), ⟨s_cne (off := (8)) (by decide +kernel) rfl rfl, ⟨s_bipush (by decide +kernel) rfl ⟨by decide, by decide⟩ (by decide +kernel), ⟨s_goto (off := (5)) (by decide +kernel) rfl, ⟨s_bipush (by decide +kernel) rfl ⟨by decide, by decide⟩ (by decide +kernel), ⟨s_callV (C := RX7) (T := TX7) (N := 22) rfl ct_X7_give (by decide) (by decide) ⟨rfl, by decide +kernel, by decide +kernel, by decide +kernel⟩ tw_4_235 tw_4_237 ts_5_4 tw_1_8 tw_4_238 (by decide +kernel) rfl, ⟨s_aload_n (k := 0) (by decide +kernel) rfl rfl, ⟨s_dup (by decide +kernel) rfl, ⟨s_get (C := RX7) (T := TX7) (N := 22) rfl inT7 (by decide) tw_3_179 (by decide +kernel) rfl, ⟨s_iconst (by decide +kernel) rfl ⟨by decide, by decide⟩, ⟨s_add (by decide +kernel) rfl, ⟨s_puti (C := RX7) (T := TX7) (N := 22) (tyf := tyX7) rfl inT7 tyX7_ok nmX7 (by decide) rfl rfl tw_3_179 (by decide +kernel) rfl, ⟨s_aload_n (k := 0) (by decide +kernel) rfl rfl, ⟨s_aload_n (k := 0) (by decide +kernel) rfl rfl, ⟨s_get (C := RX7) (T := TX7) (N := 22) rfl inT7 (by decide) tw_3_179 (by decide +kernel) rfl, ⟨s_callV (C := RX7) (T := TX7) (N := 22) rfl ct_X7_feltAt (by decide) (by decide) ⟨rfl, by decide +kernel, by decide +kernel, by decide +kernel⟩ tw_4_219 tw_4_221 ts_5_1 tw_1_8 tw_4_222 (by decide +kernel) rfl, ⟨s_istore_n (k := 2) (by decide +kernel) rfl rfl, ⟨s_iload_n (k := 2) (by decide +kernel) rfl rfl, ⟨s_callS ct_X7_isFigureCell (by decide) (by decide) ⟨by decide +kernel, by decide +kernel, by decide +kernel⟩ tw_5_11 tw_5_12 tw_1_8 tw_5_13 (by decide +kernel) rfl, ⟨s_ifne (off := (31)) (by decide +kernel) rfl rfl, ⟨s_iload_n (k := 2) (by decide +kernel) rfl rfl, ⟨s_bipush (by decide +kernel) rfl ⟨by decide, by decide⟩ (by decide +kernel), ⟨s_ceq (off := (9)) (by decide +kernel) rfl rfl, ⟨s_iload_n (k := 2) (by decide +kernel) rfl rfl, ⟨s_bipush (by decide +kernel) rfl ⟨by decide, by decide⟩ (by decide +kernel), ⟨s_cne (off := (23)) (by decide +kernel) rfl rfl, ⟨s_aload_n (k := 0) (by decide +kernel) rfl rfl, ⟨s_aload_n (k := 0) (by decide +kernel) rfl rfl, ⟨s_get (C := RX7) (T := TX7) (N := 22) rfl inT7 (by decide) tw_3_179 (by decide +kernel) rfl, ⟨s_iconst (by decide +kernel) rfl ⟨by decide, by decide⟩, ⟨s_add (by decide +kernel) rfl, ⟨s_callV (C := RX7) (T := TX7) (N := 22) rfl ct_X7_feltAt (by decide) (by decide) ⟨rfl, by decide +kernel, by decide +kernel, by decide +kernel⟩ tw_4_219 tw_4_221 ts_5_1 tw_1_8 tw_4_222 (by decide +kernel) rfl, ⟨s_callS ct_X7_isFigureCell (by decide) (by decide) ⟨by decide +kernel, by decide +kernel, by decide +kernel⟩ tw_5_11 tw_5_12 tw_1_8 tw_5_13 (by decide +kernel) rfl, ⟨s_ifeq (off := (7)) (by decide +kernel) rfl rfl, ⟨s_iconst (by decide +kernel) rfl ⟨by decide, by decide⟩, ⟨s_goto (off := (4)) (by decide +kernel) rfl, ⟨s_iconst (by decide +kernel) rfl ⟨by decide, by decide⟩, ⟨s_istore_n (k := 1) (by decide +kernel) rfl rfl, ⟨s_goto (off := (-119)) (by decide +kernel) rfl, ⟨s_aload_n (k := 0) (by decide +kernel) rfl rfl, ⟨s_aload_n (k := 0) (by decide +kernel) rfl rfl, ⟨s_get (C := RX7) (T := TX7) (N := 22) rfl inT7 (by decide) tw_3_179 (by decide +kernel) rfl, ⟨s_puti (C := RX7) (T := TX7) (N := 22) (tyf := tyX7) rfl inT7 tyX7_ok nmX7 (by decide) rfl rfl tw_3_180 (by decide +kernel) rfl, ⟨s_iconst (by decide +kernel) rfl ⟨by decide, by decide⟩, ⟨s_iret rfl (by decide +kernel), trivial⟩⟩⟩⟩⟩⟩⟩⟩⟩⟩⟩⟩⟩⟩⟩⟩⟩⟩⟩⟩⟩⟩⟩⟩⟩⟩⟩⟩⟩⟩⟩⟩⟩⟩⟩⟩⟩⟩⟩⟩⟩⟩⟩⟩⟩⟩⟩⟩⟩⟩⟩⟩⟩⟩⟩⟩⟩⟩⟩⟩⟩⟩⟩⟩⟩⟩⟩⟩⟩⟩⟩⟩⟩⟩⟩⟩⟩⟩⟩⟩⟩⟩⟩⟩⟩⟩⟩
theorem ct_X7_readFigures : Ctr yX7_readFigures cX7_readFigures 3 (some .int) 3 68 sp_X7_readFigures := by
  refine ctr_of (by decide +kernel) ao_X7_readFigures rfl ?_
  rintro av M Ret ⟨fe, rfl, hp, hR⟩ hok hM
  exact ⟨Nat.le_of_ble_eq_true rfl, fun Z hZ => b_X7_readFigures fe  M Ret hp hR hM Z hZ⟩
def sp_X7_readLetters : SP := fun av M Ret => ∃ fe : Int, av = [mr 73] ∧ (RP M ∧ FY M (M 73 20) = 62 ∧ feR fe (M 73 21) ∧ M 73 21 ≤ 300) ∧ (∀ M2 : Mem, (PS (stp2 (YV M) (FY M) (M 73 16) (M 73 20) fe) M M2 (M 73 21)) → Ret (some (mi ((stp2 (YV M) (FY M) (M 73 16) (M 73 20) fe).1))) M2)
theorem k_X7_readLetters {code : List Sem} {Z : KZ} {Ret : KR} {ls : List (Option MV)} {M : Mem} {r : List MV} (hZ : Sim code Z Ret) (ip np : Nat) {fe : Int}  (hc : code[ip]? = some (I_callV 7 0 sp_X7_readLetters)) (hn : ip + 1 = np) (h3 : catS r ≤ 8)  (hp : RP M ∧ FY M (M 73 20) = 62 ∧ feR fe (M 73 21) ∧ M 73 21 ≤ 300) (kz : ∀ M2 : Mem, (PS (stp2 (YV M) (FY M) (M 73 16) (M 73 20) fe) M M2 (M 73 21)) → Z np ls (mi ((stp2 (YV M) (FY M) (M 73 16) (M 73 20) fe).1) :: r) M2) : Z ip ls (mr 73 :: r) M := w_callV0 hZ ip np hc hn rfl rfl h3 ⟨_, rfl, hp, fun M2 h => kz M2 h⟩
def cd_X7_readLetters : List Sem := [I_aload 0, I_aload 0, I_get 7 20, I_const (1), I_sub, I_callV 7 1 sp_X7_feltAt, I_istore 1, I_aload 0, I_get 7 21, I_ifle 30, I_aload 0, I_get 7 20, I_aload 0, I_get 7 21, I_ceq 28, I_aload 0, I_get 7 20, I_aload 0, I_get 7 21, I_const (1), I_add, I_cne 30, I_iload 1, I_const (27), I_ceq 28, I_iload 1, I_const (28), I_cne 30, I_const (1), I_goto 31, I_const (0), I_istore 2, I_aload 0, I_aload 0, I_get 7 20, I_const (1), I_add, I_callV 7 1 sp_X7_feltAt, I_istore 3, I_iload 2, I_ifeq 48, I_iload 3, I_callS 1 sp_X7_isFigureCell, I_ifne 54, I_aload 0, I_iload 3, I_callV 7 1 sp_X7_isRuleCell, I_ifne 54, I_aload 0, I_aload 0, I_get 7 20, I_puti 7 19, I_const (2), I_iret, I_aload 0, I_dup, I_get 7 20, I_const (1), I_add, I_puti 7 20, I_aload 0, I_iload 3, I_const (0), I_callV 7 2 sp_X7_giveLetters, I_const (0), I_iret]
def pc_X7_readLetters : List Nat := [0, 1, 2, 5, 6, 7, 10, 11, 12, 15, 18, 19, 22, 23, 26, 29, 30, 33, 34, 37, 38, 39, 42, 43, 45, 48, 49, 51, 54, 55, 58, 59, 60, 61, 62, 65, 66, 67, 70, 71, 72, 75, 76, 79, 82, 83, 84, 87, 90, 91, 92, 95, 98, 99, 100, 101, 102, 105, 106, 107, 110, 111, 112, 113, 116, 117]
set_option maxRecDepth 100000 in
set_option maxHeartbeats 4000000 in
theorem b_X7_readLetters (fe : Int)  (M : Mem) (Ret : KR) (hp : RP M ∧ FY M (M 73 20) = 62 ∧ feR fe (M 73 21) ∧ M 73 21 ≤ 300) (hR : ∀ M2 : Mem, (PS (stp2 (YV M) (FY M) (M 73 16) (M 73 20) fe) M M2 (M 73 21)) → Ret (some (mi ((stp2 (YV M) (FY M) (M 73 16) (M 73 20) fe).1))) M2) (hM : MOk M) (Z : KZ) (hZ : Sim cd_X7_readLetters Z Ret) : Z 0 [some (mr 73), none, none, none] [] M := by
  obtain ⟨hRP, ⟨hFi, hfe, hft⟩⟩ := hp
  obtain ⟨hvo, m0, m1, i0, i1, s0, s1⟩ := hRP
  have hFm : ∀ j, M 73 16 ≤ j → FY M j = -1 := fun j hj => sgn_hi hj
  have hF0 : ∀ j, j < 0 → FY M j = -1 := fun j hj => sgn_lo hj
  have ok : ∀ r : RST, stp2 (YV M) (FY M) (M 73 16) (M 73 20) fe = r → r.1 = 0 → ∀ N : Mem, OG r.2.2.2.2 M N r.2.2.1 (M 73 21) (M 73 19) → Ret (some (mi 0)) N := by
    intro r hr h0 N hN
    have q := hR N
    rw [hr, h0] at q
    exact q ⟨fun _ => hN, fun z => absurd h0 z, hN.fr⟩
  have bad : ∀ r : RST, stp2 (YV M) (FY M) (M 73 16) (M 73 20) fe = r → ∀ (N : Mem) (x : Int), x = r.1 → ¬ r.1 = 0 → N 73 19 = r.2.1 → FR M N → Ret (some (mi x)) N := by
    intro r hr N x hx h0 h1 h2
    have q := hR N
    rw [hr, ← hx] at q
    exact q ⟨fun z => absurd z h0, fun _ => h1, h2⟩
  obtain ⟨V, hV⟩ : ∃ V, YV M = V := ⟨_, rfl⟩
  obtain ⟨F, hF⟩ : ∃ F, FY M = F := ⟨_, rfl⟩
  obtain ⟨m, hm⟩ : ∃ m, M 73 16 = m := ⟨_, rfl⟩
  obtain ⟨i, hi⟩ : ∃ i, M 73 20 = i := ⟨_, rfl⟩
  rw [hm] at m0 m1
  rw [hV] at hvo
  rw [hF, hm] at hFm
  rw [hF] at hF0
  rw [hi] at i0 i1 s1
  rw [hm] at i1
  rw [hV, hF, hm, hi] at ok bad
  rw [hF, hi] at hFi
  have hfr : 0 ≤ M 73 21 := by rcases hfe with ⟨_, z⟩ | ⟨_, z⟩ <;> omega
  have hE2y : bhF F fe i ∧ (isFC (F (i + 1)) ∨ isRl V (F (i + 1))) → stp2 V F m i fe = (0, -1, i + 2, fe, ltrs V (F (i + 1)) 97) := fun h => by
    unfold stp2; rw [stp_62y hFi h, if_pos ⟨hFi, rfl⟩]
  have hE2n : ¬ (bhF F fe i ∧ (isFC (F (i + 1)) ∨ isRl V (F (i + 1)))) → stp2 V F m i fe = (2, i, i + 1, fe, []) := fun h => by
    unfold stp2; rw [stp_62n hFi h, if_neg (fun z => absurd z.2 (show ¬ (2 : Int) = 0 by decide))]
  replace hE2y : Hid (bhF F fe i ∧ (isFC (F (i + 1)) ∨ isRl V (F (i + 1))) → stp2 V F m i fe = (0, -1, i + 2, fe, ltrs V (F (i + 1)) 97)) := hE2y
  replace hE2n : Hid (¬ (bhF F fe i ∧ (isFC (F (i + 1)) ∨ isRl V (F (i + 1)))) → stp2 V F m i fe = (2, i, i + 1, fe, [])) := hE2n
  have m31 : ∀ x bv : Int, (bv = 0 ∨ bv = 1) → (bv = 1 ↔ bhF F fe i) → Z 31 [some (mr 73), some (mi x), none, none] [mi bv] M := by
    intro x bv h01 hb
    replace hb : Hid (bv = 1 ↔ bhF F fe i) := hb
    refine w_st4_2 hZ 31 32 rfl rfl rfl ?_
    refine w_aload hZ 32 33 rfl rfl rfl ?_
    refine w_aload hZ 33 34 rfl rfl rfl ?_
    refine w_getiv hZ 34 35 rfl rfl rfl rfl rfl (v := i) hi ?_
    refine w_const hZ 35 36 rfl rfl  ?_
    refine w_add hZ 36 37 rfl rfl (by unfold InR; omega) ?_
    refine k_X7_feltAt hZ 37 38 rfl rfl (Nat.le_of_ble_eq_true rfl) ⟨by omega, by omega⟩ ?_
    rw [hF]
    refine w_st4_3 hZ 38 39 rfl rfl rfl ?_
    refine w_iload hZ 39 40 rfl rfl rfl ?_
    refine w_ifeq hZ 40 41 rfl rfl (fun c40 => ?_) (fun c40 => ?_)
    · refine w_aload hZ 48 49 rfl rfl rfl ?_
      refine w_aload hZ 49 50 rfl rfl rfl ?_
      refine w_getiv hZ 50 51 rfl rfl rfl rfl rfl (v := i) hi ?_
      refine w_puti hZ 51 52 rfl rfl rfl rfl rfl ?_
      refine w_const hZ 52 53 rfl rfl  ?_
      refine w_iret hZ 53 rfl ?_
      refine bad _ (hE2n.u (fun z => ?_)) _ _ rfl (by show ¬ (2 : Int) = 0; decide) (by simp [mup_at]) ((FR.refl M).put (by omega) _)
      have hb1 := hb.u.mpr z.1
      first
        | omega
        | exact z.2.elim (b2i_z.mp c43) (b2i_z.mp c47)
    · refine w_iload hZ 41 42 rfl rfl rfl ?_
      refine k_X7_isFigureCell hZ 42 43 rfl rfl (Nat.le_of_ble_eq_true rfl)  ?_
      refine w_ifne hZ 43 44 rfl rfl (fun c43 => ?_) (fun c43 => ?_)
      · have hz : bhF F fe i ∧ (isFC (F (i + 1)) ∨ isRl V (F (i + 1))) := by
          refine ⟨hb.u.mp (by omega), ?_⟩
          first
            | exact Or.inl (b2i_e.mp c43)
            | exact Or.inr (b2i_e.mp c47)
        have hz1 := hz.2
        replace hz : Hid (bhF F fe i ∧ (isFC (F (i + 1)) ∨ isRl V (F (i + 1)))) := hz
        replace hz1 : Hid (isFC (F (i + 1)) ∨ isRl V (F (i + 1))) := hz1
        refine w_aload hZ 54 55 rfl rfl rfl ?_
        refine w_dup hZ 55 56 rfl rfl rfl ?_
        refine w_getiv hZ 56 57 rfl rfl rfl rfl rfl (v := i) hi ?_
        refine w_const hZ 57 58 rfl rfl  ?_
        refine w_add hZ 58 59 rfl rfl (by unfold InR; omega) ?_
        refine w_puti hZ 59 60 rfl rfl rfl rfl rfl ?_
        refine gen_mem (P := fun N => OG [] M N (i + 1) (M 73 21) (M 73 19)) ((OG_nil M).place (i + 1)) (fun N hN => ?_)
        have h18 : N 73 18 = M 73 18 := by have := hN.1; simpa using this
        have eY : YV N = V := by rw [hN.fr.yv]; exact hV
        have hvN : vOk (YV N) := by rw [eY]; exact hvo
        have hcc : isLC (F (i + 1)) ∨ isRl (YV N) (F (i + 1)) := by
          rw [eY]
          exact hz1.u.elim (fun z => Or.inl ⟨z.1, by have := z.2; omega⟩) Or.inr
        refine w_aload hZ 60 61 rfl rfl rfl ?_
        refine w_iload hZ 61 62 rfl rfl rfl ?_
        refine w_const hZ 62 63 rfl rfl  ?_
        refine k_X7_giveLetters hZ 63 64 rfl rfl (Nat.le_of_ble_eq_true rfl) ⟨hvN, hcc, by omega, by omega, by rw [hN.2.2.2.1]; omega, by rw [hN.2.2.2.1]; omega, (b2i_f (p := false = true) (by decide)).symm⟩ (fun M63 p63 => ?_)
        refine w_const hZ 64 65 rfl rfl  ?_
        refine w_iret hZ 65 rfl ?_
        have h2 := hN.trans p63 s0
        rw [if_neg (by decide), hN.2.2.2.1, hN.2.2.2.2.1, hN.2.2.2.2.2.1, eY] at h2
        exact ok _ (hE2y.u hz.u) rfl _ (h2.pl (show i + 1 + 1 = i + 2 by omega))
      · refine w_aload hZ 44 45 rfl rfl rfl ?_
        refine w_iload hZ 45 46 rfl rfl rfl ?_
        refine k_X7_isRuleCell hZ 46 47 rfl rfl (Nat.le_of_ble_eq_true rfl) (by rw [hV]; exact hvo) ?_
        rw [hV]
        refine w_ifne hZ 47 48 rfl rfl (fun c47 => ?_) (fun c47 => ?_)
        · have hz : bhF F fe i ∧ (isFC (F (i + 1)) ∨ isRl V (F (i + 1))) := by
            refine ⟨hb.u.mp (by omega), ?_⟩
            first
              | exact Or.inl (b2i_e.mp c43)
              | exact Or.inr (b2i_e.mp c47)
          have hz1 := hz.2
          replace hz : Hid (bhF F fe i ∧ (isFC (F (i + 1)) ∨ isRl V (F (i + 1)))) := hz
          replace hz1 : Hid (isFC (F (i + 1)) ∨ isRl V (F (i + 1))) := hz1
          refine w_aload hZ 54 55 rfl rfl rfl ?_
          refine w_dup hZ 55 56 rfl rfl rfl ?_
          refine w_getiv hZ 56 57 rfl rfl rfl rfl rfl (v := i) hi ?_
          refine w_const hZ 57 58 rfl rfl  ?_
          refine w_add hZ 58 59 rfl rfl (by unfold InR; omega) ?_
          refine w_puti hZ 59 60 rfl rfl rfl rfl rfl ?_
          refine gen_mem (P := fun N => OG [] M N (i + 1) (M 73 21) (M 73 19)) ((OG_nil M).place (i + 1)) (fun N hN => ?_)
          have h18 : N 73 18 = M 73 18 := by have := hN.1; simpa using this
          have eY : YV N = V := by rw [hN.fr.yv]; exact hV
          have hvN : vOk (YV N) := by rw [eY]; exact hvo
          have hcc : isLC (F (i + 1)) ∨ isRl (YV N) (F (i + 1)) := by
            rw [eY]
            exact hz1.u.elim (fun z => Or.inl ⟨z.1, by have := z.2; omega⟩) Or.inr
          refine w_aload hZ 60 61 rfl rfl rfl ?_
          refine w_iload hZ 61 62 rfl rfl rfl ?_
          refine w_const hZ 62 63 rfl rfl  ?_
          refine k_X7_giveLetters hZ 63 64 rfl rfl (Nat.le_of_ble_eq_true rfl) ⟨hvN, hcc, by omega, by omega, by rw [hN.2.2.2.1]; omega, by rw [hN.2.2.2.1]; omega, (b2i_f (p := false = true) (by decide)).symm⟩ (fun M63 p63 => ?_)
          refine w_const hZ 64 65 rfl rfl  ?_
          refine w_iret hZ 65 rfl ?_
          have h2 := hN.trans p63 s0
          rw [if_neg (by decide), hN.2.2.2.1, hN.2.2.2.2.1, hN.2.2.2.2.2.1, eY] at h2
          exact ok _ (hE2y.u hz.u) rfl _ (h2.pl (show i + 1 + 1 = i + 2 by omega))
        · refine w_aload hZ 48 49 rfl rfl rfl ?_
          refine w_aload hZ 49 50 rfl rfl rfl ?_
          refine w_getiv hZ 50 51 rfl rfl rfl rfl rfl (v := i) hi ?_
          refine w_puti hZ 51 52 rfl rfl rfl rfl rfl ?_
          refine w_const hZ 52 53 rfl rfl  ?_
          refine w_iret hZ 53 rfl ?_
          refine bad _ (hE2n.u (fun z => ?_)) _ _ rfl (by show ¬ (2 : Int) = 0; decide) (by simp [mup_at]) ((FR.refl M).put (by omega) _)
          have hb1 := hb.u.mpr z.1
          first
            | omega
            | exact z.2.elim (b2i_z.mp c43) (b2i_z.mp c47)
  refine w_aload hZ 0 1 rfl rfl rfl ?_
  refine w_aload hZ 1 2 rfl rfl rfl ?_
  refine w_getiv hZ 2 3 rfl rfl rfl rfl rfl (v := i) hi ?_
  refine w_const hZ 3 4 rfl rfl  ?_
  refine w_sub hZ 4 5 rfl rfl (by unfold InR; omega) ?_
  refine k_X7_feltAt hZ 5 6 rfl rfl (Nat.le_of_ble_eq_true rfl) ⟨by omega, by omega⟩ ?_
  rw [hF]
  refine w_st4_1 hZ 6 7 rfl rfl rfl ?_
  refine w_aload hZ 7 8 rfl rfl rfl ?_
  refine w_geti hZ 8 9 rfl rfl rfl rfl rfl ?_
  refine w_ifle hZ 9 10 rfl rfl (fun c9 => ?_) (fun c9 => ?_)
  · refine w_const hZ 30 31 rfl rfl  ?_
    unfold feR at hfe
    first
      | exact m31 _ _ (Or.inr rfl) ⟨fun _ => ⟨by omega, Or.inl (by omega)⟩, fun _ => rfl⟩
      | exact m31 _ _ (Or.inr rfl) ⟨fun _ => ⟨by omega, Or.inr ⟨by omega, Or.inl c24⟩⟩, fun _ => rfl⟩
      | exact m31 _ _ (Or.inr rfl) ⟨fun _ => ⟨by omega, Or.inr ⟨by omega, Or.inr c27⟩⟩, fun _ => rfl⟩
      | exact m31 _ _ (Or.inl rfl) ⟨fun z => absurd z (by decide), fun z => absurd z.1 (by omega)⟩
      | exact m31 _ _ (Or.inl rfl) ⟨fun z => absurd z (by decide), fun z => z.2.elim (fun z => absurd z (by omega)) (fun z => absurd z.1 (by omega))⟩
      | exact m31 _ _ (Or.inl rfl) ⟨fun z => absurd z (by decide), fun z => z.2.elim (fun z => absurd z (by omega)) (fun z => z.2.elim (fun z => absurd z c24) (fun z => absurd z c27))⟩
  · refine w_aload hZ 10 11 rfl rfl rfl ?_
    refine w_getiv hZ 11 12 rfl rfl rfl rfl rfl (v := i) hi ?_
    refine w_aload hZ 12 13 rfl rfl rfl ?_
    refine w_geti hZ 13 14 rfl rfl rfl rfl rfl ?_
    refine w_ceq hZ 14 15 rfl rfl (fun c14 => ?_) (fun c14 => ?_)
    · refine w_const hZ 28 29 rfl rfl  ?_
      refine w_goto hZ 29 31 rfl ?_
      unfold feR at hfe
      first
        | exact m31 _ _ (Or.inr rfl) ⟨fun _ => ⟨by omega, Or.inl (by omega)⟩, fun _ => rfl⟩
        | exact m31 _ _ (Or.inr rfl) ⟨fun _ => ⟨by omega, Or.inr ⟨by omega, Or.inl c24⟩⟩, fun _ => rfl⟩
        | exact m31 _ _ (Or.inr rfl) ⟨fun _ => ⟨by omega, Or.inr ⟨by omega, Or.inr c27⟩⟩, fun _ => rfl⟩
        | exact m31 _ _ (Or.inl rfl) ⟨fun z => absurd z (by decide), fun z => absurd z.1 (by omega)⟩
        | exact m31 _ _ (Or.inl rfl) ⟨fun z => absurd z (by decide), fun z => z.2.elim (fun z => absurd z (by omega)) (fun z => absurd z.1 (by omega))⟩
        | exact m31 _ _ (Or.inl rfl) ⟨fun z => absurd z (by decide), fun z => z.2.elim (fun z => absurd z (by omega)) (fun z => z.2.elim (fun z => absurd z c24) (fun z => absurd z c27))⟩
    · refine w_aload hZ 15 16 rfl rfl rfl ?_
      refine w_getiv hZ 16 17 rfl rfl rfl rfl rfl (v := i) hi ?_
      refine w_aload hZ 17 18 rfl rfl rfl ?_
      refine w_geti hZ 18 19 rfl rfl rfl rfl rfl ?_
      refine w_const hZ 19 20 rfl rfl  ?_
      refine w_add hZ 20 21 rfl rfl (by unfold InR; omega) ?_
      refine w_cne hZ 21 22 rfl rfl (fun c21 => ?_) (fun c21 => ?_)
      · refine w_const hZ 30 31 rfl rfl  ?_
        unfold feR at hfe
        first
          | exact m31 _ _ (Or.inr rfl) ⟨fun _ => ⟨by omega, Or.inl (by omega)⟩, fun _ => rfl⟩
          | exact m31 _ _ (Or.inr rfl) ⟨fun _ => ⟨by omega, Or.inr ⟨by omega, Or.inl c24⟩⟩, fun _ => rfl⟩
          | exact m31 _ _ (Or.inr rfl) ⟨fun _ => ⟨by omega, Or.inr ⟨by omega, Or.inr c27⟩⟩, fun _ => rfl⟩
          | exact m31 _ _ (Or.inl rfl) ⟨fun z => absurd z (by decide), fun z => absurd z.1 (by omega)⟩
          | exact m31 _ _ (Or.inl rfl) ⟨fun z => absurd z (by decide), fun z => z.2.elim (fun z => absurd z (by omega)) (fun z => absurd z.1 (by omega))⟩
          | exact m31 _ _ (Or.inl rfl) ⟨fun z => absurd z (by decide), fun z => z.2.elim (fun z => absurd z (by omega)) (fun z => z.2.elim (fun z => absurd z c24) (fun z => absurd z c27))⟩
      · refine w_iload hZ 22 23 rfl rfl rfl ?_
        refine w_const hZ 23 24 rfl rfl  ?_
        refine w_ceq hZ 24 25 rfl rfl (fun c24 => ?_) (fun c24 => ?_)
        · refine w_const hZ 28 29 rfl rfl  ?_
          refine w_goto hZ 29 31 rfl ?_
          unfold feR at hfe
          first
            | exact m31 _ _ (Or.inr rfl) ⟨fun _ => ⟨by omega, Or.inl (by omega)⟩, fun _ => rfl⟩
            | exact m31 _ _ (Or.inr rfl) ⟨fun _ => ⟨by omega, Or.inr ⟨by omega, Or.inl c24⟩⟩, fun _ => rfl⟩
            | exact m31 _ _ (Or.inr rfl) ⟨fun _ => ⟨by omega, Or.inr ⟨by omega, Or.inr c27⟩⟩, fun _ => rfl⟩
            | exact m31 _ _ (Or.inl rfl) ⟨fun z => absurd z (by decide), fun z => absurd z.1 (by omega)⟩
            | exact m31 _ _ (Or.inl rfl) ⟨fun z => absurd z (by decide), fun z => z.2.elim (fun z => absurd z (by omega)) (fun z => absurd z.1 (by omega))⟩
            | exact m31 _ _ (Or.inl rfl) ⟨fun z => absurd z (by decide), fun z => z.2.elim (fun z => absurd z (by omega)) (fun z => z.2.elim (fun z => absurd z c24) (fun z => absurd z c27))⟩
        · refine w_iload hZ 25 26 rfl rfl rfl ?_
          refine w_const hZ 26 27 rfl rfl  ?_
          refine w_cne hZ 27 28 rfl rfl (fun c27 => ?_) (fun c27 => ?_)
          · refine w_const hZ 30 31 rfl rfl  ?_
            unfold feR at hfe
            first
              | exact m31 _ _ (Or.inr rfl) ⟨fun _ => ⟨by omega, Or.inl (by omega)⟩, fun _ => rfl⟩
              | exact m31 _ _ (Or.inr rfl) ⟨fun _ => ⟨by omega, Or.inr ⟨by omega, Or.inl c24⟩⟩, fun _ => rfl⟩
              | exact m31 _ _ (Or.inr rfl) ⟨fun _ => ⟨by omega, Or.inr ⟨by omega, Or.inr c27⟩⟩, fun _ => rfl⟩
              | exact m31 _ _ (Or.inl rfl) ⟨fun z => absurd z (by decide), fun z => absurd z.1 (by omega)⟩
              | exact m31 _ _ (Or.inl rfl) ⟨fun z => absurd z (by decide), fun z => z.2.elim (fun z => absurd z (by omega)) (fun z => absurd z.1 (by omega))⟩
              | exact m31 _ _ (Or.inl rfl) ⟨fun z => absurd z (by decide), fun z => z.2.elim (fun z => absurd z (by omega)) (fun z => z.2.elim (fun z => absurd z c24) (fun z => absurd z c27))⟩
          · refine w_const hZ 28 29 rfl rfl  ?_
            refine w_goto hZ 29 31 rfl ?_
            unfold feR at hfe
            first
              | exact m31 _ _ (Or.inr rfl) ⟨fun _ => ⟨by omega, Or.inl (by omega)⟩, fun _ => rfl⟩
              | exact m31 _ _ (Or.inr rfl) ⟨fun _ => ⟨by omega, Or.inr ⟨by omega, Or.inl c24⟩⟩, fun _ => rfl⟩
              | exact m31 _ _ (Or.inr rfl) ⟨fun _ => ⟨by omega, Or.inr ⟨by omega, Or.inr c27⟩⟩, fun _ => rfl⟩
              | exact m31 _ _ (Or.inl rfl) ⟨fun z => absurd z (by decide), fun z => absurd z.1 (by omega)⟩
              | exact m31 _ _ (Or.inl rfl) ⟨fun z => absurd z (by decide), fun z => z.2.elim (fun z => absurd z (by omega)) (fun z => absurd z.1 (by omega))⟩
              | exact m31 _ _ (Or.inl rfl) ⟨fun z => absurd z (by decide), fun z => z.2.elim (fun z => absurd z (by omega)) (fun z => z.2.elim (fun z => absurd z c24) (fun z => absurd z c27))⟩
set_option maxRecDepth 100000 in
set_option maxHeartbeats 4000000 in
theorem ao_X7_readLetters : AllOk yX7_readLetters.cls cX7_readLetters 4 3 70 (some .int) none pc_X7_readLetters 0 cd_X7_readLetters := ⟨s_aload_n (k := 0) (by decide +kernel) rfl rfl, ⟨s_aload_n (k := 0) (by decide +kernel) rfl rfl, ⟨s_get (C := RX7) (T := TX7) (N := 22) rfl inT7 (by decide) tw_3_179 (by decide +kernel) rfl, ⟨s_iconst (by decide +kernel) rfl ⟨by decide, by decide⟩, ⟨s_sub (by decide +kernel) rfl, ⟨s_callV (C := RX7) (T := TX7) (N := 22) rfl ct_X7_feltAt (by decide) (by decide) ⟨rfl, by decide +kernel, by decide +kernel, by decide +kernel⟩ tw_4_219 tw_4_221 ts_5_1 tw_1_8 tw_4_222 (by decide +kernel) rfl, ⟨s_istore_n (k := 1) (by decide +kernel) rfl rfl, ⟨s_aload_n (k := 0) (by decide +kernel) rfl rfl, ⟨s_get (C := RX7) (T := TX7) (N := 22) rfl inT7 (by decide) tw_3_180 (by decide +kernel) rfl, ⟨s_ifle (off := (43)) (by decide +kernel) rfl rfl, ⟨s_aload_n (k := 0) (by decide +kernel) rfl rfl, ⟨s_get (C := RX7) (T := TX7) (N := 22) rfl inT7 (by decide) tw_3_179 (by decide +kernel) rfl, ⟨s_aload_n (k := 0) (by decide +kernel) rfl rfl, ⟨s_get (C := RX7) (T := TX7) (N := 22) rfl inT7 (by decide) tw_3_180 (by decide +kernel) rfl, ⟨s_ceq (off := (28)) (by decide +kernel) rfl rfl, ⟨s_aload_n (k := 0) (by decide +kernel) rfl rfl, ⟨s_get (C := RX7) (T := TX7) (N := 22) rfl inT7 (by decide) tw_3_179 (by decide +kernel) rfl, ⟨s_aload_n (k := 0) (by decide +kernel) rfl rfl, ⟨s_get (C := RX7) (T := TX7) (N := 22) rfl inT7 (by decide) tw_3_180 (by decide +kernel) rfl, ⟨s_iconst (by decide +kernel) rfl ⟨by decide, by decide⟩, ⟨s_add (by decide +kernel) rfl, ⟨s_cne (off := (19)) (by decide +kernel) rfl rfl, ⟨s_iload_n (k := 1) (by decide +kernel) rfl rfl, ⟨s_bipush (by decide +kernel) rfl ⟨by decide, by decide⟩ (by decide +kernel), ⟨s_ceq (off := (9)) (by decide +kernel) rfl rfl, ⟨s_iload_n (k := 1) (by decide +kernel) rfl rfl, ⟨s_bipush (by decide +kernel) rfl ⟨by decide, by decide⟩ (by decide +kernel), ⟨s_cne (off := (7)) (by decide +kernel) rfl rfl, ⟨s_iconst (by decide +kernel) rfl ⟨by decide, by decide⟩, ⟨s_goto (off := (4)) (by decide +kernel) rfl, ⟨s_iconst (by decide +kernel) rfl ⟨by decide, by decide⟩, ⟨s_istore_n (k := 2) (by decide +kernel) rfl rfl, ⟨s_aload_n (k := 0) (by decide +kernel) rfl rfl, ⟨s_aload_n (k := 0) (by decide +kernel) rfl rfl, ⟨s_get (C := RX7) (T := TX7) (N := 22) rfl inT7 (by decide) tw_3_179 (by decide +kernel) rfl, ⟨s_iconst (by decide +kernel) rfl ⟨by decide, by decide⟩, ⟨s_add (by decide +kernel) rfl, ⟨s_callV (C := RX7) (T := TX7) (N := 22) rfl ct_X7_feltAt (by decide) (by decide) ⟨rfl, by decide +kernel, by decide +kernel, by decide +kernel⟩ tw_4_219 tw_4_221 ts_5_1 tw_1_8 tw_4_222 (by decide +kernel) rfl, ⟨s_istore_n (k := 3) (by decide +kernel) rfl rfl, ⟨s_iload_n (k := 2) (by decide +kernel) rfl rfl, ⟨s_ifeq (off := (18)) (by decide +kernel) rfl rfl, ⟨s_iload_n (k := 3) (by decide +kernel) rfl rfl, ⟨s_callS ct_X7_isFigureCell (by decide) (by decide) ⟨by decide +kernel, by decide +kernel, by decide +kernel⟩ tw_5_11 tw_5_12 tw_1_8 tw_5_13 (by decide +kernel) rfl, ⟨s_ifne (off := (21)) (by decide +kernel) rfl rfl, ⟨s_aload_n (k := 0) (by decide +kernel) rfl rfl, ⟨s_iload_n (k := 3) (by decide +kernel) rfl rfl, ⟨s_callV (C := RX7) (T := TX7) (N := 22) rfl ct_X7_isRuleCell (by decide) (by decide) ⟨rfl, by decide +kernel, by decide +kernel, by decide +kernel⟩ tw_4_227 tw_4_229 ts_5_2 tw_1_8 tw_4_230 (by decide +kernel) rfl, ⟨s_ifne (off := (13)) (by decide +kernel) rfl rfl, ⟨s_aload_n (k := 0) (by decide +kernel) rfl rfl, ⟨s_aload_n (k := 0) (by decide +kernel) rfl rfl, ⟨s_get (C := RX7) (T := TX7) (N := 22) rfl inT7 (by decide) tw_3_179 (by decide +kernel) rfl, ⟨s_puti (C := RX7) (T := TX7) (N := 22) (tyf := tyX7) rfl inT7 tyX7_ok nmX7 (by decide) rfl rfl tw_3_178 (by decide +kernel) rfl, ⟨s_iconst (by decide +kernel) rfl ⟨by decide, by decide⟩, ⟨s_iret rfl (by decide +kernel), ⟨s_aload_n (k := 0) (by decide +kernel) rfl rfl, ⟨s_dup (by decide +kernel) rfl, ⟨s_get (C := RX7) (T := TX7) (N := 22) rfl inT7 (by decide) tw_3_179 (by decide +kernel) rfl, ⟨s_iconst (by decide +kernel) rfl ⟨by decide, by decide⟩, ⟨s_add (by decide +kernel) rfl, ⟨s_puti (C := RX7) (T := TX7) (N := 22) (tyf := tyX7) rfl inT7 tyX7_ok nmX7 (by decide) rfl rfl tw_3_179 (by decide +kernel) rfl, ⟨s_aload_n (k := 0) (by decide +kernel) rfl rfl, ⟨s_iload_n (k := 3) (by decide +kernel) rfl rfl, ⟨s_iconst (by decide +kernel) rfl ⟨by decide, by decide⟩, ⟨s_callV (C := RX7) (T := TX7) (N := 22) rfl ct_X7_giveLetters (by decide) (by decide) ⟨rfl, by decide +kernel, by decide +kernel, by decide +kernel⟩ tw_4_231 tw_4_233 ts_5_3 tw_1_8 tw_4_234 (by decide +kernel) rfl, ⟨s_iconst (by decide +kernel) rfl ⟨by decide, by decide⟩, ⟨s_iret rfl (by decide +kernel), trivial⟩⟩⟩⟩⟩⟩⟩⟩⟩⟩⟩⟩⟩⟩⟩⟩⟩⟩⟩⟩⟩⟩⟩⟩⟩⟩⟩⟩⟩⟩⟩⟩⟩⟩⟩⟩⟩⟩⟩⟩⟩⟩⟩⟩⟩⟩⟩⟩⟩⟩⟩⟩⟩⟩⟩⟩⟩⟩⟩⟩⟩⟩⟩⟩⟩⟩
theorem ct_X7_readLetters : Ctr yX7_readLetters cX7_readLetters 4 (some .int) 3 70 sp_X7_readLetters := by
  refine ctr_of (by decide +kernel) ao_X7_readLetters rfl ?_
  rintro av M Ret ⟨fe, rfl, hp, hR⟩ hok hM
  exact ⟨Nat.le_of_ble_eq_true rfl, fun Z hZ => b_X7_readLetters fe  M Ret hp hR hM Z hZ⟩
