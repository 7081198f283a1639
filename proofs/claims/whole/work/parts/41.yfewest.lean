/-! THE REFERENCE: FEWEST -/
/-- y is the fewest from i on, of what the RULES ahead of k can do -/
def MnI (V : BV) (a b : Int) (g : Bool) (i k y : Int) : Prop := y ≤ fw1 V g (fw V (-1) a b g) i ∧ (∀ j, 0 ≤ j → j < k → mayV V a b g i j → y ≤ fw V (-1) a b g (i + lnC (vC' V j.toNat)) + 1) ∧ (y = fw1 V g (fw V (-1) a b g) i ∨ ∃ j, 0 ≤ j ∧ j < k ∧ mayV V a b g i j ∧ y = fw V (-1) a b g (i + lnC (vC' V j.toNat)) + 1)
theorem Mn_n {V : BV} {a b : Int} {g : Bool} {i k y : Int} (h : MnI V a b g i k y) (hn : ¬ mayV V a b g i k) : MnI V a b g i (k + 1) y := by
  obtain ⟨h1, h2, h3⟩ := h
  refine ⟨h1, fun j j0 j1 jm => ?_, ?_⟩
  · by_cases q : j = k
    · rw [q] at jm; exact absurd jm hn
    · exact h2 j j0 (by omega) jm
  · rcases h3 with z | ⟨j, j0, j1, j2, j3⟩
    · exact Or.inl z
    · exact Or.inr ⟨j, j0, by omega, j2, j3⟩
theorem Mn_y {V : BV} {a b : Int} {g : Bool} {i k y v : Int} (h : MnI V a b g i k y) (k0 : 0 ≤ k) (hm : mayV V a b g i k) (hv : v = fw V (-1) a b g (i + lnC (vC' V k.toNat)) + 1) : (v < y → MnI V a b g i (k + 1) v) ∧ (y ≤ v → MnI V a b g i (k + 1) y) := by
  obtain ⟨h1, h2, h3⟩ := h
  refine ⟨fun hl => ⟨by omega, fun j j0 j1 jm => ?_, Or.inr ⟨k, k0, by omega, hm, hv⟩⟩, fun hl => ⟨h1, fun j j0 j1 jm => ?_, ?_⟩⟩
  · by_cases q : j = k
    · rw [q]; omega
    · have := h2 j j0 (by omega) jm; omega
  · by_cases q : j = k
    · rw [q]; omega
    · exact h2 j j0 (by omega) jm
  · rcases h3 with z | ⟨j, j0, j1, j2, j3⟩
    · exact Or.inl z
    · exact Or.inr ⟨j, j0, by omega, j2, j3⟩
theorem Mn_fw {V : BV} (h : vOk V) {a b : Int} {g : Bool} {i y : Int} (hw : Wd V a b g) (i0 : a ≤ i) (i1 : i < b) (hm : MnI V a b g i (vR V) y) : y = fw V (-1) a b g i := by
  obtain ⟨h1, h2, h3⟩ := hm
  have lo : ∀ L : Int, 2 ≤ L → L ≤ 4 → ¬ rA V (-1) a b g i L = -1 → y ≤ fw V (-1) a b g (i + L) + 1 := by
    intro L l2 l4 hr
    obtain ⟨z1, z2, z3, z4, z5⟩ := rA_may h hw i0 l2 l4 hr
    have := h2 _ z1 z2 z5
    rwa [z4] at this
  have hi : y = fw1 V g (fw V (-1) a b g) i ∨ ∃ L : Int, 2 ≤ L ∧ L ≤ 4 ∧ ¬ rA V (-1) a b g i L = -1 ∧ y = fw V (-1) a b g (i + L) + 1 := by
    rcases h3 with z | ⟨j, j0, j1, j2, j3⟩
    · exact Or.inl z
    · have hln := h.ln j0 j1
      exact Or.inr ⟨_, hln.1, hln.2, by unfold mayV at j2; omega, j3⟩
  have l2 := lo 2 (by omega) (by omega)
  have l3 := lo 3 (by omega) (by omega)
  have l4 := lo 4 (by omega) (by omega)
  have hi' : y = fw1 V g (fw V (-1) a b g) i ∨ (¬ rA V (-1) a b g i 2 = -1 ∧ y = fw V (-1) a b g (i + 2) + 1) ∨ (¬ rA V (-1) a b g i 3 = -1 ∧ y = fw V (-1) a b g (i + 3) + 1) ∨ (¬ rA V (-1) a b g i 4 = -1 ∧ y = fw V (-1) a b g (i + 4) + 1) := by
    rcases hi with z | ⟨L, L2, L4, z1, z2⟩
    · exact Or.inl z
    · rcases (by omega : L = 2 ∨ L = 3 ∨ L = 4) with rfl | rfl | rfl
      · exact Or.inr (Or.inl ⟨z1, z2⟩)
      · exact Or.inr (Or.inr (Or.inl ⟨z1, z2⟩))
      · exact Or.inr (Or.inr (Or.inr ⟨z1, z2⟩))
  clear hi lo h2 h3
  rw [fw_step i1]
  unfold fwA
  have e2 : ∀ x, fwS V (-1) a b g (fw V (-1) a b g) i 2 x = if rA V (-1) a b g i 2 = -1 then x else mn x (fw V (-1) a b g (i + 2) + 1) := fun _ => rfl
  have e3 : ∀ x, fwS V (-1) a b g (fw V (-1) a b g) i 3 x = if rA V (-1) a b g i 3 = -1 then x else mn x (fw V (-1) a b g (i + 3) + 1) := fun _ => rfl
  have e4 : ∀ x, fwS V (-1) a b g (fw V (-1) a b g) i 4 x = if rA V (-1) a b g i 4 = -1 then x else mn x (fw V (-1) a b g (i + 4) + 1) := fun _ => rfl
  rw [e4, e3, e2]
  clear e2 e3 e4
  generalize fw V (-1) a b g (i + 2) = f2 at *
  generalize fw V (-1) a b g (i + 3) = f3 at *
  generalize fw V (-1) a b g (i + 4) = f4 at *
  generalize fw1 V g (fw V (-1) a b g) i = f1 at *
  generalize rA V (-1) a b g i 2 = r2 at *
  generalize rA V (-1) a b g i 3 = r3 at *
  generalize rA V (-1) a b g i 4 = r4 at *
  have hmn : ∀ p q : Int, (q < p ∧ mn p q = q) ∨ (p ≤ q ∧ mn p q = p) := fun p q => by unfold mn; split <;> omega
  clear h hw i0 i1
  have s2 : (r2 = -1 ∧ (if r2 = -1 then f1 else mn f1 (f2 + 1)) = f1) ∨ (¬ r2 = -1 ∧ (if r2 = -1 then f1 else mn f1 (f2 + 1)) = mn f1 (f2 + 1)) := by split <;> simp [*]
  generalize (if r2 = -1 then f1 else mn f1 (f2 + 1)) = x2 at *
  have s3 : (r3 = -1 ∧ (if r3 = -1 then x2 else mn x2 (f3 + 1)) = x2) ∨ (¬ r3 = -1 ∧ (if r3 = -1 then x2 else mn x2 (f3 + 1)) = mn x2 (f3 + 1)) := by split <;> simp [*]
  generalize (if r3 = -1 then x2 else mn x2 (f3 + 1)) = x3 at *
  have s4 : (r4 = -1 ∧ (if r4 = -1 then x3 else mn x3 (f4 + 1)) = x3) ∨ (¬ r4 = -1 ∧ (if r4 = -1 then x3 else mn x3 (f4 + 1)) = mn x3 (f4 + 1)) := by split <;> simp [*]
  generalize (if r4 = -1 then x3 else mn x3 (f4 + 1)) = x4 at *
  have m2 := hmn f1 (f2 + 1)
  have m3 := hmn x2 (f3 + 1)
  have m4 := hmn x3 (f4 + 1)
  clear hmn
  generalize mn f1 (f2 + 1) = n2 at *
  generalize mn x2 (f3 + 1) = n3 at *
  generalize mn x3 (f4 + 1) = n4 at *
  rcases s2 with ⟨q2, rfl⟩ | ⟨q2, rfl⟩ <;> rcases s3 with ⟨q3, rfl⟩ | ⟨q3, rfl⟩ <;> rcases s4 with ⟨q4, rfl⟩ | ⟨q4, rfl⟩ <;> (first | replace l2 := l2 q2 | clear l2) <;> (first | replace l3 := l3 q3 | clear l3) <;> (first | replace l4 := l4 q4 | clear l4) <;> omega
theorem may_0 {V : BV} {a b : Int} {g : Bool} {i k : Int} (h : vOk V) (k0 : 0 ≤ k) (k1 : k < vR V) (hs : smV V g i = 0) : ¬ mayV V a b g i k := by
  have hln := h.ln k0 k1
  intro z
  unfold mayV rA at z
  generalize lnC (vC' V k.toNat) = L at *
  have hc : cdF (smV V g) L.toNat i 0 = -1 := by
    rcases (by omega : L = 2 ∨ L = 3 ∨ L = 4) with rfl | rfl | rfl
    · show cdF _ 2 i 0 = -1; rw [cd2, if_pos hs]
    · show cdF _ 3 i 0 = -1; rw [cd3, if_pos hs]
    · show cdF _ 4 i 0 = -1; rw [cd4, if_pos hs]
  by_cases q : b < i + L
  · rw [if_pos q] at z; omega
  · rw [if_neg q, if_pos hc] at z; omega
theorem hdE_len (V : BV) (a b : Int) : ((hdE V a b).length : Int) = b2i (wnt V a) + (if alC V a b = true then 2 else 0) := by
  have h1 : ((if wnt V a then [(62, -1, a, 0)] else [] : List Ev).length : Int) = if wnt V a then 1 else 0 := by split <;> rfl
  have h2 : ((if alC V a b = true then [(60, -1, a, 0), (60, -1, a, 0)] else [] : List Ev).length : Int) = if alC V a b = true then 2 else 0 := by split <;> rfl
  unfold hdE b2i
  rw [List.length_append, Int.natCast_add, h1, h2]
def sp_X7_fewestOf : SP := fun av M Ret => ∃ a : Int, ∃ b : Int, av = [mr 73, mi a, mi b] ∧ (vOk (YV M) ∧ 0 ≤ a ∧ a < b ∧ b ≤ vN (YV M) ∧ (∀ j, a ≤ j → j < b → isLt (vS (YV M) j))) ∧ (∀ M2 : Mem, (∀ k, ¬ k = 81 → M2 k = M k) → Ret (some (mi (fw (YV M) (-1) a b (alC (YV M) a b) a + (hdE (YV M) a b).length))) M2)
theorem k_X7_fewestOf {code : List Sem} {Z : KZ} {Ret : KR} {ls : List (Option MV)} {M : Mem} {r : List MV} (hZ : Sim code Z Ret) (ip np : Nat) {a b : Int} (hc : code[ip]? = some (I_callV 7 2 sp_X7_fewestOf)) (hn : ip + 1 = np) (h3 : catS r ≤ 8)  (hp : vOk (YV M) ∧ 0 ≤ a ∧ a < b ∧ b ≤ vN (YV M) ∧ (∀ j, a ≤ j → j < b → isLt (vS (YV M) j))) (kz : ∀ M2 : Mem, (∀ k, ¬ k = 81 → M2 k = M k) → Z np ls (mi (fw (YV M) (-1) a b (alC (YV M) a b) a + (hdE (YV M) a b).length) :: r) M2) : Z ip ls (mi b :: mi a :: mr 73 :: r) M := w_callV2 hZ ip np hc hn rfl rfl h3 ⟨_, _, rfl, hp, fun M2 h => kz M2 h⟩
def cd_X7_fewestOf : List Sem := [I_aload 0, I_iload 1, I_iload 2, I_callV 7 2 sp_X7_isAllGreat, I_istore 3, I_aload 0, I_get 7 10, I_iload 2, I_const (0), I_iast, I_iload 2, I_const (1), I_sub, I_istore 4, I_iload 4, I_iload 1, I_clt 113, I_aload 0, I_iload 4, I_callV 7 1 sp_X7_sign0, I_istore 5, I_iload 3, I_ifne 26, I_iload 5, I_callS 1 sp_X7_isSmall, I_ifeq 28, I_const (1), I_goto 29, I_const (0), I_istore 6, I_aload 0, I_iload 4, I_callV 7 1 sp_X7_wantsLetters, I_ifeq 36, I_const (1), I_goto 37, I_const (0), I_iload 6, I_ifeq 41, I_const (0), I_goto 42, I_const (1), I_add, I_istore 7, I_aload 0, I_get 7 10, I_iload 4, I_const (1), I_iload 7, I_add, I_aload 0, I_get 7 10, I_iload 4, I_const (1), I_add, I_iald, I_add, I_iast, I_const (0), I_istore 8, I_iload 8, I_aload 0, I_get 7 0, I_const (0), I_iald, I_cge 111, I_iload 6, I_ifeq 109, I_aload 0, I_iload 8, I_iload 4, I_iload 1, I_iload 2, I_iload 3, I_callV 7 5 sp_X7_mayServe, I_ifeq 109, I_const (1), I_iload 7, I_add, I_aload 0, I_get 7 10, I_iload 4, I_aload 0, I_get 7 0, I_const (1), I_iload 8, I_add, I_iald, I_callS 1 sp_X7_lettersOf, I_add, I_iald, I_add, I_istore 9, I_aload 0, I_get 7 10, I_iload 4, I_iload 9, I_aload 0, I_get 7 10, I_iload 4, I_iald, I_cge 104, I_iload 9, I_goto 108, I_aload 0, I_get 7 10, I_iload 4, I_iald, I_iast, I_iinc 8 (1), I_goto 60, I_iinc 4 (-1), I_goto 14, I_aload 0, I_get 7 10, I_iload 1, I_iald, I_iload 3, I_ifeq 121, I_const (2), I_goto 122, I_const (0), I_add, I_iret]
def pc_X7_fewestOf : List Nat := [0, 1, 2, 3, 6, 7, 8, 11, 12, 13, 14, 15, 16, 17, 19, 21, 22, 25, 26, 28, 31, 33, 34, 37, 39, 42, 45, 46, 49, 50, 52, 53, 55, 58, 61, 62, 65, 66, 68, 71, 72, 75, 76, 77, 79, 80, 83, 85, 86, 88, 89, 90, 93, 95, 96, 97, 98, 99, 100, 101, 103, 105, 106, 109, 110, 111, 114, 116, 119, 120, 122, 124, 125, 126, 127, 130, 133, 134, 136, 137, 138, 141, 143, 144, 147, 148, 150, 151, 152, 155, 156, 157, 158, 160, 161, 164, 166, 168, 169, 172, 174, 175, 178, 180, 183, 184, 187, 189, 190, 191, 194, 197, 200, 203, 204, 207, 208, 209, 210, 213, 214, 217, 218, 219]
set_option maxRecDepth 100000 in
set_option maxHeartbeats 4000000 in
theorem b_X7_fewestOf (a : Int) (i_a : InR a) (b : Int) (i_b : InR b) (M : Mem) (Ret : KR) (hp : vOk (YV M) ∧ 0 ≤ a ∧ a < b ∧ b ≤ vN (YV M) ∧ (∀ j, a ≤ j → j < b → isLt (vS (YV M) j))) (hR : ∀ M2 : Mem, (∀ k, ¬ k = 81 → M2 k = M k) → Ret (some (mi (fw (YV M) (-1) a b (alC (YV M) a b) a + (hdE (YV M) a b).length))) M2) (hM : MOk M) (Z : KZ) (hZ : Sim cd_X7_fewestOf Z Ret) : Z 0 [some (mr 73), some (mi a), some (mi b), none, none, none, none, none, none, none] [] M := by
  obtain ⟨hvo, a0, ab, bn, hl⟩ := hp
  have hwd := alC_Wd a0 ab bn hl
  have n120 := hvo.2.1
  have hvR : vR (YV M) ≤ 12 := hvo.2.2.2.1
  have hv0 : 0 ≤ vR (YV M) := hvo.2.2.1
  have hhd := hdE_len (YV M) a b
  obtain ⟨V, hV⟩ : ∃ V, YV M = V := ⟨_, rfl⟩
  rw [hV] at hvo hl hwd n120 hvR hv0 bn hhd
  have hR' : ∀ N : Mem, ∀ x : Int, x = fw V (-1) a b (alC V a b) a + (hdE V a b).length → (∀ k, ¬ k = 81 → N k = M k) → Ret (some (mi x)) N := fun N x hx h2 => by
    have q := hR N h2
    rw [hV] at q
    rw [hx]; exact q
  clear hR
  obtain ⟨g, hg⟩ : ∃ g, alC V a b = g := ⟨_, rfl⟩
  rw [hg] at hwd hhd hR'
  have same : ∀ N : Mem, (∀ k, ¬ k = 81 → N k = M k) → vOk (YV N) ∧ YV N = V ∧ Wd (YV N) a b g := fun N hf => by
    have e : YV N = V := by unfold YV at hV ⊢; rw [hf 74 (by omega)]; exact hV
    rw [e]; exact ⟨hvo, rfl, hwd⟩
  have hg01 := b2i_01 (g = true)
  have fb : ∀ j, 0 ≤ j → 0 ≤ fw V (-1) a b g j ∧ fw V (-1) a b g j ≤ 240 := fun j hj => by
    have := fw_le V (-1) a b g (b - j).toNat j rfl
    omega
  have hwa := b2i_01 (wnt V a)
  have hfa := fb a a0
  have loop : ∀ (d : Nat) (i : Int) (N : Mem), d = (i + 1 - a).toNat → a - 1 ≤ i → i < b → (∀ k, ¬ k = 81 → N k = M k) → Hid (∀ j, i < j → j ≤ b → N 81 j.toNat = fw V (-1) a b g j + (if j = a then b2i (wnt V a) else 0)) → Z 14 [some (mr 73), some (mi a), some (mi b), some (mi (b2i (g = true))), some (mi i), none, none, none, none, none] [] N := by
    intro d
    induction d using Nat.strongRecOn with
    | ind d ih =>
      intro i N hd i0 i1 hF hT
      obtain ⟨hvN, eN, hwN⟩ := same N hF
      have hbN := hvN.yb
      have hww := b2i_01 (wnt V i)
      have hws := b2i_01 (smV V g i = 0)
      have inner : a ≤ i → ∀ (d2 : Nat) (k y : Int) (N1 : Mem), d2 = (vR V - k).toNat → 0 ≤ k → k ≤ vR V → (∀ o, ¬ o = 81 → N1 o = M o) → Hid (∀ j, i < j → j ≤ b → N1 81 j.toNat = fw V (-1) a b g j + (if j = a then b2i (wnt V a) else 0)) → N1 81 i.toNat = y + b2i (wnt V i) → 0 ≤ y → y ≤ 300 → Hid (MnI V a b g i k y) → Z 60 [some (mr 73), some (mi a), some (mi b), some (mi (b2i (g = true))), some (mi i), some (mi (vS V i)), some (mi (1 - b2i (smV V g i = 0))), some (mi (b2i (wnt V i) + b2i (smV V g i = 0))), some (mi k), none] [] N1 := by
        intro hai d2
        induction d2 using Nat.strongRecOn with
        | ind d2 ih2 =>
          intro k y N1 hd2 k0 k1 hF1 hT1 hi1 y0 y1 hM1
          obtain ⟨hv1, e1, hw1⟩ := same N1 hF1
          have m109 : k < vR V → ∀ (y2 : Int) (x9 : Option MV) (N2 : Mem), noL ([some (mr 73), some (mi a), some (mi b), some (mi (b2i (g = true))), some (mi i), some (mi (vS V i)), some (mi (1 - b2i (smV V g i = 0))), some (mi (b2i (wnt V i) + b2i (smV V g i = 0))), some (mi k), x9]) = true → (∀ o, ¬ o = 81 → N2 o = M o) → Hid (∀ j, i < j → j ≤ b → N2 81 j.toNat = fw V (-1) a b g j + (if j = a then b2i (wnt V a) else 0)) → N2 81 i.toNat = y2 + b2i (wnt V i) → 0 ≤ y2 → y2 ≤ 300 → MnI V a b g i (k + 1) y2 → Z 109 [some (mr 73), some (mi a), some (mi b), some (mi (b2i (g = true))), some (mi i), some (mi (vS V i)), some (mi (1 - b2i (smV V g i = 0))), some (mi (b2i (wnt V i) + b2i (smV V g i = 0))), some (mi k), x9] [] N2 := by
            intro hk y2 x9 N2 hno f1 f2 f3 f4 f5 f6
            refine w_in10_8 hZ 109 110 rfl rfl hno (by unfold InR; omega) ?_
            refine w_goto hZ 110 60 rfl ?_
            refine w_fg10_9 hZ ?_
            exact ih2 (vR V - (k + 1)).toNat (by omega) (k + 1) y2 N2 rfl (by omega) (by omega) f1 f2 f3 f4 f5 f6
          refine w_iload hZ 60 61 rfl rfl rfl ?_
          refine w_aload hZ 61 62 rfl rfl rfl ?_
          refine w_getr hZ 62 63 rfl rfl rfl rfl rfl ?_
          refine w_const hZ 63 64 rfl rfl  ?_
          refine w_ialdv hZ 64 65 rfl rfl rfl (by omega) (by omega) (v := vR V) (Y_r e1).1 ?_
          refine w_cge hZ 65 66 rfl rfl (fun c65 => ?_) (fun c65 => ?_)
          · refine w_in10_4 hZ 111 112 rfl rfl rfl (by unfold InR; omega) ?_
            refine w_goto hZ 112 14 rfl ?_
            refine w_fg10_5 hZ ?_
            refine w_fg10_6 hZ ?_
            refine w_fg10_7 hZ ?_
            refine w_fg10_8 hZ ?_
            have hk : k = vR V := by omega
            have hM2 := hM1.u
            rw [hk] at hM2
            have hy := Mn_fw hvo hwd hai i1 hM2
            refine ih (i + -1 + 1 - a).toNat (by omega) (i + -1) N1 rfl (by omega) (by omega) hF1 (fun j j0 j1 => ?_)
            by_cases q : j = i
            · subst q
              rw [hi1, hy]
              by_cases z : j = a
              · rw [if_pos z, z]
              · rw [if_neg z, b2i_f (wnt_in hwd (by omega) i1)]
            · exact hT1.u j (by omega) j1
          · refine w_iload hZ 66 67 rfl rfl rfl ?_
            refine w_ifeq hZ 67 68 rfl rfl (fun c67 => ?_) (fun c67 => ?_)
            · first
                | (refine m109 (by omega) y none N1 rfl hF1 hT1 hi1 y0 y1 (Mn_n hM1.u (may_0 hvo k0 (by omega) (b2i_e.mp (by omega)))))
                | exact m109 (by omega) y none N1 rfl hF1 hT1 hi1 y0 y1 (Mn_n hM1.u (b2i_z.mp c75))
                | (refine m109 (by omega) (fw V (-1) a b g (i + lnC (vC' V k.toNat)) + 1) _ _ rfl (fun o ho => ?_) (fun j j0 j1 => ?_) ?_ (by omega) (by omega) (hy.1 (by omega))
                   · rw [← hF1 o ho]; funext q; simp [mup_at, ho]
                   · rw [mup_at, if_neg (by omega)]; exact hT1.u j j0 j1
                   · rw [mup_at, if_pos ⟨rfl, rfl⟩]; omega)
                | (refine m109 (by omega) y _ _ rfl (fun o ho => ?_) (fun j j0 j1 => ?_) ?_ (by omega) (by omega) (hy.2 (by omega))
                   · rw [← hF1 o ho]; funext q; simp [mup_at, ho]
                   · rw [mup_at, if_neg (by omega)]; exact hT1.u j j0 j1
                   · rw [mup_at, if_pos ⟨rfl, rfl⟩])
            · refine w_aload hZ 68 69 rfl rfl rfl ?_
              refine w_iload hZ 69 70 rfl rfl rfl ?_
              refine w_iload hZ 70 71 rfl rfl rfl ?_
              refine w_iload hZ 71 72 rfl rfl rfl ?_
              refine w_iload hZ 72 73 rfl rfl rfl ?_
              refine w_iload hZ 73 74 rfl rfl rfl ?_
              refine k_X7_mayServe hZ 74 75 rfl rfl (Nat.le_of_ble_eq_true rfl) ⟨hv1, hw1, hai, i1, k0, by rw [e1]; omega, rfl⟩ ?_
              rw [e1]
              refine w_ifeq hZ 75 76 rfl rfl (fun c75 => ?_) (fun c75 => ?_)
              · first
                  | (refine m109 (by omega) y none N1 rfl hF1 hT1 hi1 y0 y1 (Mn_n hM1.u (may_0 hvo k0 (by omega) (b2i_e.mp (by omega)))))
                  | exact m109 (by omega) y none N1 rfl hF1 hT1 hi1 y0 y1 (Mn_n hM1.u (b2i_z.mp c75))
                  | (refine m109 (by omega) (fw V (-1) a b g (i + lnC (vC' V k.toNat)) + 1) _ _ rfl (fun o ho => ?_) (fun j j0 j1 => ?_) ?_ (by omega) (by omega) (hy.1 (by omega))
                     · rw [← hF1 o ho]; funext q; simp [mup_at, ho]
                     · rw [mup_at, if_neg (by omega)]; exact hT1.u j j0 j1
                     · rw [mup_at, if_pos ⟨rfl, rfl⟩]; omega)
                  | (refine m109 (by omega) y _ _ rfl (fun o ho => ?_) (fun j j0 j1 => ?_) ?_ (by omega) (by omega) (hy.2 (by omega))
                     · rw [← hF1 o ho]; funext q; simp [mup_at, ho]
                     · rw [mup_at, if_neg (by omega)]; exact hT1.u j j0 j1
                     · rw [mup_at, if_pos ⟨rfl, rfl⟩])
              · replace c75 := b2i_e.mp c75
                have hrk := (rA_k (w := -1) hvo hwd hai k0 (by omega)).mp c75
                have hin := hrk.2.1
                have hln := hvo.ln k0 (show k < vR V by omega)
                replace hrk : True := trivial
                have hfb := fb (i + lnC (vC' V k.toNat)) (by omega)
                have hy := Mn_y hM1.u k0 c75 rfl
                have hs0 : b2i (smV V g i = 0) = 0 := by omega
                refine w_const hZ 76 77 rfl rfl  ?_
                refine w_iload hZ 77 78 rfl rfl rfl ?_
                refine w_add hZ 78 79 rfl rfl (by unfold InR; omega) ?_
                refine w_aload hZ 79 80 rfl rfl rfl ?_
                refine w_getr hZ 80 81 rfl rfl rfl rfl rfl ?_
                refine w_iload hZ 81 82 rfl rfl rfl ?_
                refine w_aload hZ 82 83 rfl rfl rfl ?_
                refine w_getr hZ 83 84 rfl rfl rfl rfl rfl ?_
                refine w_const hZ 84 85 rfl rfl  ?_
                refine w_iload hZ 85 86 rfl rfl rfl ?_
                refine w_add hZ 86 87 rfl rfl (by unfold InR; omega) ?_
                refine w_ialdv hZ 87 88 rfl rfl rfl (by omega) (by omega) (v := vC' V k.toNat) (Y_c e1 k0 (by omega)) ?_
                refine k_X7_lettersOf hZ 88 89 rfl rfl (Nat.le_of_ble_eq_true rfl) (hvo.2.2.2.2.2.2.1 k.toNat (by omega)).1.2.1 ?_
                refine w_add hZ 89 90 rfl rfl (by unfold InR; omega) ?_
                refine w_ialdv hZ 90 91 rfl rfl rfl (by omega) (by omega) (v := fw V (-1) a b g (i + lnC (vC' V k.toNat))) (by rw [hT1.u _ (by omega) hin, if_neg (by omega), Int.add_zero]) ?_
                refine w_add hZ 91 92 rfl rfl (by unfold InR; omega) ?_
                refine w_st10_9 hZ 92 93 rfl rfl rfl ?_
                refine w_aload hZ 93 94 rfl rfl rfl ?_
                refine w_getr hZ 94 95 rfl rfl rfl rfl rfl ?_
                refine w_iload hZ 95 96 rfl rfl rfl ?_
                refine w_iload hZ 96 97 rfl rfl rfl ?_
                refine w_aload hZ 97 98 rfl rfl rfl ?_
                refine w_getr hZ 98 99 rfl rfl rfl rfl rfl ?_
                refine w_iload hZ 99 100 rfl rfl rfl ?_
                refine w_ialdv hZ 100 101 rfl rfl rfl (by omega) (by omega) (v := y + b2i (wnt V i)) hi1 ?_
                refine w_cge hZ 101 102 rfl rfl (fun c101 => ?_) (fun c101 => ?_)
                · refine w_aload hZ 104 105 rfl rfl rfl ?_
                  refine w_getr hZ 105 106 rfl rfl rfl rfl rfl ?_
                  refine w_iload hZ 106 107 rfl rfl rfl ?_
                  refine w_ialdv hZ 107 108 rfl rfl rfl (by omega) (by omega) (v := y + b2i (wnt V i)) hi1 ?_
                  refine w_iast hZ 108 109 rfl rfl rfl (by omega) (by omega) ?_
                  first
                    | (refine m109 (by omega) y none N1 rfl hF1 hT1 hi1 y0 y1 (Mn_n hM1.u (may_0 hvo k0 (by omega) (b2i_e.mp (by omega)))))
                    | exact m109 (by omega) y none N1 rfl hF1 hT1 hi1 y0 y1 (Mn_n hM1.u (b2i_z.mp c75))
                    | (refine m109 (by omega) (fw V (-1) a b g (i + lnC (vC' V k.toNat)) + 1) _ _ rfl (fun o ho => ?_) (fun j j0 j1 => ?_) ?_ (by omega) (by omega) (hy.1 (by omega))
                       · rw [← hF1 o ho]; funext q; simp [mup_at, ho]
                       · rw [mup_at, if_neg (by omega)]; exact hT1.u j j0 j1
                       · rw [mup_at, if_pos ⟨rfl, rfl⟩]; omega)
                    | (refine m109 (by omega) y _ _ rfl (fun o ho => ?_) (fun j j0 j1 => ?_) ?_ (by omega) (by omega) (hy.2 (by omega))
                       · rw [← hF1 o ho]; funext q; simp [mup_at, ho]
                       · rw [mup_at, if_neg (by omega)]; exact hT1.u j j0 j1
                       · rw [mup_at, if_pos ⟨rfl, rfl⟩])
                · refine w_iload hZ 102 103 rfl rfl rfl ?_
                  refine w_goto hZ 103 108 rfl ?_
                  refine w_iast hZ 108 109 rfl rfl rfl (by omega) (by omega) ?_
                  first
                    | (refine m109 (by omega) y none N1 rfl hF1 hT1 hi1 y0 y1 (Mn_n hM1.u (may_0 hvo k0 (by omega) (b2i_e.mp (by omega)))))
                    | exact m109 (by omega) y none N1 rfl hF1 hT1 hi1 y0 y1 (Mn_n hM1.u (b2i_z.mp c75))
                    | (refine m109 (by omega) (fw V (-1) a b g (i + lnC (vC' V k.toNat)) + 1) _ _ rfl (fun o ho => ?_) (fun j j0 j1 => ?_) ?_ (by omega) (by omega) (hy.1 (by omega))
                       · rw [← hF1 o ho]; funext q; simp [mup_at, ho]
                       · rw [mup_at, if_neg (by omega)]; exact hT1.u j j0 j1
                       · rw [mup_at, if_pos ⟨rfl, rfl⟩]; omega)
                    | (refine m109 (by omega) y _ _ rfl (fun o ho => ?_) (fun j j0 j1 => ?_) ?_ (by omega) (by omega) (hy.2 (by omega))
                       · rw [← hF1 o ho]; funext q; simp [mup_at, ho]
                       · rw [mup_at, if_neg (by omega)]; exact hT1.u j j0 j1
                       · rw [mup_at, if_pos ⟨rfl, rfl⟩])
      have m43 : a ≤ i → ∀ ah : Int, ah = (b2i (wnt V i) + b2i (smV V g i = 0)) → Z 43 [some (mr 73), some (mi a), some (mi b), some (mi (b2i (g = true))), some (mi i), some (mi (vS V i)), some (mi (1 - b2i (smV V g i = 0))), none, none, none] [mi ah] N := by
        intro hai ah hah
        subst hah
        have hfb := fb (i + 1) (by omega)
        refine w_st10_7 hZ 43 44 rfl rfl rfl ?_
        refine w_aload hZ 44 45 rfl rfl rfl ?_
        refine w_getr hZ 45 46 rfl rfl rfl rfl rfl ?_
        refine w_iload hZ 46 47 rfl rfl rfl ?_
        refine w_const hZ 47 48 rfl rfl  ?_
        refine w_iload hZ 48 49 rfl rfl rfl ?_
        refine w_add hZ 49 50 rfl rfl (by unfold InR; omega) ?_
        refine w_aload hZ 50 51 rfl rfl rfl ?_
        refine w_getr hZ 51 52 rfl rfl rfl rfl rfl ?_
        refine w_iload hZ 52 53 rfl rfl rfl ?_
        refine w_const hZ 53 54 rfl rfl  ?_
        refine w_add hZ 54 55 rfl rfl (by unfold InR; omega) ?_
        refine w_ialdv hZ 55 56 rfl rfl rfl (by omega) (by omega) (v := fw V (-1) a b g (i + 1)) (by rw [hT.u (i + 1) (by omega) (by omega), if_neg (by omega), Int.add_zero]) ?_
        refine w_add hZ 56 57 rfl rfl (by unfold InR; omega) ?_
        refine w_iast hZ 57 58 rfl rfl rfl (by omega) (by omega) ?_
        refine w_const hZ 58 59 rfl rfl  ?_
        refine w_st10_8 hZ 59 60 rfl rfl rfl ?_
        have h1e : fw1 V g (fw V (-1) a b g) i = fw V (-1) a b g (i + 1) + 1 + b2i (smV V g i = 0) := by
          unfold fw1 b2i
          by_cases q : smV V g i = 0 <;> simp [q] <;> omega
        refine inner hai _ 0 (fw1 V g (fw V (-1) a b g) i) _ rfl (Int.le_refl _) hv0 (fun o ho => ?_) (fun j j0 j1 => ?_) ?_ (by omega) (by omega) ⟨Int.le_refl _, fun j j0 j1 => absurd j1 (by omega), Or.inl rfl⟩
        · rw [← hF o ho]; funext q; simp [mup_at, ho]
        · rw [mup_at, if_neg (by omega)]; exact hT.u j j0 j1
        · rw [mup_at, if_pos ⟨rfl, rfl⟩]; omega
      have m29 : a ≤ i → ∀ sm : Int, sm = (1 - b2i (smV V g i = 0)) → Z 29 [some (mr 73), some (mi a), some (mi b), some (mi (b2i (g = true))), some (mi i), some (mi (vS V i)), none, none, none, none] [mi sm] N := by
        intro hai sm hs
        subst hs
        refine w_st10_6 hZ 29 30 rfl rfl rfl ?_
        refine w_aload hZ 30 31 rfl rfl rfl ?_
        refine w_iload hZ 31 32 rfl rfl rfl ?_
        refine k_X7_wantsLetters hZ 32 33 rfl rfl (Nat.le_of_ble_eq_true rfl) ⟨hbN, by omega, by omega⟩ ?_
        rw [eN]
        refine w_ifeq hZ 33 34 rfl rfl (fun c33 => ?_) (fun c33 => ?_)
        · refine w_const hZ 36 37 rfl rfl  ?_
          refine w_iload hZ 37 38 rfl rfl rfl ?_
          refine w_ifeq hZ 38 39 rfl rfl (fun c38 => ?_) (fun c38 => ?_)
          · refine w_const hZ 41 42 rfl rfl  ?_
            refine w_add hZ 42 43 rfl rfl (by unfold InR; omega) ?_
            first
              | exact m43 hai _ (by rw [b2i_t (b2i_e.mp c33)]; omega)
              | exact m43 hai _ (by rw [b2i_f (b2i_z.mp c33)]; omega)
          · refine w_const hZ 39 40 rfl rfl  ?_
            refine w_goto hZ 40 42 rfl ?_
            refine w_add hZ 42 43 rfl rfl (by unfold InR; omega) ?_
            first
              | exact m43 hai _ (by rw [b2i_t (b2i_e.mp c33)]; omega)
              | exact m43 hai _ (by rw [b2i_f (b2i_z.mp c33)]; omega)
        · refine w_const hZ 34 35 rfl rfl  ?_
          refine w_goto hZ 35 37 rfl ?_
          refine w_iload hZ 37 38 rfl rfl rfl ?_
          refine w_ifeq hZ 38 39 rfl rfl (fun c38 => ?_) (fun c38 => ?_)
          · refine w_const hZ 41 42 rfl rfl  ?_
            refine w_add hZ 42 43 rfl rfl (by unfold InR; omega) ?_
            first
              | exact m43 hai _ (by rw [b2i_t (b2i_e.mp c33)]; omega)
              | exact m43 hai _ (by rw [b2i_f (b2i_z.mp c33)]; omega)
          · refine w_const hZ 39 40 rfl rfl  ?_
            refine w_goto hZ 40 42 rfl ?_
            refine w_add hZ 42 43 rfl rfl (by unfold InR; omega) ?_
            first
              | exact m43 hai _ (by rw [b2i_t (b2i_e.mp c33)]; omega)
              | exact m43 hai _ (by rw [b2i_f (b2i_z.mp c33)]; omega)
      refine w_iload hZ 14 15 rfl rfl rfl ?_
      refine w_iload hZ 15 16 rfl rfl rfl ?_
      refine w_clt hZ 16 17 rfl rfl (fun c16 => ?_) (fun c16 => ?_)
      · refine w_aload hZ 113 114 rfl rfl rfl ?_
        refine w_getr hZ 114 115 rfl rfl rfl rfl rfl ?_
        refine w_iload hZ 115 116 rfl rfl rfl ?_
        refine w_ialdv hZ 116 117 rfl rfl rfl (by omega) (by omega) (v := fw V (-1) a b g a + b2i (wnt V a)) (by rw [hT.u a (by omega) (by omega), if_pos rfl]) ?_
        refine w_iload hZ 117 118 rfl rfl rfl ?_
        refine w_ifeq hZ 118 119 rfl rfl (fun c118 => ?_) (fun c118 => ?_)
        · refine w_const hZ 121 122 rfl rfl  ?_
          
          refine w_add hZ 122 123 rfl rfl (by unfold InR; omega) ?_
          refine w_iret hZ 123 rfl ?_
          refine hR' N _ ?_ hF
          rw [hhd]
          first
            | (rw [if_neg (b2i_z.mp c118)]; omega)
            | (rw [if_pos (b2i_e.mp c118)]; omega)
        · refine w_const hZ 119 120 rfl rfl  ?_
          refine w_goto hZ 120 122 rfl ?_
          
          refine w_add hZ 122 123 rfl rfl (by unfold InR; omega) ?_
          refine w_iret hZ 123 rfl ?_
          refine hR' N _ ?_ hF
          rw [hhd]
          first
            | (rw [if_neg (b2i_z.mp c118)]; omega)
            | (rw [if_pos (b2i_e.mp c118)]; omega)
      · refine w_aload hZ 17 18 rfl rfl rfl ?_
        refine w_iload hZ 18 19 rfl rfl rfl ?_
        refine k_X7_sign0 hZ 19 20 rfl rfl (Nat.le_of_ble_eq_true rfl) hbN ?_
        rw [eN]
        refine w_st10_5 hZ 20 21 rfl rfl rfl ?_
        refine w_iload hZ 21 22 rfl rfl rfl ?_
        refine w_ifne hZ 22 23 rfl rfl (fun c22 => ?_) (fun c22 => ?_)
        · refine w_const hZ 26 27 rfl rfl  ?_
          refine w_goto hZ 27 29 rfl ?_
          first
            | exact m29 (by omega) _ (by rw [b2i_f (fun z => ((smV_z hwd (by omega) i1).mp z).2 (b2i_e.mp c22))]; rfl)
            | exact m29 (by omega) _ (by rw [b2i_f (fun z => by have q := ((smV_z hwd (by omega) i1).mp z).1; have p := b2i_e.mp c25; simp only [isSm, isCp] at *; omega)]; rfl)
            | exact m29 (by omega) _ (by rw [b2i_t ((smV_z hwd (by omega) i1).mpr ⟨(hl i (by omega) i1).elim (fun p => absurd p (b2i_z.mp c25)) (fun p => p), b2i_z.mp c22⟩)]; rfl)
        · refine w_iload hZ 23 24 rfl rfl rfl ?_
          refine k_X7_isSmall hZ 24 25 rfl rfl (Nat.le_of_ble_eq_true rfl)  ?_
          refine w_ifeq hZ 25 26 rfl rfl (fun c25 => ?_) (fun c25 => ?_)
          · refine w_const hZ 28 29 rfl rfl  ?_
            first
              | exact m29 (by omega) _ (by rw [b2i_f (fun z => ((smV_z hwd (by omega) i1).mp z).2 (b2i_e.mp c22))]; rfl)
              | exact m29 (by omega) _ (by rw [b2i_f (fun z => by have q := ((smV_z hwd (by omega) i1).mp z).1; have p := b2i_e.mp c25; simp only [isSm, isCp] at *; omega)]; rfl)
              | exact m29 (by omega) _ (by rw [b2i_t ((smV_z hwd (by omega) i1).mpr ⟨(hl i (by omega) i1).elim (fun p => absurd p (b2i_z.mp c25)) (fun p => p), b2i_z.mp c22⟩)]; rfl)
          · refine w_const hZ 26 27 rfl rfl  ?_
            refine w_goto hZ 27 29 rfl ?_
            first
              | exact m29 (by omega) _ (by rw [b2i_f (fun z => ((smV_z hwd (by omega) i1).mp z).2 (b2i_e.mp c22))]; rfl)
              | exact m29 (by omega) _ (by rw [b2i_f (fun z => by have q := ((smV_z hwd (by omega) i1).mp z).1; have p := b2i_e.mp c25; simp only [isSm, isCp] at *; omega)]; rfl)
              | exact m29 (by omega) _ (by rw [b2i_t ((smV_z hwd (by omega) i1).mpr ⟨(hl i (by omega) i1).elim (fun p => absurd p (b2i_z.mp c25)) (fun p => p), b2i_z.mp c22⟩)]; rfl)
  refine w_aload hZ 0 1 rfl rfl rfl ?_
  refine w_iload hZ 1 2 rfl rfl rfl ?_
  refine w_iload hZ 2 3 rfl rfl rfl ?_
  refine k_X7_isAllGreat hZ 3 4 rfl rfl (Nat.le_of_ble_eq_true rfl) ⟨(by rw [hV]; exact hvo : vOk (YV M)).yb, a0, by omega, by omega⟩ ?_
  rw [hV, hg]
  refine w_st10_3 hZ 4 5 rfl rfl rfl ?_
  refine w_aload hZ 5 6 rfl rfl rfl ?_
  refine w_getr hZ 6 7 rfl rfl rfl rfl rfl ?_
  refine w_iload hZ 7 8 rfl rfl rfl ?_
  refine w_const hZ 8 9 rfl rfl  ?_
  refine w_iast hZ 9 10 rfl rfl rfl (by omega) (by omega) ?_
  refine w_iload hZ 10 11 rfl rfl rfl ?_
  refine w_const hZ 11 12 rfl rfl  ?_
  refine w_sub hZ 12 13 rfl rfl (by unfold InR; omega) ?_
  refine w_st10_4 hZ 13 14 rfl rfl rfl ?_
  refine loop _ (b - 1) _ rfl (by omega) (by omega) (fun o ho => ?_) (fun j j0 j1 => ?_)
  · funext q; simp [mup_at, ho]
  · have hj : j = b := by omega
    rw [hj, mup_at, if_pos ⟨rfl, rfl⟩, fw_end (Int.le_refl _), if_neg (by omega)]; rfl
set_option maxRecDepth 100000 in
set_option maxHeartbeats 4000000 in
theorem ao_X7_fewestOf : AllOk yX7_fewestOf.cls cX7_fewestOf 10 4 89 (some .int) none pc_X7_fewestOf 0 cd_X7_fewestOf := ⟨s_aload_n (k := 0) (by decide +kernel) rfl rfl, ⟨s_iload_n (k := 1) (by decide +kernel) rfl rfl, ⟨s_iload_n (k := 2) (by decide +kernel) rfl rfl, ⟨s_callV (C := RX7) (T := TX7) (N := 22) rfl ct_X7_isAllGreat (by decide) (by decide) ⟨rfl, by decide +kernel, by decide +kernel, by decide +kernel⟩ tw_4_114 tw_4_116 ts_3_15 tw_1_8 tw_4_117 (by decide +kernel) rfl, ⟨s_istore_n (k := 3) (by decide +kernel) rfl rfl, ⟨s_aload_n (k := 0) (by decide +kernel) rfl rfl, ⟨s_get (C := RX7) (T := TX7) (N := 22) rfl inT7 (by decide) tw_3_169 (by decide +kernel) rfl, ⟨s_iload_n (k := 2) (by decide +kernel) rfl rfl, ⟨s_iconst (by decide +kernel) rfl ⟨by decide, by decide⟩, ⟨s_iast (by decide +kernel) rfl, ⟨s_iload_n (k := 2) (by decide +kernel) rfl rfl, ⟨s_iconst (by decide +kernel) rfl ⟨by decide, by decide⟩, ⟨s_sub (by decide +kernel) rfl, ⟨s_istore (by decide +kernel) rfl, ⟨s_iload (by decide +kernel) rfl, ⟨s_iload_n (k := 1) (by decide +kernel) rfl rfl, ⟨s_clt (off := (181)) (by decide +kernel) rfl rfl, ⟨s_aload_n (k := 0) (by decide +kernel) rfl rfl, ⟨s_iload (by decide +kernel) rfl, ⟨s_callV (C := RX7) (T := TX7) (N := 22) rfl ct_X7_sign0 (by decide) (by decide) ⟨rfl, by decide +kernel, by decide +kernel, by decide +kernel⟩ tw_4_90 tw_4_92 ts_3_9 tw_1_8 tw_4_93 (by decide +kernel) rfl, ⟨s_istore (by decide +kernel) rfl, ⟨s_iload_n (k := 3) (by decide +kernel) rfl rfl, ⟨s_ifne (off := (11)) (by decide +kernel) rfl rfl, ⟨s_iload (by decide +kernel) rfl, ⟨s_callS ct_X7_isSmall (by decide) (by decide) ⟨by decide +kernel, by decide +kernel, by decide +kernel⟩ tw_4_59 tw_4_60 tw_1_8 tw_4_61 (by decide +kernel) rfl, ⟨s_ifeq (off := (7)) (by decide +kernel) rfl rfl, ⟨s_iconst (by decide +kernel) rfl ⟨by decide, by decide⟩, ⟨s_goto (off := (4)) (by decide +kernel) rfl, ⟨s_iconst (by decide +kernel) rfl ⟨by decide, by decide⟩, ⟨s_istore (by decide +kernel) rfl, ⟨s_aload_n (k := 0) (by decide +kernel) rfl rfl, ⟨s_iload (by decide +kernel) rfl, ⟨s_callV (C := RX7) (T := TX7) (N := 22) rfl ct_X7_wantsLetters (by decide) (by decide) ⟨rfl, by decide +kernel, by decide +kernel, by decide +kernel⟩ tw_4_133 tw_4_135 ts_4_3 tw_1_8 tw_4_136 (by decide +kernel) rfl, ⟨s_ifeq (off := (7)) (by decide +kernel) rfl rfl, ⟨s_iconst (by decide +kernel) rfl ⟨by decide, by decide⟩, ⟨s_goto (off := (4)) (by decide +kernel) rfl, ⟨s_iconst (by decide +kernel) rfl ⟨by decide, by decide⟩, ⟨s_iload (by decide +kernel) rfl, ⟨s_ifeq (off := (7)) (by decide +kernel) rfl rfl, ⟨s_iconst (by decide +kernel) rfl ⟨by decide, by decide⟩, ⟨s_goto (off := (4)) (by decide +kernel) rfl, ⟨s_iconst (by decide +kernel) rfl ⟨by decide, by decide⟩, ⟨s_add (by decide +kernel) rfl, ⟨s_istore (by decide +kernel) rfl, ⟨s_aload_n (k := 0) (by decide +kernel) rfl rfl, ⟨s_get (C := RX7) (T := TX7) (N := 22) rfl inT7 (by decide) tw_3_169 (by decide +kernel) rfl, ⟨s_iload (by decide +kernel) rfl, ⟨s_iconst (by decide +kernel) rfl ⟨by decide, by decide⟩, ⟨s_iload (by decide +kernel) rfl, ⟨s_add (by decide +kernel) rfl, ⟨s_aload_n (k := 0) (by decide +kernel) rfl rfl, ⟨s_get (C := RX7) (T := TX7) (N := 22) rfl inT7 (by decide) tw_3_169 (by decide +kernel) rfl, ⟨s_iload (by decide +kernel) rfl, ⟨s_iconst (by decide +kernel) rfl ⟨by decide, by decide⟩, ⟨s_add (by decide +kernel) rfl, ⟨s_iald (by decide +kernel) rfl, ⟨s_add (by decide +kernel) rfl, ⟨s_iast (by decide +kernel) rfl, ⟨s_iconst (by decide +kernel) rfl ⟨by decide, by decide⟩, ⟨s_istore (by decide +kernel) rfl, ⟨s_iload (by decide +kernel) rfl, ⟨s_aload_n (k := 0) (by decide +kernel) rfl rfl, ⟨s_get (C := RX7) (T := TX7) (N := 22) rfl inT7 (by decide) tw_3_159 (by decide +kernel) rfl, ⟨s_iconst (by decide +kernel) rfl ⟨by decide, by decide⟩, ⟨s_iald (by decide +kernel) rfl, ⟨s_cge (off := (86)) (by decide +kernel) rfl rfl, ⟨s_iload (by decide +kernel) rfl, ⟨s_ifeq (off := (75)) (by decide +kernel) rfl rfl, ⟨s_aload_n (k := 0) (by decide +kernel) rfl rfl, ⟨s_iload (by decide +kernel) rfl, ⟨s_iload (by decide +kernel) rfl, ⟨s_iload_n (k := 1) (by decide +kernel) rfl rfl, ⟨s_iload_n (k := 2) (by decide +kernel) rfl rfl, ⟨s_iload_n (k := 3) (by decide +kernel) rfl rfl, ⟨s_callV (C := RX7) (T := TX7) (N := 22) rfl ct_X7_mayServe (by decide) (by decide) ⟨rfl, by decide +kernel, by decide +kernel, by decide +kernel⟩ tw_4_126 tw_4_128 ts_4_2 tw_1_8 tw_4_129 (by decide +kernel) rfl, ⟨s_ifeq (off := (61)) (by decide +kernel) rfl rfl, ⟨s_iconst (by decide +kernel) rfl ⟨by decide, by decide⟩, ⟨s_iload (by decide +kernel) rfl, ⟨s_add (by decide +kernel) rfl, ⟨s_aload_n (k := 0) (by decide +kernel) rfl rfl, ⟨s_get (C := RX7) (T := TX7) (N := 22) rfl inT7 (by decide) tw_3_169 (by decide +kernel) rfl, ⟨s_iload (by decide +kernel) rfl, ⟨s_aload_n (k := 0) (by decide +kernel) rfl rfl, ⟨s_get (C := RX7) (T := TX7) (N := 22) rfl inT7 (by decide) tw_3_159 (by decide +kernel) rfl, ⟨s_iconst (by decide +kernel) rfl ⟨by decide, by decide⟩, ⟨s_iload (by decide +kernel) rfl, ⟨s_add (by decide +kernel) rfl, ⟨s_iald (by decide +kernel) rfl, ⟨s_callS ct_X7_lettersOf (by decide) (by decide) ⟨by decide +kernel, by decide +kernel, by decide +kernel⟩ tw_3_237 tw_3_238 tw_1_8 tw_3_239 (by decide +kernel) rfl, ⟨s_add (by decide +kernel) rfl, ⟨s_iald (by decide +kernel) rfl, ⟨s_add (by decide +kernel) rfl, ⟨s_istore (by decide +kernel) rfl, ⟨s_aload_n (k := 0) (by decide +kernel) rfl rfl, ⟨s_get (C := RX7) (T := TX7) (N := 22) rfl inT7 (by decide) tw_3_169 (by decide +kernel) rfl, ⟨s_iload (by decide +kernel) rfl, ⟨s_iload (by decide +kernel) rfl, ⟨s_aload_n (k := 0) (by decide +kernel) rfl rfl, ⟨s_get (C := RX7) (T := TX7) (N := 22) rfl inT7 (by decide) tw_3_169 (by decide +kernel) rfl, ⟨s_iload (by decide +kernel) rfl, ⟨s_iald (by decide +kernel) rfl, ⟨s_cge (off := (8)) (by decide +kernel) rfl rfl, ⟨s_iload (by decide +kernel) rfl, ⟨s_goto (off := (10)) (by decide +kernel) rfl, ⟨s_aload_n (k := 0) (by decide +kernel) rfl rfl, ⟨s_get (C := RX7) (T := TX7) (N := 22) rfl inT7 (by decide) tw_3_169 (by decide +kernel) rfl, ⟨s_iload (by decide +kernel) rfl, ⟨s_iald (by decide +kernel) rfl, ⟨s_iast (by decide +kernel) rfl, ⟨s_iinc (by decide +kernel) rfl, ⟨s_goto (off := (-91)) (by decide +kernel) rfl, ⟨s_iinc (by decide +kernel) rfl, ⟨s_goto (off := (-181)) (by decide +kernel) rfl, ⟨s_aload_n (k := 0) (by decide +kernel) rfl rfl, ⟨s_get (C := RX7) (T := TX7) (N := 22) rfl inT7 (by decide) tw_3_169 (by decide +kernel) rfl, ⟨s_iload_n (k := 1) (by decide +kernel) rfl rfl, ⟨s_iald (by decide +kernel) rfl, ⟨s_iload_n (k := 3) (by decide +kernel) rfl rfl, ⟨s_ifeq (off := (7)) (by decide +kernel) rfl rfl, ⟨s_iconst (by decide +kernel) rfl ⟨by decide, by decide⟩, ⟨s_goto (off := (4)) (by decide +kernel) rfl, ⟨s_iconst (by decide +kernel) rfl ⟨by decide, by decide⟩, ⟨s_add (by decide +kernel) rfl, ⟨s_iret rfl (by decide +kernel), trivial⟩⟩⟩⟩⟩⟩⟩⟩⟩⟩⟩⟩⟩⟩⟩⟩⟩⟩⟩⟩⟩⟩⟩⟩⟩⟩⟩⟩⟩⟩⟩⟩⟩⟩⟩⟩⟩⟩⟩⟩⟩⟩⟩⟩⟩⟩⟩⟩⟩⟩⟩⟩⟩⟩⟩⟩⟩⟩⟩⟩⟩⟩⟩⟩⟩⟩⟩⟩⟩⟩⟩⟩⟩⟩⟩⟩⟩⟩⟩⟩⟩⟩⟩⟩⟩⟩⟩⟩⟩⟩⟩⟩⟩⟩⟩⟩⟩⟩⟩⟩⟩⟩⟩⟩⟩⟩⟩⟩⟩⟩⟩⟩⟩⟩⟩⟩⟩⟩⟩⟩⟩⟩⟩⟩
theorem ct_X7_fewestOf : Ctr yX7_fewestOf cX7_fewestOf 10 (some .int) 4 89 sp_X7_fewestOf := by
  refine ctr_of (by decide +kernel) ao_X7_fewestOf rfl ?_
  rintro av M Ret ⟨a, b, rfl, hp, hR⟩ hok hM
  exact ⟨Nat.le_of_ble_eq_true rfl, fun Z hZ => b_X7_fewestOf  a (hok _ (List.mem_of_getElem? (i := 1) rfl)) b (hok _ (List.mem_of_getElem? (i := 2) rfl)) M Ret hp hR hM Z hZ⟩
