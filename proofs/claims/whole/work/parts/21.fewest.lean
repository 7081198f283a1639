/-! FEWEST -/
def mn (x y : Int) : Int := if y < x then y else x
/-- the fewest cells from i on, if F tells those from later places on -/
def fwS (V : BV) (w a b : Int) (g : Bool) (F : Int → Int) (i L : Int) (x : Int) : Int := if rA V w a b g i L = -1 then x else mn x (F (i + L) + 1)
def fw1 (V : BV) (g : Bool) (F : Int → Int) (i : Int) : Int := F (i + 1) + (if smV V g i = 0 then 2 else 1)
def fwA (V : BV) (w a b : Int) (g : Bool) (F : Int → Int) (i : Int) : Int := fwS V w a b g F i 4 (fwS V w a b g F i 3 (fwS V w a b g F i 2 (fw1 V g F i)))
def fwF (V : BV) (w a b : Int) (g : Bool) : Nat → Int → Int
  | 0, _ => 0
  | f + 1, i => if b ≤ i then 0 else fwA V w a b g (fwF V w a b g f) i
def fw (V : BV) (w a b : Int) (g : Bool) (i : Int) : Int := fwF V w a b g (b - i).toNat i
theorem fwS_congr {V : BV} {w a b : Int} {g : Bool} {F G : Int → Int} {i L : Int} (x : Int) (h : F (i + L) = G (i + L)) : fwS V w a b g F i L x = fwS V w a b g G i L x := by
  unfold fwS; rw [h]
theorem fwA_congr {V : BV} {w a b : Int} {g : Bool} {F G : Int → Int} {i : Int} (h : ∀ j, i < j → j ≤ i + 4 → F j = G j) : fwA V w a b g F i = fwA V w a b g G i := by
  unfold fwA
  have e1 : fw1 V g F i = fw1 V g G i := by unfold fw1; rw [h (i + 1) (by omega) (by omega)]
  rw [e1, fwS_congr _ (h (i + 2) (by omega) (by omega)), fwS_congr _ (h (i + 3) (by omega) (by omega)), fwS_congr _ (h (i + 4) (by omega) (by omega))]
theorem fwF_fuel (V : BV) (w a b : Int) (g : Bool) : ∀ (f f2 : Nat) (i : Int), (b - i).toNat ≤ f → (b - i).toNat ≤ f2 → fwF V w a b g f i = fwF V w a b g f2 i
  | 0, 0, i, _, _ => rfl
  | 0, f2 + 1, i, h1, _ => by unfold fwF; rw [if_pos (by omega)]
  | f + 1, 0, i, _, h2 => by unfold fwF; rw [if_pos (by omega)]
  | f + 1, f2 + 1, i, h1, h2 => by
    unfold fwF
    by_cases hb : b ≤ i
    · rw [if_pos hb, if_pos hb]
    · rw [if_neg hb, if_neg hb]
      exact fwA_congr fun j j0 j1 => fwF_fuel V w a b g f f2 j (by omega) (by omega)
theorem fw_end {V : BV} {w a b : Int} {g : Bool} {i : Int} (h : b ≤ i) : fw V w a b g i = 0 := by
  unfold fw; rw [show (b - i).toNat = 0 by omega]; rfl
theorem fw_step {V : BV} {w a b : Int} {g : Bool} {i : Int} (h : i < b) : fw V w a b g i = fwA V w a b g (fw V w a b g) i := by
  unfold fw
  rw [show (b - i).toNat = (b - (i + 1)).toNat + 1 by omega]
  conv => lhs; unfold fwF
  rw [if_neg (by omega)]
  exact fwA_congr fun j j0 j1 => fwF_fuel V w a b g _ _ j (by omega) (by omega)
theorem fwS_le {V : BV} {w a b : Int} {g : Bool} {F : Int → Int} {i L x c : Int} (h0 : 0 ≤ x) (h1 : x ≤ c) (h2 : 0 ≤ F (i + L)) : 0 ≤ fwS V w a b g F i L x ∧ fwS V w a b g F i L x ≤ c := by
  unfold fwS mn; split
  · exact ⟨h0, h1⟩
  · split <;> omega
theorem fw_le (V : BV) (w a b : Int) (g : Bool) : ∀ (d : Nat) (i : Int), d = (b - i).toNat → 0 ≤ fw V w a b g i ∧ fw V w a b g i ≤ 2 * d := by
  intro d
  induction d using Nat.strongRecOn with
  | ind d ih =>
    intro i hd
    have nn : ∀ j, i < j → 0 ≤ fw V w a b g j := by
      intro j hj
      by_cases q : b ≤ j
      · rw [fw_end q]; omega
      · exact (ih (b - j).toNat (by omega) j rfl).1
    by_cases hb : b ≤ i
    · rw [fw_end hb]; omega
    · rw [fw_step (by omega)]
      have h1 : 0 ≤ fw1 V g (fw V w a b g) i ∧ fw1 V g (fw V w a b g) i ≤ 2 * d := by
        have q := ih (b - (i + 1)).toNat (by omega) (i + 1) rfl
        unfold fw1
        split <;> omega
      unfold fwA
      have h2 := fwS_le (V := V) (w := w) (a := a) (b := b) (g := g) (L := 2) h1.1 h1.2 (nn (i + 2) (by omega))
      have h3 := fwS_le (V := V) (w := w) (a := a) (b := b) (g := g) (L := 3) h2.1 h2.2 (nn (i + 3) (by omega))
      exact fwS_le (V := V) (w := w) (a := a) (b := b) (g := g) (L := 4) h3.1 h3.2 (nn (i + 4) (by omega))
/-- the fewest of a whole word's letters -/
def fwW (V : BV) (w i : Int) : Int := fw V w i (we (vN V) (vS V) i) (alC V i (we (vN V) (vS V) i)) i
/-- .. of the words that begin ahead of k -/
def fwT (V : BV) (w : Int) : Nat → Int
  | 0 => 0
  | k + 1 => fwT V w k + (if isLt (vS V k) ∧ ¬ isLt (vS V ((k : Int) - 1)) then fwW V w k else 0)
theorem fwT_le {V : BV} (h : vOk V) (w : Int) : ∀ k : Nat, (k : Int) ≤ vN V → 0 ≤ fwT V w k ∧ fwT V w k ≤ 240 * k
  | 0, _ => ⟨Int.le_refl _, by unfold fwT; omega⟩
  | k + 1, hk => by
    have ih := fwT_le h w k (by omega)
    unfold fwT
    split
    · rename_i q
      have hg := we_gt h (i := (k : Int)) (by omega) q.1
      have := fw_le V w k (we (vN V) (vS V) k) (alC V k (we (vN V) (vS V) k)) _ k rfl
      have := h.2.1
      unfold fwW
      omega
    · omega
def sp_X5_fewestOfWord : SP := fun av M Ret => av = [mr 10] ∧ (vOk (bX M 1) ∧ En M) ∧ (∀ M2 : Mem, (∀ k, ¬ k = 15 → M2 k = M k) → Ret (some (mi (fw (bX M 1) (M 10 5) (M 10 7) (M 10 8) (gM M) (M 10 7)))) M2)
theorem k_X5_fewestOfWord {code : List Sem} {Z : KZ} {Ret : KR} {ls : List (Option MV)} {M : Mem} {r : List MV} (hZ : Sim code Z Ret) (ip np : Nat)  (hc : code[ip]? = some (I_callV 5 0 sp_X5_fewestOfWord)) (hn : ip + 1 = np) (h3 : catS r ≤ 8)  (hp : vOk (bX M 1) ∧ En M) (kz : ∀ M2 : Mem, (∀ k, ¬ k = 15 → M2 k = M k) → Z np ls (mi (fw (bX M 1) (M 10 5) (M 10 7) (M 10 8) (gM M) (M 10 7)) :: r) M2) : Z ip ls (mr 10 :: r) M := w_callV0 hZ ip np hc hn rfl rfl h3 ⟨rfl, hp, fun M2 h => kz M2 h⟩
def cd_X5_fewestOfWord : List Sem := [I_aload 0, I_get 5 11, I_aload 0, I_get 5 8, I_const (0), I_iast, I_aload 0, I_get 5 8, I_const (1), I_sub, I_istore 1, I_iload 1, I_aload 0, I_get 5 7, I_clt 62, I_aload 0, I_get 5 11, I_iload 1, I_const (1), I_add, I_iald, I_aload 0, I_get 5 10, I_iload 1, I_iald, I_ifne 28, I_const (2), I_goto 29, I_const (1), I_add, I_istore 2, I_const (2), I_istore 3, I_iload 3, I_const (4), I_cgt 55, I_aload 0, I_iload 1, I_iload 3, I_callV 5 2 sp_X5_ruleAt, I_const (-1), I_ceq 53, I_iload 2, I_aload 0, I_get 5 11, I_iload 1, I_iload 3, I_add, I_iald, I_const (1), I_add, I_min, I_istore 2, I_iinc 3 (1), I_goto 33, I_aload 0, I_get 5 11, I_iload 1, I_iload 2, I_iast, I_iinc 1 (-1), I_goto 11, I_aload 0, I_get 5 11, I_aload 0, I_get 5 7, I_iald, I_iret]
def pc_X5_fewestOfWord : List Nat := [0, 1, 4, 5, 8, 9, 10, 11, 14, 15, 16, 17, 18, 19, 22, 25, 26, 29, 30, 31, 32, 33, 34, 37, 38, 39, 42, 43, 46, 47, 48, 49, 50, 51, 52, 53, 56, 57, 58, 59, 62, 63, 66, 67, 68, 71, 72, 73, 74, 75, 76, 77, 80, 81, 84, 87, 88, 91, 92, 93, 94, 97, 100, 101, 104, 105, 108, 109]
set_option maxRecDepth 100000 in
set_option maxHeartbeats 4000000 in
theorem b_X5_fewestOfWord  (M : Mem) (Ret : KR) (hp : vOk (bX M 1) ∧ En M) (hR : ∀ M2 : Mem, (∀ k, ¬ k = 15 → M2 k = M k) → Ret (some (mi (fw (bX M 1) (M 10 5) (M 10 7) (M 10 8) (gM M) (M 10 7)))) M2) (hM : MOk M) (Z : KZ) (hZ : Sim cd_X5_fewestOfWord Z Ret) : Z 0 [some (mr 10), none, none, none] [] M := by
  obtain ⟨hv, he⟩ := hp
  have hb := hv.bx
  obtain ⟨b1, b2, b3, b4⟩ := hb
  have hee := he
  obtain ⟨e1, e2, e3, e4⟩ := hee
  generalize hV : bX M 1 = V at *
  generalize hw : M 10 5 = w at *
  generalize ha : M 10 7 = a at *
  generalize hbe : M 10 8 = b at *
  generalize hG : gM M = g at *
  have same : ∀ N : Mem, (∀ k, ¬ k = 15 → N k = M k) → bX N 1 = V ∧ N 10 5 = w ∧ N 10 7 = a ∧ N 10 8 = b ∧ gM N = g ∧ En N ∧ N 14 = M 14 := by
    intro N hN
    have h10 := hN 10 (by omega)
    have h1 := hN 1 (by omega)
    have h14 := hN 14 (by omega)
    have hbx : bX N 1 = V := (bX_same 1 (fun j x y => hN j (by omega))).trans hV
    have hgN : gM N = g := by unfold gM; rw [h10]; exact hG
    refine ⟨hbx, by rw [h10]; exact hw, by rw [h10]; exact ha, by rw [h10]; exact hbe, hgN, ?_, h14⟩
    unfold En; rw [hbx, hgN, h10, h1, h14, ha, hbe]; exact ⟨e1, e2, e3, e4⟩
  have fb : ∀ j, 0 ≤ j → 0 ≤ fw V w a b g j ∧ fw V w a b g j ≤ 240 := fun j hj => by
    have := fw_le V w a b g (b - j).toNat j rfl
    omega
  have loop : ∀ (d : Nat) (i : Int) (N : Mem), d = (i + 1 - a).toNat → a - 1 ≤ i → i < b → (∀ k, ¬ k = 15 → N k = M k) → (∀ j, i < j → j ≤ b → N 15 j.toNat = fw V w a b g j) → Z 11 [some (mr 10), some (mi i), none, none] [] N := by
    intro d
    induction d using Nat.strongRecOn with
    | ind d ih =>
      intro i N hd h0 h1 hN hF
      obtain ⟨n1, n2, n3, n4, n5, n6, n7⟩ := same N hN
      have hsm : a ≤ i → N 14 i.toNat = smV V g i := fun hai => by rw [n7]; exact (e4 i hai h1).2
      have hrA : ∀ L, rA (bX N 1) (N 10 5) (N 10 7) (N 10 8) (gM N) i L = rA V w a b g i L := fun L => by rw [n1, n2, n3, n4, n5]
      have preA : ∀ L : Int, a ≤ i → 2 ≤ L → L ≤ 4 → vOk (bX N 1) ∧ En N ∧ N 10 7 ≤ i ∧ i < N 10 8 ∧ 2 ≤ L ∧ L ≤ 4 := fun L hai l2 l4 => ⟨by rw [n1]; exact hv, n6, by rw [n3]; exact hai, by rw [n4]; exact h1, l2, l4⟩
      have fin : a ≤ i → ∀ x : Int, x = fw V w a b g i → Z 33 [some (mr 10), some (mi i), some (mi x), some (mi 5)] [] N := by
        intro hai x hx
        refine w_iload hZ 33 34 rfl rfl rfl ?_
        refine w_const hZ 34 35 rfl rfl  ?_
        refine w_cgt hZ 35 36 rfl rfl (fun c35 => ?_) (fun c35 => absurd c35 (by omega))
        refine w_aload hZ 55 56 rfl rfl rfl ?_
        refine w_getr hZ 56 57 rfl rfl rfl rfl rfl ?_
        refine w_iload hZ 57 58 rfl rfl rfl ?_
        refine w_iload hZ 58 59 rfl rfl rfl ?_
        refine w_iast hZ 59 60 rfl rfl rfl (by omega) (by omega) ?_
        refine w_in4_1 hZ 60 61 rfl rfl rfl (by unfold InR; omega) ?_
        refine w_goto hZ 61 11 rfl ?_
        refine w_fg4_2 hZ ?_
        refine w_fg4_3 hZ ?_
        refine ih ((i + -1 + 1 - a).toNat) (by omega) (i + -1) _ rfl (by omega) (by omega) (fun k hk => ?_) (fun j j0 j1 => ?_)
        · rw [← hN k hk]; funext q; simp [mup_at, hk]
        · by_cases q : j = i
          · subst q; simp [mup_at, hx]
          · have : ¬ j.toNat = i.toNat := by omega
            simp [mup_at, this]; exact hF j (by omega) j1
      have one : ∀ L : Int, a ≤ i → 2 ≤ L → L ≤ 4 → ∀ x : Int, 0 ≤ x → x ≤ 300 → (∀ y : Int, y = fwS V w a b g (fw V w a b g) i L x → 0 ≤ y → y ≤ 300 → Z 33 [some (mr 10), some (mi i), some (mi y), some (mi (L + 1))] [] N) → Z 33 [some (mr 10), some (mi i), some (mi x), some (mi L)] [] N := by
        intro L hai l2 l4 x x0 x1 kz
        refine w_iload hZ 33 34 rfl rfl rfl ?_
        refine w_const hZ 34 35 rfl rfl  ?_
        refine w_cgt hZ 35 36 rfl rfl (fun c35 => absurd c35 (by omega)) (fun c35 => ?_)
        refine w_aload hZ 36 37 rfl rfl rfl ?_
        refine w_iload hZ 37 38 rfl rfl rfl ?_
        refine w_iload hZ 38 39 rfl rfl rfl ?_
        refine k_X5_ruleAt hZ 39 40 rfl rfl (Nat.le_of_ble_eq_true rfl) (preA L hai l2 l4) ?_
        rw [hrA L]
        refine w_const hZ 40 41 rfl rfl  ?_
        refine w_ceq hZ 41 42 rfl rfl (fun c41 => ?_) (fun c41 => ?_)
        · first
            | (refine w_in4_3 hZ 53 54 rfl rfl rfl (by unfold InR; omega) ?_; refine w_goto hZ 54 33 rfl ?_; refine kz _ ?_ (by split <;> omega) (by split <;> omega); unfold fwS mn; rw [if_neg c41])
            | (refine w_in4_3 hZ 53 54 rfl rfl rfl (by unfold InR; omega) ?_; refine w_goto hZ 54 33 rfl ?_; refine kz x ?_ x0 x1; unfold fwS; rw [if_pos c41])
        · have hin : i + L ≤ b := by
            rcases rA_cases V w a b g i L hv.2.2.1 with q | q
            · exact absurd q c41
            · exact q.2.2.1
          have hfb := fb (i + L) (by omega)
          refine w_iload hZ 42 43 rfl rfl rfl ?_
          refine w_aload hZ 43 44 rfl rfl rfl ?_
          refine w_getr hZ 44 45 rfl rfl rfl rfl rfl ?_
          refine w_iload hZ 45 46 rfl rfl rfl ?_
          refine w_iload hZ 46 47 rfl rfl rfl ?_
          refine w_add hZ 47 48 rfl rfl (by unfold InR; omega) ?_
          refine w_ialdv hZ 48 49 rfl rfl rfl (by omega) (by omega) (v := fw V w a b g (i + L)) (hF (i + L) (by omega) hin) ?_
          refine w_const hZ 49 50 rfl rfl  ?_
          refine w_add hZ 50 51 rfl rfl (by unfold InR; omega) ?_
          refine w_min hZ 51 52 rfl rfl (Nat.le_of_ble_eq_true rfl) ?_
          refine w_st4_2 hZ 52 53 rfl rfl rfl ?_
          first
            | (refine w_in4_3 hZ 53 54 rfl rfl rfl (by unfold InR; omega) ?_; refine w_goto hZ 54 33 rfl ?_; refine kz _ ?_ (by split <;> omega) (by split <;> omega); unfold fwS mn; rw [if_neg c41])
            | (refine w_in4_3 hZ 53 54 rfl rfl rfl (by unfold InR; omega) ?_; refine w_goto hZ 54 33 rfl ?_; refine kz x ?_ x0 x1; unfold fwS; rw [if_pos c41])
      have t31 : a ≤ i → ∀ x : Int, x = fw1 V g (fw V w a b g) i → 0 ≤ x → x ≤ 300 → Z 31 [some (mr 10), some (mi i), some (mi x), none] [] N := by
        intro hai x hx x0 x1
        refine w_const hZ 31 32 rfl rfl  ?_
        refine w_st4_3 hZ 32 33 rfl rfl rfl ?_
        exact one 2 hai (by omega) (by omega) x x0 x1 (fun y2 e2 z0 z1 => one 3 hai (by omega) (by omega) y2 z0 z1 (fun y3 e3 z2 z3 => one 4 hai (by omega) (by omega) y3 z2 z3 (fun y4 e4 z4 z5 => fin hai y4 (by rw [fw_step h1, e4, e3, e2, hx]; rfl))))
      refine w_iload hZ 11 12 rfl rfl rfl ?_
      refine w_aload hZ 12 13 rfl rfl rfl ?_
      refine w_getiv hZ 13 14 rfl rfl rfl rfl rfl (v := a) n3 ?_
      refine w_clt hZ 14 15 rfl rfl (fun c14 => ?_) (fun c14 => ?_)
      · refine w_aload hZ 62 63 rfl rfl rfl ?_
        refine w_getr hZ 63 64 rfl rfl rfl rfl rfl ?_
        refine w_aload hZ 64 65 rfl rfl rfl ?_
        refine w_geti hZ 65 66 rfl rfl rfl rfl rfl ?_
        refine w_ialdv hZ 66 67 rfl rfl rfl (by rw [n3]; omega) (by rw [n3]; omega) (v := fw V w a b g a) (by rw [n3]; exact hF a (by omega) (by omega)) ?_
        refine w_iret hZ 67 rfl ?_
        exact hR _ hN
      · have hfb := fb (i + 1) (by omega)
        refine w_aload hZ 15 16 rfl rfl rfl ?_
        refine w_getr hZ 16 17 rfl rfl rfl rfl rfl ?_
        refine w_iload hZ 17 18 rfl rfl rfl ?_
        refine w_const hZ 18 19 rfl rfl  ?_
        refine w_add hZ 19 20 rfl rfl (by unfold InR; omega) ?_
        refine w_ialdv hZ 20 21 rfl rfl rfl (by omega) (by omega) (v := fw V w a b g (i + 1)) (hF (i + 1) (by omega) (by omega)) ?_
        refine w_aload hZ 21 22 rfl rfl rfl ?_
        refine w_getr hZ 22 23 rfl rfl rfl rfl rfl ?_
        refine w_iload hZ 23 24 rfl rfl rfl ?_
        refine w_ialdv hZ 24 25 rfl rfl rfl (by omega) (by omega) (v := smV V g i) (hsm (by omega)) ?_
        refine w_ifne hZ 25 26 rfl rfl (fun c25 => ?_) (fun c25 => ?_)
        · refine w_const hZ 28 29 rfl rfl  ?_
          refine w_add hZ 29 30 rfl rfl (by unfold InR; omega) ?_
          refine w_st4_2 hZ 30 31 rfl rfl rfl ?_
          first
            | exact t31 (by omega) _ (by unfold fw1; rw [if_neg c25]) (by omega) (by omega)
            | exact t31 (by omega) _ (by unfold fw1; rw [if_pos c25]) (by omega) (by omega)
        · refine w_const hZ 26 27 rfl rfl  ?_
          refine w_goto hZ 27 29 rfl ?_
          refine w_add hZ 29 30 rfl rfl (by unfold InR; omega) ?_
          refine w_st4_2 hZ 30 31 rfl rfl rfl ?_
          first
            | exact t31 (by omega) _ (by unfold fw1; rw [if_neg c25]) (by omega) (by omega)
            | exact t31 (by omega) _ (by unfold fw1; rw [if_pos c25]) (by omega) (by omega)
  refine w_aload hZ 0 1 rfl rfl rfl ?_
  refine w_getr hZ 1 2 rfl rfl rfl rfl rfl ?_
  refine w_aload hZ 2 3 rfl rfl rfl ?_
  refine w_getiv hZ 3 4 rfl rfl rfl rfl rfl (v := b) hbe ?_
  refine w_const hZ 4 5 rfl rfl  ?_
  refine w_iast hZ 5 6 rfl rfl rfl (by omega) (by omega) ?_
  refine w_aload hZ 6 7 rfl rfl rfl ?_
  refine w_getiv hZ 7 8 rfl rfl rfl rfl rfl (v := b) hbe ?_
  refine w_const hZ 8 9 rfl rfl  ?_
  refine w_sub hZ 9 10 rfl rfl (by unfold InR; omega) ?_
  refine w_st4_1 hZ 10 11 rfl rfl rfl ?_
  refine loop _ (b - 1) _ rfl (by omega) (by omega) (fun k hk => ?_) (fun j j0 j1 => ?_)
  · funext q; simp [mup_at, hk]
  · have : j = b := by omega
    subst this; rw [fw_end (Int.le_refl _)]; simp [mup_at]
set_option maxRecDepth 100000 in
set_option maxHeartbeats 4000000 in
theorem ao_X5_fewestOfWord : AllOk yX5_fewestOfWord.cls cX5_fewestOfWord 4 2 50 (some .int) none pc_X5_fewestOfWord 0 cd_X5_fewestOfWord := ⟨s_aload_n (k := 0) (by decide +kernel) rfl rfl, ⟨s_get (C := RX5) (T := TX5) (N := 12) rfl inT5 (by decide) tw_1_103 (by decide +kernel) rfl, ⟨s_aload_n (k := 0) (by decide +kernel) rfl rfl, ⟨s_get (C := RX5) (T := TX5) (N := 12) rfl inT5 (by decide) tw_1_100 (by decide +kernel) rfl, ⟨s_iconst (by decide +kernel) rfl ⟨by decide, by decide⟩, ⟨s_iast (by decide +kernel) rfl, ⟨s_aload_n (k := 0) (by decide +kernel) rfl rfl, ⟨s_get (C := RX5) (T := TX5) (N := 12) rfl inT5 (by decide) tw_1_100 (by decide +kernel) rfl, ⟨s_iconst (by decide +kernel) rfl ⟨by decide, by decide⟩, ⟨s_sub (by decide +kernel) rfl, ⟨s_istore_n (k := 1) (by decide +kernel) rfl rfl, ⟨s_iload_n (k := 1) (by decide +kernel) rfl rfl, ⟨s_aload_n (k := 0) (by decide +kernel) rfl rfl, ⟨s_get (C := RX5) (T := TX5) (N := 12) rfl inT5 (by decide) tw_1_99 (by decide +kernel) rfl, ⟨s_clt (off := (78)) (by decide +kernel) rfl rfl, ⟨s_aload_n (k := 0) (by decide +kernel) rfl rfl, ⟨s_get (C := RX5) (T := TX5) (N := 12) rfl inT5 (by decide) tw_1_103 (by decide +kernel) rfl, ⟨s_iload_n (k := 1) (by decide +kernel) rfl rfl, ⟨s_iconst (by decide +kernel) rfl ⟨by decide, by decide⟩, ⟨s_add (by decide +kernel) rfl, ⟨s_iald (by decide +kernel) rfl, ⟨s_aload_n (k := 0) (by decide +kernel) rfl rfl, ⟨s_get (C := RX5) (T := TX5) (N := 12) rfl inT5 (by decide) tw_1_102 (by decide +kernel) rfl, ⟨s_iload_n (k := 1) (by decide +kernel) rfl rfl, ⟨s_iald (by decide +kernel) rfl, ⟨s_ifne (off := (7)) (by decide +kernel) rfl rfl, ⟨s_iconst (by decide +kernel) rfl ⟨by decide, by decide⟩, ⟨s_goto (off := (4)) (by decide +kernel) rfl, ⟨s_iconst (by decide +kernel) rfl ⟨by decide, by decide⟩, ⟨s_add (by decide +kernel) rfl, ⟨s_istore_n (k := 2) (by decide +kernel) rfl rfl, ⟨s_iconst (by decide +kernel) rfl ⟨by decide, by decide⟩, ⟨s_istore_n (k := 3) (by decide +kernel) rfl rfl, ⟨s_iload_n (k := 3) (by decide +kernel) rfl rfl, ⟨s_iconst (by decide +kernel) rfl ⟨by decide, by decide⟩, ⟨s_cgt (off := (34)) (by decide +kernel) rfl rfl, ⟨s_aload_n (k := 0) (by decide +kernel) rfl rfl, ⟨s_iload_n (k := 1) (by decide +kernel) rfl rfl, ⟨s_iload_n (k := 3) (by decide +kernel) rfl rfl, ⟨s_callV (C := RX5) (T := TX5) (N := 12) rfl ct_X5_ruleAt (by decide) (by decide) ⟨rfl, by decide +kernel, by decide +kernel, by decide +kernel⟩ tw_2_179 tw_2_181 ts_1_9 tw_1_4 tw_2_182 (by decide +kernel) rfl, ⟨s_iconst (by decide +kernel) rfl ⟨by decide, by decide⟩, ⟨s_ceq (off := (18)) (by decide +kernel) rfl rfl, ⟨s_iload_n (k := 2) (by decide +kernel) rfl rfl, ⟨s_aload_n (k := 0) (by decide +kernel) rfl rfl, ⟨s_get (C := RX5) (T := TX5) (N := 12) rfl inT5 (by decide) tw_1_103 (by decide +kernel) rfl, ⟨s_iload_n (k := 1) (by decide +kernel) rfl rfl, ⟨s_iload_n (k := 3) (by decide +kernel) rfl rfl, ⟨s_add (by decide +kernel) rfl, ⟨s_iald (by decide +kernel) rfl, ⟨s_iconst (by decide +kernel) rfl ⟨by decide, by decide⟩, ⟨s_add (by decide +kernel) rfl, ⟨s_min tw_2_217 tw_2_29 tw_1_10 tw_2_30 (by decide) (by decide) (by decide +kernel) rfl, ⟨s_istore_n (k := 2) (by decide +kernel) rfl rfl, ⟨s_iinc (by decide +kernel) rfl, ⟨s_goto (off := (-33)) (by decide +kernel) rfl, ⟨s_aload_n (k := 0) (by decide +kernel) rfl rfl, ⟨s_get (C := RX5) (T := TX5) (N := 12) rfl inT5 (by decide) tw_1_103 (by decide +kernel) rfl, ⟨s_iload_n (k := 1) (by decide +kernel) rfl rfl, ⟨s_iload_n (k := 2) (by decide +kernel) rfl rfl, ⟨s_iast (by decide +kernel) rfl, ⟨s_iinc (by decide +kernel) rfl, ⟨s_goto (off := (-80)) (by decide +kernel) rfl, ⟨s_aload_n (k := 0) (by decide +kernel) rfl rfl, ⟨s_get (C := RX5) (T := TX5) (N := 12) rfl inT5 (by decide) tw_1_103 (by decide +kernel) rfl, ⟨s_aload_n (k := 0) (by decide +kernel) rfl rfl, ⟨s_get (C := RX5) (T := TX5) (N := 12) rfl inT5 (by decide) tw_1_99 (by decide +kernel) rfl, ⟨s_iald (by decide +kernel) rfl, ⟨s_iret rfl (by decide +kernel), trivial⟩⟩⟩⟩⟩⟩⟩⟩⟩⟩⟩⟩⟩⟩⟩⟩⟩⟩⟩⟩⟩⟩⟩⟩⟩⟩⟩⟩⟩⟩⟩⟩⟩⟩⟩⟩⟩⟩⟩⟩⟩⟩⟩⟩⟩⟩⟩⟩⟩⟩⟩⟩⟩⟩⟩⟩⟩⟩⟩⟩⟩⟩⟩⟩⟩⟩⟩⟩
theorem ct_X5_fewestOfWord : Ctr yX5_fewestOfWord cX5_fewestOfWord 4 (some .int) 2 50 sp_X5_fewestOfWord := by
  refine ctr_of (by decide +kernel) ao_X5_fewestOfWord rfl ?_
  rintro av M Ret ⟨rfl, hp, hR⟩ hok hM
  exact ⟨Nat.le_of_ble_eq_true rfl, fun Z hZ => b_X5_fewestOfWord   M Ret hp hR hM Z hZ⟩
def sp_X5_fewest : SP := fun av M Ret => av = [mr 10] ∧ (vOk (bX M 1) ∧ 0 ≤ M 10 4 ∧ M 10 4 ≤ 240 ∧ 0 ≤ M 10 6 ∧ M 10 6 ≤ 240) ∧ (∀ M2 : Mem, (∀ k, ¬ k = 10 → ¬ k = 14 → ¬ k = 15 → M2 k = M k) → Ret (some (mi (M 10 4 - M 10 6 + fwT (bX M 1) (M 10 5) (M 1 5).toNat))) M2)
theorem k_X5_fewest {code : List Sem} {Z : KZ} {Ret : KR} {ls : List (Option MV)} {M : Mem} {r : List MV} (hZ : Sim code Z Ret) (ip np : Nat)  (hc : code[ip]? = some (I_callV 5 0 sp_X5_fewest)) (hn : ip + 1 = np) (h3 : catS r ≤ 8)  (hp : vOk (bX M 1) ∧ 0 ≤ M 10 4 ∧ M 10 4 ≤ 240 ∧ 0 ≤ M 10 6 ∧ M 10 6 ≤ 240) (kz : ∀ M2 : Mem, (∀ k, ¬ k = 10 → ¬ k = 14 → ¬ k = 15 → M2 k = M k) → Z np ls (mi (M 10 4 - M 10 6 + fwT (bX M 1) (M 10 5) (M 1 5).toNat) :: r) M2) : Z ip ls (mr 10 :: r) M := w_callV0 hZ ip np hc hn rfl rfl h3 ⟨rfl, hp, fun M2 h => kz M2 h⟩
def cd_X5_fewest : List Sem := [I_aload 0, I_get 5 4, I_aload 0, I_get 5 6, I_sub, I_istore 1, I_const (0), I_istore 2, I_iload 2, I_aload 0, I_get 5 3, I_get 0 5, I_cge 28, I_aload 0, I_get 5 3, I_iload 2, I_callV 0 1 sp_X0_wordBeginsAt, I_ifeq 26, I_aload 0, I_iload 2, I_callV 5 1 sp_X5_enterWord, I_iload 1, I_aload 0, I_callV 5 0 sp_X5_fewestOfWord, I_add, I_istore 1, I_iinc 2 (1), I_goto 8, I_iload 1, I_iret]
def pc_X5_fewest : List Nat := [0, 1, 4, 5, 8, 9, 10, 11, 12, 13, 14, 17, 20, 23, 24, 27, 28, 31, 34, 35, 36, 39, 40, 41, 44, 45, 46, 49, 52, 53]
set_option maxRecDepth 100000 in
set_option maxHeartbeats 4000000 in
theorem b_X5_fewest  (M : Mem) (Ret : KR) (hp : vOk (bX M 1) ∧ 0 ≤ M 10 4 ∧ M 10 4 ≤ 240 ∧ 0 ≤ M 10 6 ∧ M 10 6 ≤ 240) (hR : ∀ M2 : Mem, (∀ k, ¬ k = 10 → ¬ k = 14 → ¬ k = 15 → M2 k = M k) → Ret (some (mi (M 10 4 - M 10 6 + fwT (bX M 1) (M 10 5) (M 1 5).toNat))) M2) (hM : MOk M) (Z : KZ) (hZ : Sim cd_X5_fewest Z Ret) : Z 0 [some (mr 10), none, none] [] M := by
  obtain ⟨hv, h4a, h4b, h6a, h6b⟩ := hp
  have hb := hv.bx
  obtain ⟨b1, b2, b3, b4⟩ := hb
  generalize hV : bX M 1 = V at *
  have hn : vN V = M 1 5 := by rw [← hV]; rfl
  generalize hn' : M 1 5 = n at *
  generalize hw : M 10 5 = w at *
  generalize hT : M 10 4 - M 10 6 = t0 at *
  have loop : ∀ (d k : Nat) (N : Mem), d + k = n.toNat → N 10 5 = w → (∀ o, ¬ o = 10 → ¬ o = 14 → ¬ o = 15 → N o = M o) → Z 8 [some (mr 10), some (mi (t0 + fwT V w k)), some (mi (k : Int))] [] N := by
    intro d
    induction d with
    | zero =>
      intro k N hk h5 hN
      have e15 : N 1 5 = n := by rw [hN 1 (by omega) (by omega) (by omega)]; exact hn'
      refine w_iload hZ 8 9 rfl rfl rfl ?_
      refine w_aload hZ 9 10 rfl rfl rfl ?_
      refine w_getr hZ 10 11 rfl rfl rfl rfl rfl ?_
      refine w_getiv hZ 11 12 rfl rfl rfl rfl rfl (v := n) e15 ?_
      refine w_cge hZ 12 13 rfl rfl (fun c12 => ?_) (fun c12 => absurd c12 (by omega))
      refine w_iload hZ 28 29 rfl rfl rfl ?_
      refine w_iret hZ 29 rfl ?_
      have e : k = n.toNat := by omega
      rw [e]
      exact hR _ hN
    | succ d ih =>
      intro k N hk h5 hN
      have e15 : N 1 5 = n := by rw [hN 1 (by omega) (by omega) (by omega)]; exact hn'
      have hbN : bX N 1 = V := (bX_same 1 (fun j a b => hN j (by omega) (by omega) (by omega))).trans hV
      have hvN : vOk (bX N 1) := by rw [hbN]; exact hv
      have hBN := hvN.bx
      have hsN : ∀ x, SX N x = vS V x := fun x => by show vS (bX N 1) x = _; rw [hbN]
      have hle := fwT_le hv w k (by omega)
      have hle2 := fwT_le hv w (k + 1) (by omega)
      have step : ∀ (N2 : Mem) (z : Int), N2 10 5 = w → (∀ o, ¬ o = 10 → ¬ o = 14 → ¬ o = 15 → N2 o = M o) → z = t0 + fwT V w (k + 1) → Z 26 [some (mr 10), some (mi z), some (mi (k : Int))] [] N2 := by
        intro N2 z s1 s2 s3
        refine w_in3_2 hZ 26 27 rfl rfl rfl (by unfold InR; omega) ?_
        refine w_goto hZ 27 8 rfl ?_
        rw [s3]
        exact ih (k + 1) N2 (by omega) s1 s2
      refine w_iload hZ 8 9 rfl rfl rfl ?_
      refine w_aload hZ 9 10 rfl rfl rfl ?_
      refine w_getr hZ 10 11 rfl rfl rfl rfl rfl ?_
      refine w_getiv hZ 11 12 rfl rfl rfl rfl rfl (v := n) e15 ?_
      refine w_cge hZ 12 13 rfl rfl (fun c12 => absurd c12 (by omega)) (fun c12 => ?_)
      refine w_aload hZ 13 14 rfl rfl rfl ?_
      refine w_getr hZ 14 15 rfl rfl rfl rfl rfl ?_
      refine w_iload hZ 15 16 rfl rfl rfl ?_
      refine k_X0_wordBeginsAt hZ 16 17 rfl rfl (Nat.le_of_ble_eq_true rfl) ⟨hBN, by unfold InR; omega⟩ ?_
      rw [hsN k, hsN ((k : Int) - 1)]
      refine w_ifeq hZ 17 18 rfl rfl (fun c17 => ?_) (fun c17 => ?_)
      · refine step N _ h5 hN ?_
        show _ = t0 + (fwT V w k + (if _ then _ else _))
        rw [if_neg (b2i_z.mp c17)]; omega
      · replace c17 := b2i_e.mp c17
        refine w_aload hZ 18 19 rfl rfl rfl ?_
        refine w_iload hZ 19 20 rfl rfl rfl ?_
        refine k_X5_enterWord hZ 20 21 rfl rfl (Nat.le_of_ble_eq_true rfl) ⟨hvN, by omega, by omega, by rw [hbN]; exact c17.1⟩ (fun M20 p20 => ?_)
        obtain ⟨q1, q2, q3⟩ := p20
        rw [e15, hbN] at q2 q3
        rw [e15] at q1
        have hwe : we n (SX N) k = we (vN V) (vS V) k := by rw [hn, show SX N = vS V from funext hsN]
        rw [hwe] at q1 q2 q3
        have hb20 : bX M20 1 = V := q1.bx.trans hbN
        have hg20 : gM M20 = alC V k (we (vN V) (vS V) k) := by
          unfold gM
          rw [q2]
          by_cases z : alC V k (we (vN V) (vS V) k) = true
          · rw [b2i_t z, z]; rfl
          · rw [b2i_f z]; simp at z; rw [z]; rfl
        have hwg := we_gt hv (i := (k : Int)) (by omega) c17.1
        have hws := we_spec (n := vN V) (S := vS V) (i := (k : Int)) (by omega) hv.nl
        have e20 : M20 10 5 = w := (q1.2.2.1 5 (by omega) (by omega) (by omega)).trans h5
        have e201 : M20 1 5 = n := by rw [q1.2.2.2 1 (by omega) (by omega)]; exact e15
        have hen : En M20 := by
          unfold En
          rw [q1.1, q1.2.1, e201, hb20, hg20]
          exact ⟨by omega, hwg.1, by omega, fun x x0 x1 => ⟨hws.2.2.1 x x0 x1, q3 x x0 x1⟩⟩
        have hTk : fwT V w (k + 1) = fwT V w k + fwW V w k := by
          show fwT V w k + (if _ then _ else _) = _
          rw [if_pos c17]
        refine w_iload hZ 21 22 rfl rfl rfl ?_
        refine w_aload hZ 22 23 rfl rfl rfl ?_
        refine k_X5_fewestOfWord hZ 23 24 rfl rfl (Nat.le_of_ble_eq_true rfl) ⟨by rw [hb20]; exact hv, hen⟩ (fun M23 p23 => ?_)
        have hfe : fw (bX M20 1) (M20 10 5) (M20 10 7) (M20 10 8) (gM M20) (M20 10 7) = fwW V w k := by rw [hb20, e20, q1.1, q1.2.1, hg20]; rfl
        rw [hfe]
        refine w_add hZ 24 25 rfl rfl (by unfold InR; omega) ?_
        refine w_st3_1 hZ 25 26 rfl rfl rfl ?_
        refine step M23 _ ?_ (fun o o1 o2 o3 => ?_) (by omega)
        · rw [p23 10 (by omega)]; exact e20
        · rw [p23 o o3, q1.2.2.2 o o1 o2, hN o o1 o2 o3]
  refine w_aload hZ 0 1 rfl rfl rfl ?_
  refine w_geti hZ 1 2 rfl rfl rfl rfl rfl ?_
  refine w_aload hZ 2 3 rfl rfl rfl ?_
  refine w_geti hZ 3 4 rfl rfl rfl rfl rfl ?_
  refine w_sub hZ 4 5 rfl rfl (by unfold InR; omega) ?_
  rw [hT]
  refine w_st3_1 hZ 5 6 rfl rfl rfl ?_
  refine w_const hZ 6 7 rfl rfl  ?_
  refine w_st3_2 hZ 7 8 rfl rfl rfl ?_
  have e := loop n.toNat 0 M (by omega) hw (fun _ _ _ _ => rfl)
  have z : t0 + fwT V w 0 = t0 := by show t0 + 0 = t0; omega
  rw [z] at e
  exact e
set_option maxRecDepth 100000 in
set_option maxHeartbeats 4000000 in
theorem ao_X5_fewest : AllOk yX5_fewest.cls cX5_fewest 3 4 85 (some .int) none pc_X5_fewest 0 cd_X5_fewest := ⟨s_aload_n (k := 0) (by decide +kernel) rfl rfl, ⟨s_get (C := RX5) (T := TX5) (N := 12) rfl inT5 (by decide) tw_1_96 (by decide +kernel) rfl, ⟨s_aload_n (k := 0) (by decide +kernel) rfl rfl, ⟨s_get (C := RX5) (T := TX5) (N := 12) rfl inT5 (by decide) tw_1_98 (by decide +kernel) rfl, ⟨s_sub (by decide +kernel) rfl, ⟨s_istore_n (k := 1) (by decide +kernel) rfl rfl, ⟨s_iconst (by decide +kernel) rfl ⟨by decide, by decide⟩, ⟨s_istore_n (k := 2) (by decide +kernel) rfl rfl, ⟨s_iload_n (k := 2) (by decide +kernel) rfl rfl, ⟨s_aload_n (k := 0) (by decide +kernel) rfl rfl, ⟨s_get (C := RX5) (T := TX5) (N := 12) rfl inT5 (by decide) tw_1_95 (by decide +kernel) rfl, ⟨s_get (C := RX0) (T := TX0) (N := 8) rfl inT0 (by decide) tw_1_39 (by decide +kernel) rfl, ⟨s_cge (off := (32)) (by decide +kernel) rfl rfl, ⟨s_aload_n (k := 0) (by decide +kernel) rfl rfl, ⟨s_get (C := RX5) (T := TX5) (N := 12) rfl inT5 (by decide) tw_1_95 (by decide +kernel) rfl, ⟨s_iload_n (k := 2) (by decide +kernel) rfl rfl, ⟨s_callV (C := RX0) (T := TX0) (N := 8) rfl ct_X0_wordBeginsAt (by decide) (by decide) ⟨rfl, by decide +kernel, by decide +kernel, by decide +kernel⟩ tw_2_143 tw_2_126 tw_2_127 tw_1_2 tw_2_128 (by decide +kernel) rfl, ⟨s_ifeq (off := (15)) (by decide +kernel) rfl rfl, ⟨s_aload_n (k := 0) (by decide +kernel) rfl rfl, ⟨s_iload_n (k := 2) (by decide +kernel) rfl rfl, ⟨s_callV (C := RX5) (T := TX5) (N := 12) rfl ct_X5_enterWord (by decide) (by decide) ⟨rfl, by decide +kernel, by decide +kernel, by decide +kernel⟩ tw_2_144 tw_2_146 ts_1_4 tw_1_4 tw_2_147 (by decide +kernel) rfl, ⟨s_iload_n (k := 1) (by decide +kernel) rfl rfl, ⟨s_aload_n (k := 0) (by decide +kernel) rfl rfl, ⟨s_callV (C := RX5) (T := TX5) (N := 12) rfl ct_X5_fewestOfWord (by decide) (by decide) ⟨rfl, by decide +kernel, by decide +kernel, by decide +kernel⟩ tw_2_213 tw_2_215 ts_1_14 tw_1_4 tw_2_216 (by decide +kernel) rfl, ⟨s_add (by decide +kernel) rfl, ⟨s_istore_n (k := 1) (by decide +kernel) rfl rfl, ⟨s_iinc (by decide +kernel) rfl, ⟨s_goto (off := (-37)) (by decide +kernel) rfl, ⟨s_iload_n (k := 1) (by decide +kernel) rfl rfl, ⟨s_iret rfl (by decide +kernel), trivial⟩⟩⟩⟩⟩⟩⟩⟩⟩⟩⟩⟩⟩⟩⟩⟩⟩⟩⟩⟩⟩⟩⟩⟩⟩⟩⟩⟩⟩⟩
theorem ct_X5_fewest : Ctr yX5_fewest cX5_fewest 3 (some .int) 4 85 sp_X5_fewest := by
  refine ctr_of (by decide +kernel) ao_X5_fewest rfl ?_
  rintro av M Ret ⟨rfl, hp, hR⟩ hok hM
  exact ⟨Nat.le_of_ble_eq_true rfl, fun Z hZ => b_X5_fewest   M Ret hp hR hM Z hZ⟩
