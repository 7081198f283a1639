/-! THE REFERENCE: its book -/
section KROWS
variable {code : List Sem} {Z : KZ} {Ret : KR} {ls : List (Option MV)} {M : Mem} {r : List MV}
theorem w_ialdk (hZ : Sim code Z Ret) (ip np k : Nat) {o n : Nat} {i : Int} (hc : code[ip]? = some I_iald) (hn : ip + 1 = np) (h1 : shp[o]? = some (.inr (.inl (0, n)))) (h2 : i = (k : Int)) (h3 : k < n) (kz : Z np ls (mi (M o k) :: r) M) : Z ip ls (mi i :: mr o :: r) M := by
  subst h2
  exact w_iald hZ ip np hc hn h1 (by omega) (by omega) kz
theorem w_iastk (hZ : Sim code Z Ret) (ip np k : Nat) {o n : Nat} {i z : Int} (hc : code[ip]? = some I_iast) (hn : ip + 1 = np) (h1 : shp[o]? = some (.inr (.inl (0, n)))) (h2 : i = (k : Int)) (h3 : k < n) (kz : Z np ls r (mup M o k z)) : Z ip ls (mi z :: mi i :: mr o :: r) M := by
  subst h2
  exact w_iast hZ ip np hc hn h1 (by omega) (by omega) kz
end KROWS
abbrev By (M : Mem) : Prop := 0 ≤ M 74 0 ∧ M 74 0 ≤ 12 ∧ 0 ≤ M 74 39 ∧ M 74 39 ≤ 120
theorem vOk.yb {M : Mem} (h : vOk (YV M)) : By M := ⟨h.2.2.1, h.2.2.2.1, h.1, h.2.1⟩
theorem YR.vo {s : St} {M : Mem} (h : YR s M) (hv : stOk s) : vOk (YV M) := by rw [h.1]; exact hv.1
theorem YR.yb {s : St} {M : Mem} (h : YR s M) (hv : stOk s) : By M := (h.vo hv).yb
theorem YR.r0 {s : St} {M : Mem} (h : YR s M) : M 74 0 = vR (sB s) := (Y_r h.1).1
theorem YR.r37 {s : St} {M : Mem} (h : YR s M) : M 74 37 = vW (sB s) := (Y_r h.1).2.1
theorem YR.r38 {s : St} {M : Mem} (h : YR s M) : M 74 38 = vP (sB s) := (Y_r h.1).2.2.1
theorem YR.r39 {s : St} {M : Mem} (h : YR s M) : M 74 39 = vN (sB s) := (Y_r h.1).2.2.2
theorem YR.same {s : St} {M M2 : Mem} (h : YR s M) (e : ∀ k, (74 ≤ k ∧ k ≤ 77) ∨ k = 82 → M2 k = M k) (e2 : M2 73 2 = M 73 2) (e3 : M2 73 16 = M 73 16) : YR s M2 := by
  unfold YR YV
  rw [e 74 (by omega), e 75 (by omega), e 76 (by omega), e 77 (by omega), e 82 (by omega), e2, e3]
  exact h
theorem YR.book {s : St} {M M2 : Mem} (h : YR s M) (e : ∀ k, ¬ k = 74 → M2 k = M k) {V : BV} (hV : YV M2 = V) : YR (V, sH s, sI s, sC s, sL s) M2 := by
  obtain ⟨a1, a2, a3, a4, a5, a6⟩ := h
  refine ⟨hV, by rw [e 73 (by omega)]; exact a2, fun j hj => ?_, by rw [e 76 (by omega), e 77 (by omega)]; exact a4, by rw [e 73 (by omega)]; exact a5, by rw [e 82 (by omega)]; exact a6⟩
  show bY (M2 75) (160 * ((sH s).length - 1 - j)) = (sH s).getD j V
  rw [e 75 (by omega), a3 j hj, gD_in _ _ hj, gD_in _ _ hj]
/-- note() -/
def ntB (M M2 : Mem) : Prop := M2 73 2 = (if M 73 2 = 8 then 7 else M 73 2) + 1 ∧ (∀ f, ¬ f = 2 → M2 73 f = M 73 f) ∧ (∀ o, ¬ o = 73 → ¬ o = 75 → M2 o = M o) ∧ (∀ j : Nat, j < 160 → M2 75 (160 * (if M 73 2 = 8 then 7 else M 73 2).toNat + j) = M 74 j) ∧
  (∀ j : Nat, (j : Int) < 160 * (if M 73 2 = 8 then 7 else M 73 2) → M2 75 j = M 75 (j + if M 73 2 = 8 then 160 else 0))
theorem vOk.ylim {f : Nat → Int} {o : Nat} (h : vOk (bY f o)) : f o ≤ 12 ∧ f (o + 39) ≤ 120 := ⟨h.2.2.2.1, h.2.1⟩
theorem YR.note {s : St} {M M2 : Mem} (h : YR s M) (hv : stOk s) (hn : ntB M M2) : YR (nx s (sB s)) M2 := by
  obtain ⟨a1, a2, a3, a4, a5, a6⟩ := h
  obtain ⟨b1, b2, b3, b4, b5⟩ := hn
  have h8 := hv.2.1
  have hlen : ((sB s :: sH s).take 8).length = if (sH s).length = 8 then 8 else (sH s).length + 1 := by
    rw [List.length_take, List.length_cons]; split <;> omega
  have hu : (if M 73 2 = 8 then (7 : Int) else M 73 2) = if (sH s).length = 8 then 7 else ((sH s).length : Int) := by
    rw [a2]
    by_cases q : (sH s).length = 8
    · rw [if_pos (by omega), if_pos q]
    · rw [if_neg (by omega), if_neg q]
  rw [hu] at b1 b4 b5
  have e74 := b3 74 (by omega) (by omega)
  have hV : YV M2 = sB s := by unfold YV; rw [e74]; exact a1
  refine ⟨hV, ?_, fun j hj => ?_, by rw [b3 76 (by omega) (by omega), b3 77 (by omega) (by omega)]; exact a4, by rw [b2 16 (by omega)]; exact a5, by rw [b3 82 (by omega) (by omega)]; exact a6⟩
  · rw [b1]; show _ = (((sB s :: sH s).take 8).length : Int); rw [hlen]; split <;> omega
  · replace hj : j < ((sB s :: sH s).take 8).length := hj
    show bY (M2 75) (160 * (((sB s :: sH s).take 8).length - 1 - j)) = ((sB s :: sH s).take 8).getD j (sB s)
    have hj' := hj
    rw [hlen] at hj'
    rw [show 160 * (((sB s :: sH s).take 8).length - 1 - j) = 160 * ((if (sH s).length = 8 then 8 else (sH s).length + 1) - 1 - j) by rw [hlen], gD_in _ _ hj, List.getElem_take]
    have hvo : vOk (YV M) := by rw [a1]; exact hv.1
    have hvo := hvo.ylim
    cases j with
    | zero =>
      show _ = sB s
      rw [← a1]
      refine (bY_congr (fun q hq => ?_) hvo.1 hvo.2).symm
      rw [Nat.zero_add, ← b4 q hq]
      congr 2
      split <;> omega
    | succ i =>
      have hi : i < (sH s).length := by split at hj' <;> omega
      show _ = (sH s)[i]
      have e3 := a3 i hi
      rw [gD_in _ _ hi] at e3
      rw [← e3]
      have hvi : vOk (bY (M 75) (160 * ((sH s).length - 1 - i))) := by rw [e3]; exact hv.2.2.1 _ (List.getElem_mem _)
      have hvi := hvi.ylim
      refine (bY_congr (fun q hq => ?_) hvi.1 hvi.2).symm
      by_cases z : (sH s).length = 8
      · have e1 : (if (sH s).length = 8 then 8 else (sH s).length + 1) = 8 := if_pos z
        rw [e1, b5 _ (by rw [if_pos z]; omega), if_pos (by omega)]
        congr 1; omega
      · have e1 : (if (sH s).length = 8 then 8 else (sH s).length + 1) = (sH s).length + 1 := if_neg z
        rw [e1, b5 _ (by rw [if_neg z]; omega), if_neg (by omega)]
        congr 1; omega
theorem YR.nx {s : St} {M N M2 : Mem} (h : YR s M) (hv : stOk s) (hn : ntB M N) (e : ∀ k, ¬ k = 74 → M2 k = N k) {V : BV} (hV : YV M2 = V) : YR (nx s V) M2 ∧ ∀ k, k < 73 → M2 k = M k :=
  ⟨(h.note hv hn).book e hV, fun k hk => by rw [e k (by omega), hn.2.2.1 k (by omega) (by omega)]⟩
theorem cut_a {f f2 : Nat → Int} {n v : Int} (h0 : 0 ≤ n) (h : ∀ j : Nat, (j : Int) < n + 1 → f2 j = if j = n.toNat then v else f j) : cut (n + 1) f2 = fun j => if j = n.toNat then v else cut n f j := by
  funext j
  unfold cut
  by_cases q : j = n.toNat
  · rw [if_pos q, if_pos (by omega), h j (by omega), if_pos q]
  · rw [if_neg q]
    by_cases p : (j : Int) < n
    · rw [if_pos p, if_pos (by omega), h j (by omega), if_neg q]
    · rw [if_neg p, if_neg (by omega)]
theorem bY_eq {f h : Nat → Int} {V : BV} (e1 : h 39 = vN V) (e2 : sgn (h 39) (fun j => h (0 + 40 + j)) = vS V) (e3 : h 0 = vR V) (e4 : cut (h 0) (fun j => h (0 + 1 + j)) = vC' V) (e5 : cut (h 0) (fun j => h (0 + 13 + j)) = vE V) (e6 : cut (h 0) (fun j => h (0 + 25 + j)) = vK V) (e7 : h 37 = vW V) (e8 : h 38 = vP V) : bY h 0 = V := by
  show ((h 39, sgn (h 39) (fun j => h (0 + 40 + j)), h 0, cut (h 0) (fun j => h (0 + 1 + j)), cut (h 0) (fun j => h (0 + 13 + j)), cut (h 0) (fun j => h (0 + 25 + j)), h 37, h 38) : BV) = _
  rw [e2, e4, e5, e6, e1, e3, e7, e8]
theorem bY_a {f h : Nat → Int} {c e k : Int} (h0 : 0 ≤ f 0) (h1 : f 0 < 12) (hh : ∀ j : Nat, h j = if j = 0 then f 0 + 1 else if j = (25 + f 0).toNat then k else if j = (13 + f 0).toNat then e else if j = (1 + f 0).toNat then c else f j) : bY h 0 = aR (bY f 0) c e k := by
  have e0 : h 0 = f 0 + 1 := by rw [hh, if_pos rfl]
  have eo : ∀ j : Nat, 37 ≤ j → h j = f j := fun j hj => by rw [hh, if_neg (by omega), if_neg (by omega), if_neg (by omega), if_neg (by omega)]
  refine bY_eq (f := f) (eo 39 (by omega)) ?_ e0 ?_ ?_ ?_ (eo 37 (by omega)) (eo 38 (by omega))
  · rw [eo 39 (by omega)]
    show sgn (f 39) _ = sgn (f 39) (fun j => f (0 + 40 + j))
    exact sgn_congr fun i hi => eo _ (by omega)
  · rw [e0]
    refine cut_a h0 fun j hj => ?_
    rw [hh, if_neg (by omega), if_neg (by omega), if_neg (by omega)]
    by_cases q : j = (f 0).toNat
    · rw [if_pos (by omega), if_pos q]
    · rw [if_neg (by omega), if_neg q]
  · rw [e0]
    refine cut_a h0 fun j hj => ?_
    rw [hh, if_neg (by omega), if_neg (by omega)]
    by_cases q : j = (f 0).toNat
    · rw [if_pos (by omega), if_pos q]
    · rw [if_neg (by omega), if_neg (by omega), if_neg q]
  · rw [e0]
    refine cut_a h0 fun j hj => ?_
    rw [hh, if_neg (by omega)]
    by_cases q : j = (f 0).toNat
    · rw [if_pos (by omega), if_pos q]
    · rw [if_neg (by omega), if_neg (by omega), if_neg (by omega), if_neg q]
theorem bY_s {f h : Nat → Int} {g : Int} (hr : f 0 ≤ 12) (h0 : 0 ≤ f 39) (h1 : f 39 < 120) (hh : ∀ j : Nat, h j = if j = 39 then f 39 + 1 else if j = (40 + f 39).toNat then g else f j) : bY h 0 = aS (bY f 0) g := by
  have eo : ∀ j : Nat, j < 39 → h j = f j := fun j hj => by rw [hh, if_neg (by omega), if_neg (by omega)]
  have e39 : h 39 = f 39 + 1 := by rw [hh, if_pos rfl]
  refine bY_eq (f := f) e39 ?_ (eo 0 (by omega)) ?_ ?_ ?_ (eo 37 (by omega)) (eo 38 (by omega))
  · rw [e39]
    funext i
    show _ = if i = f 39 then g else sgn (f 39) (fun j => f (0 + 40 + j)) i
    unfold sgn
    by_cases q : i = f 39
    · rw [if_pos q, if_pos (by omega)]; show h _ = _; rw [hh, if_neg (by omega), if_pos (by omega)]
    · rw [if_neg q]
      by_cases p : 0 ≤ i ∧ i < f 39
      · rw [if_pos p, if_pos (by omega)]; show h _ = _; rw [hh, if_neg (by omega), if_neg (by omega)]
      · rw [if_neg p, if_neg (by omega)]
  all_goals (rw [eo 0 (by omega)]; exact cut_congr fun i hi => eo _ (by omega))
theorem bY_p {f h : Nat → Int} {v : Int} (h0 : f 0 ≤ 12) (hh : ∀ j : Nat, h j = if j = 38 then v else f j) : bY h 0 = sP (bY f 0) v := by
  have eo : ∀ j : Nat, ¬ j = 38 → h j = f j := fun j hj => by rw [hh, if_neg hj]
  refine bY_eq (f := f) (eo 39 (by omega)) ?_ (eo 0 (by omega)) ?_ ?_ ?_ (eo 37 (by omega)) (by rw [hh, if_pos rfl]; rfl)
  · rw [eo 39 (by omega)]; exact sgn_congr fun i hi => eo _ (by omega)
  all_goals (rw [eo 0 (by omega)]; exact cut_congr fun i hi => eo _ (by omega))
theorem bY_w {f h : Nat → Int} {v : Int} (h0 : f 0 ≤ 12) (hh : ∀ j : Nat, h j = if j = 37 then v else f j) : bY h 0 = sW (bY f 0) v := by
  have eo : ∀ j : Nat, ¬ j = 37 → h j = f j := fun j hj => by rw [hh, if_neg hj]
  refine bY_eq (f := f) (eo 39 (by omega)) ?_ (eo 0 (by omega)) ?_ ?_ ?_ (by rw [hh, if_pos rfl]; rfl) (eo 38 (by omega))
  · rw [eo 39 (by omega)]; exact sgn_congr fun i hi => eo _ (by omega)
  all_goals (rw [eo 0 (by omega)]; exact cut_congr fun i hi => eo _ (by omega))
theorem bY_0 {f h : Nat → Int} (h0 : f 0 ≤ 12) (hz : h 39 = 0) (eo : ∀ j : Nat, j < 39 → h j = f j) : bY h 0 = wp (bY f 0) := by
  refine bY_eq (f := f) hz ?_ (eo 0 (by omega)) ?_ ?_ ?_ (eo 37 (by omega)) (eo 38 (by omega))
  · rw [hz]; funext i; exact if_neg (by omega)
  all_goals (rw [eo 0 (by omega)]; exact cut_congr fun i hi => eo _ (by omega))
theorem bY_d {f h : Nat → Int} {k : Int} (h0 : f 0 ≤ 12) (e0 : h 0 = f 0 - 1) (eo : ∀ j : Nat, 37 ≤ j → h j = f j) (hf : ∀ o : Nat, o = 1 ∨ o = 13 ∨ o = 25 → ∀ j : Nat, (j : Int) < f 0 - 1 → h (o + j) = if k ≤ (j : Int) then f (o + j + 1) else f (o + j)) : bY h 0 = dR (bY f 0) k := by
  have g : ∀ o : Nat, o = 1 ∨ o = 13 ∨ o = 25 → cut (h 0) (fun j => h (0 + o + j)) = shf (cut (f 0) (fun j => f (0 + o + j))) k (f 0) := by
    intro o ho
    rw [e0]
    unfold shf
    refine cut_congr fun i hi => ?_
    rw [Nat.zero_add, hf o ho i hi]
    by_cases q : k ≤ (i : Int)
    · rw [if_pos q, if_pos q, cut_in (by omega)]; rfl
    · rw [if_neg q, if_neg q, cut_in (by omega)]
  refine bY_eq (f := f) (eo 39 (by omega)) ?_ e0 (g 1 (by omega)) (g 13 (by omega)) (g 25 (by omega)) (eo 37 (by omega)) (eo 38 (by omega))
  rw [eo 39 (by omega)]; exact sgn_congr fun i hi => eo _ (by omega)
theorem tkn_iff {V : BV} (h : 0 ≤ vR V) (c e : Int) : tkn V c e ↔ ∃ j : Int, 0 ≤ j ∧ j < vR V ∧ (vC' V j.toNat = c ∨ vE V j.toNat = e) := by
  constructor
  · rintro (q | q)
    · obtain ⟨z1, z2, z3⟩ := fIx_yes h q
      exact ⟨_, z1, z2, Or.inl z3⟩
    · obtain ⟨z1, z2, z3⟩ := fIx_yes h q
      exact ⟨_, z1, z2, Or.inr z3⟩
  · rintro ⟨j, j0, j1, q | q⟩
    · exact Or.inl fun z => fIx_no h z j.toNat (by omega) q
    · exact Or.inr fun z => fIx_no h z j.toNat (by omega) q
def sp_X7_isRule : SP := fun av M Ret => ∃ k : Int, av = [mr 73, mi k] ∧ (By M) ∧ (Ret (some (mi (b2i (0 ≤ k ∧ k ≤ M 74 0 - 1)))) M)
theorem k_X7_isRule {code : List Sem} {Z : KZ} {Ret : KR} {ls : List (Option MV)} {M : Mem} {r : List MV} (hZ : Sim code Z Ret) (ip np : Nat) {k : Int} (hc : code[ip]? = some (I_callV 7 1 sp_X7_isRule)) (hn : ip + 1 = np) (h3 : catS r ≤ 8)  (hp : By M) (kz : Z np ls (mi (b2i (0 ≤ k ∧ k ≤ M 74 0 - 1)) :: r) M) : Z ip ls (mi k :: mr 73 :: r) M := w_callV1 hZ ip np hc hn rfl rfl h3 ⟨_, rfl, hp, kz⟩
def cd_X7_isRule : List Sem := [I_iload 1, I_i2l, I_lconst (0), I_aload 0, I_get 7 0, I_const (0), I_iald, I_const (1), I_sub, I_i2l, I_callS 3 sp_X7_in, I_zret]
def pc_X7_isRule : List Nat := [0, 1, 2, 3, 4, 7, 8, 9, 10, 11, 12, 15]
set_option maxRecDepth 100000 in
set_option maxHeartbeats 4000000 in
theorem b_X7_isRule (k : Int) (i_k : InR k) (M : Mem) (Ret : KR) (hp : By M) (hR : Ret (some (mi (b2i (0 ≤ k ∧ k ≤ M 74 0 - 1)))) M) (hM : MOk M) (Z : KZ) (hZ : Sim cd_X7_isRule Z Ret) : Z 0 [some (mr 73), some (mi k)] [] M := by
  obtain ⟨b1, b2, b3, b4⟩ := hp
  refine w_iload hZ 0 1 rfl rfl rfl ?_
  refine w_i2l hZ 1 2 rfl rfl  ?_
  refine w_lconst hZ 2 3 rfl rfl  ?_
  refine w_aload hZ 3 4 rfl rfl rfl ?_
  refine w_getr hZ 4 5 rfl rfl rfl rfl rfl ?_
  refine w_const hZ 5 6 rfl rfl  ?_
  refine w_ialdk hZ 6 7 0 rfl rfl rfl rfl (by decide) ?_
  refine w_const hZ 7 8 rfl rfl  ?_
  refine w_sub hZ 8 9 rfl rfl (by unfold InR; omega) ?_
  refine w_i2l hZ 9 10 rfl rfl  ?_
  refine k_X7_in hZ 10 11 rfl rfl (Nat.le_of_ble_eq_true rfl)  ?_
  refine w_zret hZ 11 rfl (b2i_01 _) ?_
  exact hR
set_option maxRecDepth 100000 in
set_option maxHeartbeats 4000000 in
theorem ao_X7_isRule : AllOk yX7_isRule.cls cX7_isRule 2 1 25 (some .boolean) none pc_X7_isRule 0 cd_X7_isRule := ⟨s_iload_n (k := 1) (by decide +kernel) rfl rfl, ⟨s_i2l (by decide +kernel) rfl, ⟨s_lconst (k := 0) (by decide +kernel) rfl ⟨by decide, by decide⟩ (by decide +kernel), ⟨s_aload_n (k := 0) (by decide +kernel) rfl rfl, ⟨s_get (C := RX7) (T := TX7) (N := 22) rfl inT7 (by decide) tw_3_159 (by decide +kernel) rfl, ⟨s_iconst (by decide +kernel) rfl ⟨by decide, by decide⟩, ⟨s_iald (by decide +kernel) rfl, ⟨s_iconst (by decide +kernel) rfl ⟨by decide, by decide⟩, ⟨s_sub (by decide +kernel) rfl, ⟨s_i2l (by decide +kernel) rfl, ⟨s_callS ct_X7_in (by decide) (by decide) ⟨by decide +kernel, by decide +kernel, by decide +kernel⟩ tw_3_234 tw_3_235 tw_1_8 tw_3_236 (by decide +kernel) rfl, ⟨s_zret rfl (by decide +kernel), trivial⟩⟩⟩⟩⟩⟩⟩⟩⟩⟩⟩⟩
theorem ct_X7_isRule : Ctr yX7_isRule cX7_isRule 2 (some .boolean) 1 25 sp_X7_isRule := by
  refine ctr_of (by decide +kernel) ao_X7_isRule rfl ?_
  rintro av M Ret ⟨k, rfl, hp, hR⟩ hok hM
  exact ⟨Nat.le_of_ble_eq_true rfl, fun Z hZ => b_X7_isRule  k (hok _ (List.mem_of_getElem? (i := 1) rfl)) M Ret hp hR hM Z hZ⟩
def sp_X7_isTaken : SP := fun av M Ret => ∃ c : Int, ∃ e : Int, av = [mr 73, mi c, mi e] ∧ (By M) ∧ (Ret (some (mi (b2i (tkn (YV M) c e)))) M)
theorem k_X7_isTaken {code : List Sem} {Z : KZ} {Ret : KR} {ls : List (Option MV)} {M : Mem} {r : List MV} (hZ : Sim code Z Ret) (ip np : Nat) {c e : Int} (hc : code[ip]? = some (I_callV 7 2 sp_X7_isTaken)) (hn : ip + 1 = np) (h3 : catS r ≤ 8)  (hp : By M) (kz : Z np ls (mi (b2i (tkn (YV M) c e)) :: r) M) : Z ip ls (mi e :: mi c :: mr 73 :: r) M := w_callV2 hZ ip np hc hn rfl rfl h3 ⟨_, _, rfl, hp, kz⟩
def cd_X7_isTaken : List Sem := [I_const (0), I_istore 3, I_const (0), I_istore 4, I_iload 4, I_aload 0, I_get 7 0, I_const (0), I_iald, I_cge 34, I_iload 3, I_ifne 28, I_aload 0, I_get 7 0, I_const (1), I_iload 4, I_add, I_iald, I_iload 1, I_ceq 28, I_aload 0, I_get 7 0, I_const (13), I_iload 4, I_add, I_iald, I_iload 2, I_cne 30, I_const (1), I_goto 31, I_const (0), I_istore 3, I_iinc 4 (1), I_goto 4, I_iload 3, I_zret]
def pc_X7_isTaken : List Nat := [0, 1, 2, 3, 5, 7, 8, 11, 12, 13, 16, 17, 20, 21, 24, 25, 27, 28, 29, 30, 33, 34, 37, 39, 41, 42, 43, 44, 47, 48, 51, 52, 53, 56, 59, 60]
set_option maxRecDepth 100000 in
set_option maxHeartbeats 4000000 in
theorem b_X7_isTaken (c : Int) (i_c : InR c) (e : Int) (i_e : InR e) (M : Mem) (Ret : KR) (hp : By M) (hR : Ret (some (mi (b2i (tkn (YV M) c e)))) M) (hM : MOk M) (Z : KZ) (hZ : Sim cd_X7_isTaken Z Ret) : Z 0 [some (mr 73), some (mi c), some (mi e), none, none] [] M := by
  obtain ⟨b1, b2, b3, b4⟩ := hp
  have hti : Hid (tkn (YV M) c e ↔ ∃ j : Int, 0 ≤ j ∧ j < vR (YV M) ∧ (vC' (YV M) j.toNat = c ∨ vE (YV M) j.toNat = e)) := tkn_iff (V := YV M) b1 c e
  have loop : ∀ (d : Nat) (is k : Int), d = (M 74 0 - k).toNat → 0 ≤ k → k ≤ M 74 0 → (is = 0 ∨ is = 1) → Hid (is = 1 ↔ ∃ j : Int, 0 ≤ j ∧ j < k ∧ (vC' (YV M) j.toNat = c ∨ vE (YV M) j.toNat = e)) → Z 4 [some (mr 73), some (mi c), some (mi e), some (mi is), some (mi k)] [] M := by
    intro d
    induction d using Nat.strongRecOn with
    | ind d ih =>
      intro is k hd h0 h1 his hI
      have step : k < M 74 0 → ∀ is2 : Int, (is2 = 0 ∨ is2 = 1) → (is2 = 1 ↔ (is = 1 ∨ vC' (YV M) k.toNat = c ∨ vE (YV M) k.toNat = e)) → Z 32 [some (mr 73), some (mi c), some (mi e), some (mi is2), some (mi k)] [] M := by
        intro hk is2 hi2 h2
        refine w_in5_4 hZ 32 33 rfl rfl rfl (by unfold InR; omega) ?_
        refine w_goto hZ 33 4 rfl ?_
        refine ih (M 74 0 - (k + 1)).toNat (by omega) is2 (k + 1) rfl (by omega) (by omega) hi2 ?_
        unfold Hid
        rw [h2, hI.u]
        constructor
        · rintro (⟨j, j0, j1, j2⟩ | q)
          · exact ⟨j, j0, by omega, j2⟩
          · exact ⟨k, h0, by omega, q⟩
        · rintro ⟨j, j0, j1, j2⟩
          by_cases q : j = k
          · rw [q] at j2; exact Or.inr j2
          · exact Or.inl ⟨j, j0, by omega, j2⟩
      refine w_iload hZ 4 5 rfl rfl rfl ?_
      refine w_aload hZ 5 6 rfl rfl rfl ?_
      refine w_getr hZ 6 7 rfl rfl rfl rfl rfl ?_
      refine w_const hZ 7 8 rfl rfl  ?_
      refine w_ialdk hZ 8 9 0 rfl rfl rfl rfl (by decide) ?_
      refine w_cge hZ 9 10 rfl rfl (fun c9 => ?_) (fun c9 => ?_)
      · refine w_iload hZ 34 35 rfl rfl rfl ?_
        refine w_zret hZ 35 rfl (by omega) ?_
        have hk : k = M 74 0 := by omega
        refine ret_i hR ?_
        unfold Hid at hI
        rw [hk] at hI
        by_cases q : is = 1
        · rw [q]; exact b2i_t (hti.u.mpr (hI.mp q))
        · rw [show is = 0 by omega]; exact b2i_f (fun z => q (hI.mpr (hti.u.mp z)))
      · refine w_iload hZ 10 11 rfl rfl rfl ?_
        refine w_ifne hZ 11 12 rfl rfl (fun c11 => ?_) (fun c11 => ?_)
        · refine w_const hZ 28 29 rfl rfl  ?_
          refine w_goto hZ 29 31 rfl ?_
          refine w_st5_3 hZ 31 32 rfl rfl rfl ?_
          first
            | exact step (by omega) _ (Or.inr rfl) ⟨fun _ => Or.inl (by omega), fun _ => rfl⟩
            | exact step (by omega) _ (Or.inr rfl) ⟨fun _ => Or.inr (Or.inl c19), fun _ => rfl⟩
            | exact step (by omega) _ (Or.inr rfl) ⟨fun _ => Or.inr (Or.inr c27), fun _ => rfl⟩
            | exact step (by omega) _ (Or.inl rfl) ⟨fun z => absurd z (by decide), fun z => z.elim (fun z => absurd z (by omega)) (fun z => z.elim (fun z => absurd z c19) (fun z => absurd z c27))⟩
        · refine w_aload hZ 12 13 rfl rfl rfl ?_
          refine w_getr hZ 13 14 rfl rfl rfl rfl rfl ?_
          refine w_const hZ 14 15 rfl rfl  ?_
          refine w_iload hZ 15 16 rfl rfl rfl ?_
          refine w_add hZ 16 17 rfl rfl (by unfold InR; omega) ?_
          refine w_ialdv hZ 17 18 rfl rfl rfl (by omega) (by omega) (v := vC' (YV M) k.toNat) (Y_c rfl h0 (by show k < M 74 0; omega)) ?_
          refine w_iload hZ 18 19 rfl rfl rfl ?_
          refine w_ceq hZ 19 20 rfl rfl (fun c19 => ?_) (fun c19 => ?_)
          · refine w_const hZ 28 29 rfl rfl  ?_
            refine w_goto hZ 29 31 rfl ?_
            refine w_st5_3 hZ 31 32 rfl rfl rfl ?_
            first
              | exact step (by omega) _ (Or.inr rfl) ⟨fun _ => Or.inl (by omega), fun _ => rfl⟩
              | exact step (by omega) _ (Or.inr rfl) ⟨fun _ => Or.inr (Or.inl c19), fun _ => rfl⟩
              | exact step (by omega) _ (Or.inr rfl) ⟨fun _ => Or.inr (Or.inr c27), fun _ => rfl⟩
              | exact step (by omega) _ (Or.inl rfl) ⟨fun z => absurd z (by decide), fun z => z.elim (fun z => absurd z (by omega)) (fun z => z.elim (fun z => absurd z c19) (fun z => absurd z c27))⟩
          · refine w_aload hZ 20 21 rfl rfl rfl ?_
            refine w_getr hZ 21 22 rfl rfl rfl rfl rfl ?_
            refine w_const hZ 22 23 rfl rfl  ?_
            refine w_iload hZ 23 24 rfl rfl rfl ?_
            refine w_add hZ 24 25 rfl rfl (by unfold InR; omega) ?_
            refine w_ialdv hZ 25 26 rfl rfl rfl (by omega) (by omega) (v := vE (YV M) k.toNat) (Y_e rfl h0 (by show k < M 74 0; omega)) ?_
            refine w_iload hZ 26 27 rfl rfl rfl ?_
            refine w_cne hZ 27 28 rfl rfl (fun c27 => ?_) (fun c27 => ?_)
            · refine w_const hZ 30 31 rfl rfl  ?_
              refine w_st5_3 hZ 31 32 rfl rfl rfl ?_
              first
                | exact step (by omega) _ (Or.inr rfl) ⟨fun _ => Or.inl (by omega), fun _ => rfl⟩
                | exact step (by omega) _ (Or.inr rfl) ⟨fun _ => Or.inr (Or.inl c19), fun _ => rfl⟩
                | exact step (by omega) _ (Or.inr rfl) ⟨fun _ => Or.inr (Or.inr c27), fun _ => rfl⟩
                | exact step (by omega) _ (Or.inl rfl) ⟨fun z => absurd z (by decide), fun z => z.elim (fun z => absurd z (by omega)) (fun z => z.elim (fun z => absurd z c19) (fun z => absurd z c27))⟩
            · refine w_const hZ 28 29 rfl rfl  ?_
              refine w_goto hZ 29 31 rfl ?_
              refine w_st5_3 hZ 31 32 rfl rfl rfl ?_
              first
                | exact step (by omega) _ (Or.inr rfl) ⟨fun _ => Or.inl (by omega), fun _ => rfl⟩
                | exact step (by omega) _ (Or.inr rfl) ⟨fun _ => Or.inr (Or.inl c19), fun _ => rfl⟩
                | exact step (by omega) _ (Or.inr rfl) ⟨fun _ => Or.inr (Or.inr c27), fun _ => rfl⟩
                | exact step (by omega) _ (Or.inl rfl) ⟨fun z => absurd z (by decide), fun z => z.elim (fun z => absurd z (by omega)) (fun z => z.elim (fun z => absurd z c19) (fun z => absurd z c27))⟩
  refine w_const hZ 0 1 rfl rfl  ?_
  refine w_st5_3 hZ 1 2 rfl rfl rfl ?_
  refine w_const hZ 2 3 rfl rfl  ?_
  refine w_st5_4 hZ 3 4 rfl rfl rfl ?_
  exact loop _ 0 0 rfl (Int.le_refl _) b1 (Or.inl rfl) ⟨fun z => absurd z (by decide), fun ⟨j, j0, j1, _⟩ => absurd j1 (by omega)⟩
set_option maxRecDepth 100000 in
set_option maxHeartbeats 4000000 in
theorem ao_X7_isTaken : AllOk yX7_isTaken.cls cX7_isTaken 5 0 0 (some .boolean) none pc_X7_isTaken 0 cd_X7_isTaken := ⟨s_iconst (by decide +kernel) rfl ⟨by decide, by decide⟩, ⟨s_istore_n (k := 3) (by decide +kernel) rfl rfl, ⟨s_iconst (by decide +kernel) rfl ⟨by decide, by decide⟩, ⟨s_istore (by decide +kernel) rfl, ⟨s_iload (by decide +kernel) rfl, ⟨s_aload_n (k := 0) (by decide +kernel) rfl rfl, ⟨s_get (C := RX7) (T := TX7) (N := 22) rfl inT7 (by decide) tw_3_159 (by decide +kernel) rfl, ⟨s_iconst (by decide +kernel) rfl ⟨by decide, by decide⟩, ⟨s_iald (by decide +kernel) rfl, ⟨s_cge (off := (46)) (by decide +kernel) rfl rfl, ⟨s_iload_n (k := 3) (by decide +kernel) rfl rfl, ⟨s_ifne (off := (30)) (by decide +kernel) rfl rfl, ⟨s_aload_n (k := 0) (by decide +kernel) rfl rfl, ⟨s_get (C := RX7) (T := TX7) (N := 22) rfl inT7 (by decide) tw_3_159 (by decide +kernel) rfl, ⟨s_iconst (by decide +kernel) rfl ⟨by decide, by decide⟩, ⟨s_iload (by decide +kernel) rfl, ⟨s_add (by decide +kernel) rfl, ⟨s_iald (by decide +kernel) rfl, ⟨s_iload_n (k := 1) (by decide +kernel) rfl rfl, ⟨s_ceq (off := (17)) (by decide +kernel) rfl rfl, ⟨s_aload_n (k := 0) (by decide +kernel) rfl rfl, ⟨s_get (C := RX7) (T := TX7) (N := 22) rfl inT7 (by decide) tw_3_159 (by decide +kernel) rfl, ⟨s_bipush (by decide +kernel) rfl ⟨by decide, by decide⟩ (by decide +kernel), ⟨s_iload (by decide +kernel) rfl, ⟨s_add (by decide +kernel) rfl, ⟨s_iald (by decide +kernel) rfl, ⟨s_iload_n (k := 2) (by decide +kernel) rfl rfl, ⟨s_cne (off := (7)) (by decide +kernel) rfl rfl, ⟨s_iconst (by decide +kernel) rfl ⟨by decide, by decide⟩, ⟨s_goto (off := (4)) (by decide +kernel) rfl, ⟨s_iconst (by decide +kernel) rfl ⟨by decide, by decide⟩, ⟨s_istore_n (k := 3) (by decide +kernel) rfl rfl, ⟨s_iinc (by decide +kernel) rfl, ⟨s_goto (off := (-51)) (by decide +kernel) rfl, ⟨s_iload_n (k := 3) (by decide +kernel) rfl rfl, ⟨s_zret rfl (by decide +kernel), trivial⟩⟩⟩⟩⟩⟩⟩⟩⟩⟩⟩⟩⟩⟩⟩⟩⟩⟩⟩⟩⟩⟩⟩⟩⟩⟩⟩⟩⟩⟩⟩⟩⟩⟩⟩⟩
theorem ct_X7_isTaken : Ctr yX7_isTaken cX7_isTaken 5 (some .boolean) 0 0 sp_X7_isTaken := by
  refine ctr_of (by decide +kernel) ao_X7_isTaken rfl ?_
  rintro av M Ret ⟨c, e, rfl, hp, hR⟩ hok hM
  exact ⟨Nat.le_of_ble_eq_true rfl, fun Z hZ => b_X7_isTaken  c (hok _ (List.mem_of_getElem? (i := 1) rfl)) e (hok _ (List.mem_of_getElem? (i := 2) rfl)) M Ret hp hR hM Z hZ⟩
def sp_X7_note : SP := fun av M Ret => av = [mr 73] ∧ (0 ≤ M 73 2 ∧ M 73 2 ≤ 8) ∧ (∀ M2 : Mem, (ntB M M2) → Ret none M2)
theorem k_X7_note {code : List Sem} {Z : KZ} {Ret : KR} {ls : List (Option MV)} {M : Mem} {r : List MV} (hZ : Sim code Z Ret) (ip np : Nat)  (hc : code[ip]? = some (I_callV 7 0 sp_X7_note)) (hn : ip + 1 = np) (h3 : catS r ≤ 8)  (hp : 0 ≤ M 73 2 ∧ M 73 2 ≤ 8) (kz : ∀ M2 : Mem, (ntB M M2) → Z np ls r M2) : Z ip ls (mr 73 :: r) M := w_callV0 hZ ip np hc hn rfl rfl h3 ⟨rfl, hp, fun M2 h => kz M2 h⟩
def cd_X7_note : List Sem := [I_aload 0, I_get 7 2, I_const (8), I_cne 27, I_const (0), I_istore 1, I_iload 1, I_const (1120), I_cge 21, I_aload 0, I_get 7 1, I_iload 1, I_aload 0, I_get 7 1, I_iload 1, I_const (160), I_add, I_iald, I_iast, I_iinc 1 (1), I_goto 6, I_aload 0, I_dup, I_get 7 2, I_const (1), I_sub, I_puti 7 2, I_const (0), I_istore 1, I_iload 1, I_const (160), I_cge 47, I_aload 0, I_get 7 1, I_const (160), I_aload 0, I_get 7 2, I_mul, I_iload 1, I_add, I_aload 0, I_get 7 0, I_iload 1, I_iald, I_iast, I_iinc 1 (1), I_goto 29, I_aload 0, I_dup, I_get 7 2, I_const (1), I_add, I_puti 7 2, I_vret]
def pc_X7_note : List Nat := [0, 1, 4, 6, 9, 10, 11, 12, 15, 18, 19, 22, 23, 24, 27, 28, 31, 32, 33, 34, 37, 40, 41, 42, 45, 46, 47, 50, 51, 52, 53, 56, 59, 60, 63, 66, 67, 70, 71, 72, 73, 74, 77, 78, 79, 80, 83, 86, 87, 88, 91, 92, 93, 96]
set_option maxRecDepth 100000 in
set_option maxHeartbeats 4000000 in
theorem b_X7_note  (M : Mem) (Ret : KR) (hp : 0 ≤ M 73 2 ∧ M 73 2 ≤ 8) (hR : ∀ M2 : Mem, (ntB M M2) → Ret none M2) (hM : MOk M) (Z : KZ) (hZ : Sim cd_X7_note Z Ret) : Z 0 [some (mr 73), none] [] M := by
  obtain ⟨u0, u8⟩ := hp
  have tail : ∀ (u : Int) (P : Mem), u = (if M 73 2 = 8 then 7 else M 73 2) → P 73 2 = u → (∀ o, ¬ o = 73 → ¬ o = 75 → P o = M o) → (∀ f, ¬ f = 2 → P 73 f = M 73 f) → Hid (∀ j : Nat, (j : Int) < 160 * u → P 75 j = M 75 (j + if M 73 2 = 8 then 160 else 0)) → Z 27 [some (mr 73), none] [] P := by
    intro u P hu e2 e1 ef e75
    have hu0 : 0 ≤ u ∧ u ≤ 7 := by rw [hu]; split <;> omega
    have hfin : ∀ N : Mem, N 73 2 = u + 1 → (∀ f, ¬ f = 2 → N 73 f = M 73 f) → (∀ o, ¬ o = 73 → ¬ o = 75 → N o = M o) → (∀ j : Nat, j < 160 → N 75 (160 * u.toNat + j) = M 74 j) → (∀ j : Nat, (j : Int) < 160 * u → N 75 j = P 75 j) → Ret none N := by
      intro N n1 n2 n3 n4 n5
      refine hR N ?_
      unfold ntB
      rw [← hu]
      exact ⟨n1, n2, n3, n4, fun j hj => by rw [n5 j hj]; exact e75.u j hj⟩
    clear hu e75
    have loop : ∀ (d : Nat) (k : Int) (N : Mem), d = (160 - k).toNat → 0 ≤ k → k ≤ 160 → (∀ o, ¬ o = 75 → N o = P o) → Hid (∀ j : Nat, (j : Int) < k → N 75 (160 * u.toNat + j) = M 74 j) → Hid (∀ j : Nat, (j : Int) < 160 * u → N 75 j = P 75 j) → Z 29 [some (mr 73), some (mi k)] [] N := by
      intro d
      induction d using Nat.strongRecOn with
      | ind d ih =>
        intro k N hd h0 h1 n1 n2 n3
        have m2 : N 73 2 = u := by rw [n1 73 (by omega)]; exact e2
        have m74 : N 74 = M 74 := by rw [n1 74 (by omega)]; exact e1 74 (by omega) (by omega)
        refine w_iload hZ 29 30 rfl rfl rfl ?_
        refine w_const hZ 30 31 rfl rfl  ?_
        refine w_cge hZ 31 32 rfl rfl (fun c31 => ?_) (fun c31 => ?_)
        · refine w_aload hZ 47 48 rfl rfl rfl ?_
          refine w_dup hZ 48 49 rfl rfl rfl ?_
          refine w_getiv hZ 49 50 rfl rfl rfl rfl rfl (v := u) m2 ?_
          refine w_const hZ 50 51 rfl rfl  ?_
          refine w_add hZ 51 52 rfl rfl (by unfold InR; omega) ?_
          refine w_puti hZ 52 53 rfl rfl rfl rfl rfl ?_
          refine w_vret hZ 53 rfl ?_
          refine hfin _ (by simp [mup_at]) (fun f hf => by rw [mup_at, if_neg (by omega), n1 73 (by omega)]; exact ef f hf) (fun o o1 o2 => ?_) (fun j hj => ?_) (fun j hj => ?_)
          · rw [← e1 o o1 o2, ← n1 o o2]; funext q; simp [mup_at, o1]
          · rw [mup_at, if_neg (by omega)]; exact n2.u j (by omega)
          · rw [mup_at, if_neg (by omega)]; exact n3.u j hj
        · refine w_aload hZ 32 33 rfl rfl rfl ?_
          refine w_getr hZ 33 34 rfl rfl rfl rfl rfl ?_
          refine w_const hZ 34 35 rfl rfl  ?_
          refine w_aload hZ 35 36 rfl rfl rfl ?_
          refine w_getiv hZ 36 37 rfl rfl rfl rfl rfl (v := u) m2 ?_
          refine w_mul hZ 37 38 rfl rfl (by unfold InR; omega) ?_
          refine w_iload hZ 38 39 rfl rfl rfl ?_
          refine w_add hZ 39 40 rfl rfl (by unfold InR; omega) ?_
          refine w_aload hZ 40 41 rfl rfl rfl ?_
          refine w_getr hZ 41 42 rfl rfl rfl rfl rfl ?_
          refine w_iload hZ 42 43 rfl rfl rfl ?_
          refine w_ialdv hZ 43 44 rfl rfl rfl (by omega) (by omega) (v := M 74 k.toNat) (by rw [m74]) ?_
          refine w_iast hZ 44 45 rfl rfl rfl (by omega) (by omega) ?_
          refine w_in2_1 hZ 45 46 rfl rfl rfl (by unfold InR; omega) ?_
          refine w_goto hZ 46 29 rfl ?_
          refine ih (160 - (k + 1)).toNat (by omega) (k + 1) _ rfl (by omega) (by omega) (fun o ho => ?_) (fun j hj => ?_) (fun j hj => ?_)
          · rw [← n1 o ho]; funext q; simp [mup_at, ho]
          · rw [mup_at]
            by_cases q : (j : Int) = k
            · rw [if_pos (by omega)]; congr 1; omega
            · rw [if_neg (by omega)]; exact n2.u j (by omega)
          · rw [mup_at, if_neg (by omega)]; exact n3.u j hj
    refine w_const hZ 27 28 rfl rfl  ?_
    refine w_st2_1 hZ 28 29 rfl rfl rfl ?_
    exact loop _ 0 P rfl (Int.le_refl _) (by omega) (fun _ _ => rfl) (fun j hj => absurd hj (by omega)) (fun _ _ => rfl)
  have loop1 : M 73 2 = 8 → ∀ (d : Nat) (k : Int) (N : Mem), d = (1120 - k).toNat → 0 ≤ k → k ≤ 1120 → (∀ o, ¬ o = 75 → N o = M o) → Hid (∀ j : Nat, (j : Int) < k → N 75 j = M 75 (j + 160)) → Hid (∀ j : Nat, k ≤ (j : Int) → N 75 j = M 75 j) → Z 6 [some (mr 73), some (mi k)] [] N := by
    intro hu8 d
    induction d using Nat.strongRecOn with
    | ind d ih =>
      intro k N hd h0 h1 n1 n2 n3
      have m2 : N 73 2 = 8 := by rw [n1 73 (by omega)]; exact hu8
      refine w_iload hZ 6 7 rfl rfl rfl ?_
      refine w_const hZ 7 8 rfl rfl  ?_
      refine w_cge hZ 8 9 rfl rfl (fun c8 => ?_) (fun c8 => ?_)
      · refine w_aload hZ 21 22 rfl rfl rfl ?_
        refine w_dup hZ 22 23 rfl rfl rfl ?_
        refine w_getiv hZ 23 24 rfl rfl rfl rfl rfl (v := 8) m2 ?_
        refine w_const hZ 24 25 rfl rfl  ?_
        refine w_sub hZ 25 26 rfl rfl (by unfold InR; omega) ?_
        refine w_puti hZ 26 27 rfl rfl rfl rfl rfl ?_
        refine w_fg2_1 hZ ?_
        refine tail 7 _ (by rw [if_pos hu8]) (by simp [mup_at]) (fun o o1 o2 => ?_) (fun f hf => ?_) (fun j hj => ?_)
        · rw [← n1 o o2]; funext q; simp [mup_at, o1]
        · rw [mup_at, if_neg (by omega), n1 73 (by omega)]
        · rw [mup_at, if_neg (by omega), if_pos hu8]; exact n2.u j (by omega)
      · refine w_aload hZ 9 10 rfl rfl rfl ?_
        refine w_getr hZ 10 11 rfl rfl rfl rfl rfl ?_
        refine w_iload hZ 11 12 rfl rfl rfl ?_
        refine w_aload hZ 12 13 rfl rfl rfl ?_
        refine w_getr hZ 13 14 rfl rfl rfl rfl rfl ?_
        refine w_iload hZ 14 15 rfl rfl rfl ?_
        refine w_const hZ 15 16 rfl rfl  ?_
        refine w_add hZ 16 17 rfl rfl (by unfold InR; omega) ?_
        refine w_ialdv hZ 17 18 rfl rfl rfl (by omega) (by omega) (v := M 75 (k.toNat + 160)) (by rw [show (k + 160).toNat = k.toNat + 160 by omega]; exact n3.u _ (by omega)) ?_
        refine w_iast hZ 18 19 rfl rfl rfl (by omega) (by omega) ?_
        refine w_in2_1 hZ 19 20 rfl rfl rfl (by unfold InR; omega) ?_
        refine w_goto hZ 20 6 rfl ?_
        refine ih (1120 - (k + 1)).toNat (by omega) (k + 1) _ rfl (by omega) (by omega) (fun o ho => ?_) (fun j hj => ?_) (fun j hj => ?_)
        · rw [← n1 o ho]; funext q; simp [mup_at, ho]
        · rw [mup_at]
          by_cases q : (j : Int) = k
          · rw [if_pos (by omega)]; congr 1; omega
          · rw [if_neg (by omega)]; exact n2.u j (by omega)
        · rw [mup_at, if_neg (by omega)]; exact n3.u j (by omega)
  refine w_aload hZ 0 1 rfl rfl rfl ?_
  refine w_geti hZ 1 2 rfl rfl rfl rfl rfl ?_
  refine w_const hZ 2 3 rfl rfl  ?_
  refine w_cne hZ 3 4 rfl rfl (fun c3 => ?_) (fun c3 => ?_)
  · exact tail (M 73 2) M (by rw [if_neg c3]) rfl (fun _ _ _ => rfl) (fun _ _ => rfl) (fun j _ => by rw [if_neg c3, Nat.add_zero])
  · refine w_const hZ 4 5 rfl rfl  ?_
    refine w_st2_1 hZ 5 6 rfl rfl rfl ?_
    exact loop1 (by omega) _ 0 M rfl (Int.le_refl _) (by omega) (fun _ _ => rfl) (fun j hj => absurd hj (by omega)) (fun _ _ => rfl)
set_option maxRecDepth 100000 in
set_option maxHeartbeats 4000000 in
theorem ao_X7_note : AllOk yX7_note.cls cX7_note 2 0 0 none none pc_X7_note 0 cd_X7_note := ⟨s_aload_n (k := 0) (by decide +kernel) rfl rfl, ⟨s_get (C := RX7) (T := TX7) (N := 22) rfl inT7 (by decide) tw_3_161 (by decide +kernel) rfl, ⟨s_bipush (by decide +kernel) rfl ⟨by decide, by decide⟩ (by decide +kernel), ⟨s_cne (off := (44)) (by decide +kernel) rfl rfl, ⟨s_iconst (by decide +kernel) rfl ⟨by decide, by decide⟩, ⟨s_istore_n (k := 1) (by decide +kernel) rfl rfl, ⟨s_iload_n (k := 1) (by decide +kernel) rfl rfl, ⟨s_sipush (by decide +kernel) rfl ⟨by decide, by decide⟩ (by decide +kernel), ⟨s_cge (off := (25)) (by decide +kernel) rfl rfl, ⟨s_aload_n (k := 0) (by decide +kernel) rfl rfl, ⟨s_get (C := RX7) (T := TX7) (N := 22) rfl inT7 (by decide) tw_3_160 (by decide +kernel) rfl, ⟨s_iload_n (k := 1) (by decide +kernel) rfl rfl, ⟨s_aload_n (k := 0) (by decide +kernel) rfl rfl, ⟨s_get (C := RX7) (T := TX7) (N := 22) rfl inT7 (by decide) tw_3_160 (by decide +kernel) rfl, ⟨s_iload_n (k := 1) (by decide +kernel) rfl rfl, ⟨s_sipush (by decide +kernel) rfl ⟨by decide, by decide⟩ (by decide +kernel), ⟨s_add (by decide +kernel) rfl, ⟨s_iald (by decide +kernel) rfl, ⟨s_iast (by decide +kernel) rfl, ⟨s_iinc (by decide +kernel) rfl, ⟨s_goto (off := (-26)) (by decide +kernel) rfl, ⟨s_aload_n (k := 0) (by decide +kernel) rfl rfl, ⟨s_dup (by decide +kernel) rfl, ⟨s_get (C := RX7) (T := TX7) (N := 22) rfl inT7 (by decide) tw_3_161 (by decide +kernel) rfl, ⟨s_iconst (by decide +kernel) rfl ⟨by decide, by decide⟩, ⟨s_sub (by decide +kernel) rfl, ⟨s_puti (C := RX7) (T := TX7) (N := 22) (tyf := tyX7) rfl inT7 tyX7_ok nmX7 (by decide) rfl rfl tw_3_161 (by decide +kernel) rfl, ⟨s_iconst (by decide +kernel) rfl ⟨by decide, by decide⟩, ⟨s_istore_n (k := 1) (by decide +kernel) rfl rfl, ⟨s_iload_n (k := 1) (by decide +kernel) rfl rfl, ⟨s_sipush (by decide +kernel) rfl ⟨by decide, by decide⟩ (by decide +kernel), ⟨s_cge (off := (30)) (by decide +kernel) rfl rfl, ⟨s_aload_n (k := 0) (by decide +kernel) rfl rfl, ⟨s_get (C := RX7) (T := TX7) (N := 22) rfl inT7 (by decide) tw_3_160 (by decide +kernel) rfl, ⟨s_sipush (by decide +kernel) rfl ⟨by decide, by decide⟩ (by decide +kernel), ⟨s_aload_n (k := 0) (by decide +kernel) rfl rfl, ⟨s_get (C := RX7) (T := TX7) (N := 22) rfl inT7 (by decide) tw_3_161 (by decide +kernel) rfl, ⟨s_mul (by decide +kernel) rfl, ⟨s_iload_n (k := 1) (by decide +kernel) rfl rfl, ⟨s_add (by decide +kernel) rfl, ⟨s_aload_n (k := 0) (by decide +kernel) rfl rfl, ⟨s_get (C := RX7) (T := TX7) (N := 22) rfl inT7 (by decide) tw_3_159 (by decide +kernel) rfl, ⟨s_iload_n (k := 1) (by decide +kernel) rfl rfl, ⟨s_iald (by decide +kernel) rfl, ⟨s_iast (by decide +kernel) rfl, ⟨s_iinc (by decide +kernel) rfl, ⟨s_goto (off := (-31)) (by decide +kernel) rfl, ⟨s_aload_n (k := 0) (by decide +kernel) rfl rfl, ⟨s_dup (by decide +kernel) rfl, ⟨s_get (C := RX7) (T := TX7) (N := 22) rfl inT7 (by decide) tw_3_161 (by decide +kernel) rfl, ⟨s_iconst (by decide +kernel) rfl ⟨by decide, by decide⟩, ⟨s_add (by decide +kernel) rfl, ⟨s_puti (C := RX7) (T := TX7) (N := 22) (tyf := tyX7) rfl inT7 tyX7_ok nmX7 (by decide) rfl rfl tw_3_161 (by decide +kernel) rfl, ⟨s_vret rfl (by decide +kernel), trivial⟩⟩⟩⟩⟩⟩⟩⟩⟩⟩⟩⟩⟩⟩⟩⟩⟩⟩⟩⟩⟩⟩⟩⟩⟩⟩⟩⟩⟩⟩⟩⟩⟩⟩⟩⟩⟩⟩⟩⟩⟩⟩⟩⟩⟩⟩⟩⟩⟩⟩⟩⟩⟩⟩
theorem ct_X7_note : Ctr yX7_note cX7_note 2 none 0 0 sp_X7_note := by
  refine ctr_of (by decide +kernel) ao_X7_note rfl ?_
  rintro av M Ret ⟨rfl, hp, hR⟩ hok hM
  exact ⟨Nat.le_of_ble_eq_true rfl, fun Z hZ => b_X7_note   M Ret hp hR hM Z hZ⟩
def sp_X7_addRule : SP := fun av M Ret => ∃ c : Int, ∃ e : Int, ∃ k : Int, av = [mr 73, mi c, mi e, mi k] ∧ (By M ∧ M 74 0 < 12) ∧ (∀ M2 : Mem, (YV M2 = aR (YV M) c e k ∧ ∀ o, ¬ o = 74 → M2 o = M o) → Ret none M2)
theorem k_X7_addRule {code : List Sem} {Z : KZ} {Ret : KR} {ls : List (Option MV)} {M : Mem} {r : List MV} (hZ : Sim code Z Ret) (ip np : Nat) {c e k : Int} (hc : code[ip]? = some (I_callV 7 3 sp_X7_addRule)) (hn : ip + 1 = np) (h3 : catS r ≤ 8)  (hp : By M ∧ M 74 0 < 12) (kz : ∀ M2 : Mem, (YV M2 = aR (YV M) c e k ∧ ∀ o, ¬ o = 74 → M2 o = M o) → Z np ls r M2) : Z ip ls (mi k :: mi e :: mi c :: mr 73 :: r) M := w_callV3 hZ ip np hc hn rfl rfl h3 ⟨_, _, _, rfl, hp, fun M2 h => kz M2 h⟩
def cd_X7_addRule : List Sem := [I_aload 0, I_get 7 0, I_const (0), I_iald, I_istore 4, I_aload 0, I_get 7 0, I_const (1), I_iload 4, I_add, I_iload 1, I_iast, I_aload 0, I_get 7 0, I_const (13), I_iload 4, I_add, I_iload 2, I_iast, I_aload 0, I_get 7 0, I_const (25), I_iload 4, I_add, I_iload 3, I_iast, I_aload 0, I_get 7 0, I_const (0), I_dup2, I_iald, I_const (1), I_add, I_iast, I_vret]
def pc_X7_addRule : List Nat := [0, 1, 4, 5, 6, 8, 9, 12, 13, 15, 16, 17, 18, 19, 22, 24, 26, 27, 28, 29, 30, 33, 35, 37, 38, 39, 40, 41, 44, 45, 46, 47, 48, 49, 50]
set_option maxRecDepth 100000 in
set_option maxHeartbeats 4000000 in
theorem b_X7_addRule (c : Int) (i_c : InR c) (e : Int) (i_e : InR e) (k : Int) (i_k : InR k) (M : Mem) (Ret : KR) (hp : By M ∧ M 74 0 < 12) (hR : ∀ M2 : Mem, (YV M2 = aR (YV M) c e k ∧ ∀ o, ¬ o = 74 → M2 o = M o) → Ret none M2) (hM : MOk M) (Z : KZ) (hZ : Sim cd_X7_addRule Z Ret) : Z 0 [some (mr 73), some (mi c), some (mi e), some (mi k), none] [] M := by
  obtain ⟨⟨b1, b2, b3, b4⟩, b5⟩ := hp
  refine w_aload hZ 0 1 rfl rfl rfl ?_
  refine w_getr hZ 1 2 rfl rfl rfl rfl rfl ?_
  refine w_const hZ 2 3 rfl rfl  ?_
  refine w_ialdk hZ 3 4 0 rfl rfl rfl rfl (by decide) ?_
  refine w_st5_4 hZ 4 5 rfl rfl rfl ?_
  refine w_aload hZ 5 6 rfl rfl rfl ?_
  refine w_getr hZ 6 7 rfl rfl rfl rfl rfl ?_
  refine w_const hZ 7 8 rfl rfl  ?_
  refine w_iload hZ 8 9 rfl rfl rfl ?_
  refine w_add hZ 9 10 rfl rfl (by unfold InR; omega) ?_
  refine w_iload hZ 10 11 rfl rfl rfl ?_
  refine w_iast hZ 11 12 rfl rfl rfl (by omega) (by omega) ?_
  refine w_aload hZ 12 13 rfl rfl rfl ?_
  refine w_getr hZ 13 14 rfl rfl rfl rfl rfl ?_
  refine w_const hZ 14 15 rfl rfl  ?_
  refine w_iload hZ 15 16 rfl rfl rfl ?_
  refine w_add hZ 16 17 rfl rfl (by unfold InR; omega) ?_
  refine w_iload hZ 17 18 rfl rfl rfl ?_
  refine w_iast hZ 18 19 rfl rfl rfl (by omega) (by omega) ?_
  refine w_aload hZ 19 20 rfl rfl rfl ?_
  refine w_getr hZ 20 21 rfl rfl rfl rfl rfl ?_
  refine w_const hZ 21 22 rfl rfl  ?_
  refine w_iload hZ 22 23 rfl rfl rfl ?_
  refine w_add hZ 23 24 rfl rfl (by unfold InR; omega) ?_
  refine w_iload hZ 24 25 rfl rfl rfl ?_
  refine w_iast hZ 25 26 rfl rfl rfl (by omega) (by omega) ?_
  refine w_aload hZ 26 27 rfl rfl rfl ?_
  refine w_getr hZ 27 28 rfl rfl rfl rfl rfl ?_
  refine w_const hZ 28 29 rfl rfl  ?_
  refine w_dup2 hZ 29 30 rfl rfl rfl rfl ?_
  refine w_ialdv hZ 30 31 rfl rfl rfl (by omega) (by omega) (v := M 74 0) (by rw [mup_at, if_neg (by omega), mup_at, if_neg (by omega), mup_at, if_neg (by omega)]; rfl) ?_
  refine w_const hZ 31 32 rfl rfl  ?_
  refine w_add hZ 32 33 rfl rfl (by unfold InR; omega) ?_
  refine w_iastk hZ 33 34 0 rfl rfl rfl rfl (by decide) ?_
  refine w_vret hZ 34 rfl ?_
  refine hR _ ⟨bY_a b1 b5 (fun j => ?_), fun o ho => by funext q; simp [mup_at, ho]⟩
  simp only [mup_at, true_and]
set_option maxRecDepth 100000 in
set_option maxHeartbeats 4000000 in
theorem ao_X7_addRule : AllOk yX7_addRule.cls cX7_addRule 5 0 0 none none pc_X7_addRule 0 cd_X7_addRule := ⟨s_aload_n (k := 0) (by decide +kernel) rfl rfl, ⟨s_get (C := RX7) (T := TX7) (N := 22) rfl inT7 (by decide) tw_3_159 (by decide +kernel) rfl, ⟨s_iconst (by decide +kernel) rfl ⟨by decide, by decide⟩, ⟨s_iald (by decide +kernel) rfl, ⟨s_istore (by decide +kernel) rfl, ⟨s_aload_n (k := 0) (by decide +kernel) rfl rfl, ⟨s_get (C := RX7) (T := TX7) (N := 22) rfl inT7 (by decide) tw_3_159 (by decide +kernel) rfl, ⟨s_iconst (by decide +kernel) rfl ⟨by decide, by decide⟩, ⟨s_iload (by decide +kernel) rfl, ⟨s_add (by decide +kernel) rfl, ⟨s_iload_n (k := 1) (by decide +kernel) rfl rfl, ⟨s_iast (by decide +kernel) rfl, ⟨s_aload_n (k := 0) (by decide +kernel) rfl rfl, ⟨s_get (C := RX7) (T := TX7) (N := 22) rfl inT7 (by decide) tw_3_159 (by decide +kernel) rfl, ⟨s_bipush (by decide +kernel) rfl ⟨by decide, by decide⟩ (by decide +kernel), ⟨s_iload (by decide +kernel) rfl, ⟨s_add (by decide +kernel) rfl, ⟨s_iload_n (k := 2) (by decide +kernel) rfl rfl, ⟨s_iast (by decide +kernel) rfl, ⟨s_aload_n (k := 0) (by decide +kernel) rfl rfl, ⟨s_get (C := RX7) (T := TX7) (N := 22) rfl inT7 (by decide) tw_3_159 (by decide +kernel) rfl, ⟨s_bipush (by decide +kernel) rfl ⟨by decide, by decide⟩ (by decide +kernel), ⟨s_iload (by decide +kernel) rfl, ⟨s_add (by decide +kernel) rfl, ⟨s_iload_n (k := 3) (by decide +kernel) rfl rfl, ⟨s_iast (by decide +kernel) rfl, ⟨s_aload_n (k := 0) (by decide +kernel) rfl rfl, ⟨s_get (C := RX7) (T := TX7) (N := 22) rfl inT7 (by decide) tw_3_159 (by decide +kernel) rfl, ⟨s_iconst (by decide +kernel) rfl ⟨by decide, by decide⟩, ⟨s_dup2 (by decide +kernel) rfl, ⟨s_iald (by decide +kernel) rfl, ⟨s_iconst (by decide +kernel) rfl ⟨by decide, by decide⟩, ⟨s_add (by decide +kernel) rfl, ⟨s_iast (by decide +kernel) rfl, ⟨s_vret rfl (by decide +kernel), trivial⟩⟩⟩⟩⟩⟩⟩⟩⟩⟩⟩⟩⟩⟩⟩⟩⟩⟩⟩⟩⟩⟩⟩⟩⟩⟩⟩⟩⟩⟩⟩⟩⟩⟩⟩
theorem ct_X7_addRule : Ctr yX7_addRule cX7_addRule 5 none 0 0 sp_X7_addRule := by
  refine ctr_of (by decide +kernel) ao_X7_addRule rfl ?_
  rintro av M Ret ⟨c, e, k, rfl, hp, hR⟩ hok hM
  exact ⟨Nat.le_of_ble_eq_true rfl, fun Z hZ => b_X7_addRule  c (hok _ (List.mem_of_getElem? (i := 1) rfl)) e (hok _ (List.mem_of_getElem? (i := 2) rfl)) k (hok _ (List.mem_of_getElem? (i := 3) rfl)) M Ret hp hR hM Z hZ⟩
