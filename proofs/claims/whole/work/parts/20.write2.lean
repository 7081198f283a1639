/-! Writer.write -/
/-- what the Writer's rows say when D is written -/
def WSt (D : List Ev) (N : Mem) : Prop := N 10 4 = D.length ∧ (∀ j : Nat, j < D.length → N 11 j = (D.map fun e => e.1).getD j 0) ∧ ∀ k : Nat, k < 12 → N 12 k = cntE D k ∧ N 13 k = fstE D k
theorem WSt.app {D E : List Ev} {M N : Mem} (h : WSt D M) (h2 : ApE E M N) : WSt (D ++ E) N := by
  obtain ⟨a1, a2, a3⟩ := h
  obtain ⟨b1, b2, b3, b4, b5, b6⟩ := h2
  refine ⟨by rw [b1, a1, List.length_append]; omega, fun j hj => ?_, fun k hk => ⟨?_, ?_⟩⟩
  · rw [List.map_append]
    rw [List.length_append] at hj
    by_cases q : j < D.length
    · rw [b2 _ (by omega), a2 j q, List.getD_eq_getElem?_getD, List.getD_eq_getElem?_getD, List.getElem?_append_left (by simpa using q)]
    · have e : j = (M 10 4).toNat + (j - D.length) := by omega
      rw [e, b3 _ (by omega), List.getD_eq_getElem?_getD, List.getD_eq_getElem?_getD, List.getElem?_append_right (by simp; omega)]
      congr 2
      simp; omega
  · rw [(b4 k hk).1, (a3 k hk).1, cntE_app]
  · rw [(b4 k hk).2, (a3 k hk).1, (a3 k hk).2, fstE_app]
    by_cases q : cntE D k = 0
    · rw [if_pos q]
      by_cases q2 : cntE E k = 0
      · rw [if_neg (fun z => z.2 q2)]
        have n1 : ∀ e ∈ D, ¬ e.2.1 = (k : Int) := by
          intro e he hk2
          have : e ∈ D.filter (fun e => e.2.1 == (k : Int)) := List.mem_filter.mpr ⟨he, by simpa using hk2⟩
          have := List.length_pos_of_mem this
          unfold cntE at q; omega
        have n2 : ∀ e ∈ E, ¬ e.2.1 = (k : Int) := by
          intro e he hk2
          have : e ∈ E.filter (fun e => e.2.1 == (k : Int)) := List.mem_filter.mpr ⟨he, by simpa using hk2⟩
          have := List.length_pos_of_mem this
          unfold cntE at q2; omega
        rw [fstE_none n1, fstE_none n2]
      · rw [if_pos ⟨q, q2⟩]
    · rw [if_neg (fun z => q z.1), if_neg q]
theorem WSt.sn {D : List Ev} {N : Mem} (h : WSt D N) : Sn N := fun k hk => by
  have := cntE_nn D k
  have := cntE_le D k
  rw [(h.2.2 k hk).1, h.1]; omega
theorem WSt.same {D : List Ev} {M N : Mem} (h : WSt D M) (h1 : N 10 4 = M 10 4) (h2 : N 11 = M 11) (h3 : N 12 = M 12) (h4 : N 13 = M 13) : WSt D N := by
  unfold WSt; rw [h1, h2, h3, h4]; exact h
/-- what is still to be written at i: inside a word nothing of it -/
def rsE (V : BV) (w i : Int) : List Ev := if isLt (vS V (i - 1)) ∧ isLt (vS V i) then aEv V w (we (vN V) (vS V) i) else aEv V w i
theorem rsE_word {V : BV} (h : vOk V) (w : Int) {i : Int} (h0 : 0 ≤ i) (h1 : i < vN V) (hl : isLt (vS V i)) (hp : ¬ isLt (vS V (i - 1))) : rsE V w i = wdE V w i (we (vN V) (vS V) i) ++ rsE V w (i + 1) := by
  have hg := we_gt h h1 hl
  obtain ⟨w1, w2, w3, w4⟩ := we_spec (Int.le_of_lt h1) h.nl
  unfold rsE
  rw [if_neg (fun z => hp z.1), aEv_word h h1 hl, show i + 1 - 1 = i by omega]
  congr 1
  by_cases q : isLt (vS V (i + 1))
  · rw [if_pos ⟨hl, q⟩]
    have : we (vN V) (vS V) i = we (vN V) (vS V) (i + 1) := by
      refine (we_eq (by omega) w2 h.nl (fun j j0 j1 => w3 j (by omega) j1) w4).symm
    rw [this]
  · rw [if_neg (fun z => q z.2)]
    have : we (vN V) (vS V) i = i + 1 := by
      refine we_eq (by omega) (by omega) h.nl (fun j j0 j1 => ?_) q
      rw [show j = i by omega]; exact hl
    rw [this]
theorem rsE_in {V : BV} (h : vOk V) (w : Int) {i : Int} (h1 : i < vN V) (hl : isLt (vS V i)) (hp : isLt (vS V (i - 1))) : rsE V w i = rsE V w (i + 1) := by
  have hg := we_gt h h1 hl
  obtain ⟨w1, w2, w3, w4⟩ := we_spec (Int.le_of_lt h1) h.nl
  unfold rsE
  rw [if_pos ⟨hp, hl⟩, show i + 1 - 1 = i by omega]
  by_cases q : isLt (vS V (i + 1))
  · rw [if_pos ⟨hl, q⟩]
    have : we (vN V) (vS V) i = we (vN V) (vS V) (i + 1) := by
      refine (we_eq (by omega) w2 h.nl (fun j j0 j1 => w3 j (by omega) j1) w4).symm
    rw [this]
  · rw [if_neg (fun z => q z.2)]
    have : we (vN V) (vS V) i = i + 1 := by
      refine we_eq (by omega) (by omega) h.nl (fun j j0 j1 => ?_) q
      rw [show j = i by omega]; exact hl
    rw [this]
theorem rsE_sign {V : BV} (h : vOk V) (w : Int) {i : Int} (h1 : i < vN V) (hl : ¬ isLt (vS V i)) : rsE V w i = sgE V i ++ rsE V w (i + 1) := by
  unfold rsE
  rw [if_neg (fun z => hl z.2), if_neg (fun z => hl (by have := z.1; rwa [show i + 1 - 1 = i by omega] at this)), aEv_sign h h1 hl]
theorem sgE_wc (V : BV) (i : Int) : ∀ e ∈ sgE V i, ¬ e.2.2.2 = 1 := by
  unfold sgE
  split
  · split <;> simp
  · simp
theorem rsE_0 {V : BV} (h : vOk V) (w : Int) : rsE V w 0 = aEv V w 0 := by
  unfold rsE
  rw [if_neg]
  intro z
  have e : vS V (0 - 1) = -1 := h.2.2.2.2.2.1 _ (Or.inl (by omega))
  rw [e] at z
  exact isLt_m1 z.1
theorem rsE_n {V : BV} (h : vOk V) (w : Int) : rsE V w (vN V) = [] := by
  unfold rsE
  rw [if_neg (fun z => h.nl z.2), aEv_end (Int.le_refl _)]
def sp_X5_write : SP := fun av M Ret => ∃ w : Int, av = [mr 10, mi w] ∧ (vOk (bX M 1)) ∧ (∀ M2 : Mem, (WSt (aEv (bX M 1) w 0) M2 ∧ M2 10 5 = w ∧ M2 10 6 = wcE (aEv (bX M 1) w 0) ∧ ∀ k, k < 10 ∨ 14 < k → M2 k = M k) → Ret (some (mi ((aEv (bX M 1) w 0).length))) M2)
theorem k_X5_write {code : List Sem} {Z : KZ} {Ret : KR} {ls : List (Option MV)} {M : Mem} {r : List MV} (hZ : Sim code Z Ret) (ip np : Nat) {w : Int} (hc : code[ip]? = some (I_callV 5 1 sp_X5_write)) (hn : ip + 1 = np) (h3 : catS r ≤ 8)  (hp : vOk (bX M 1)) (kz : ∀ M2 : Mem, (WSt (aEv (bX M 1) w 0) M2 ∧ M2 10 5 = w ∧ M2 10 6 = wcE (aEv (bX M 1) w 0) ∧ ∀ k, k < 10 ∨ 14 < k → M2 k = M k) → Z np ls (mi ((aEv (bX M 1) w 0).length) :: r) M2) : Z ip ls (mi w :: mr 10 :: r) M := w_callV1 hZ ip np hc hn rfl rfl h3 ⟨_, rfl, hp, fun M2 h => kz M2 h⟩
def cd_X5_write : List Sem := [I_aload 0, I_iload 1, I_callV 5 1 sp_X5_begin, I_const (0), I_istore 2, I_iload 2, I_aload 0, I_get 5 3, I_get 0 5, I_cge 43, I_aload 0, I_get 5 3, I_iload 2, I_callV 0 1 sp_X0_signAt, I_istore 3, I_aload 0, I_get 5 3, I_iload 2, I_callV 0 1 sp_X0_wordBeginsAt, I_ifeq 26, I_aload 0, I_iload 2, I_callV 5 1 sp_X5_enterWord, I_aload 0, I_callV 5 0 sp_X5_writeWord, I_goto 41, I_iload 3, I_callS 1 sp_X6_isFigure, I_ifeq 34, I_aload 0, I_iload 2, I_iload 3, I_callV 5 2 sp_X5_writeFigure, I_goto 41, I_iload 3, I_callS 1 sp_X6_isOfWord, I_ifne 41, I_aload 0, I_iload 3, I_callS 1 sp_X6_cellOfMark, I_callV 5 1 sp_X5_addCell, I_iinc 2 (1), I_goto 5, I_aload 0, I_get 5 4, I_iret]
def pc_X5_write : List Nat := [0, 1, 2, 5, 6, 7, 8, 9, 12, 15, 18, 19, 22, 23, 26, 27, 28, 31, 32, 35, 38, 39, 40, 43, 44, 47, 50, 51, 54, 57, 58, 59, 60, 63, 66, 67, 70, 73, 74, 75, 78, 81, 84, 87, 88, 91]
set_option maxRecDepth 100000 in
set_option maxHeartbeats 4000000 in
theorem b_X5_write (w : Int) (i_w : InR w) (M : Mem) (Ret : KR) (hp : vOk (bX M 1)) (hR : ∀ M2 : Mem, (WSt (aEv (bX M 1) w 0) M2 ∧ M2 10 5 = w ∧ M2 10 6 = wcE (aEv (bX M 1) w 0) ∧ ∀ k, k < 10 ∨ 14 < k → M2 k = M k) → Ret (some (mi ((aEv (bX M 1) w 0).length))) M2) (hM : MOk M) (Z : KZ) (hZ : Sim cd_X5_write Z Ret) : Z 0 [some (mr 10), some (mi w), none, none] [] M := by
  have hv := hp
  have hb := hv.bx
  have hbb := hb
  obtain ⟨b1, b2, b3, b4⟩ := hbb
  have h240 := aEv_240 hv w (Int.le_refl 0)
  generalize hV : bX M 1 = V at *
  have hn : vN V = M 1 5 := by rw [← hV]; rfl
  generalize hn' : M 1 5 = n at *
  have loop : ∀ (d : Nat) (i : Int) (D : List Ev) (N : Mem), d = (n - i).toNat → 0 ≤ i → i ≤ n → WSt D N → N 10 5 = w → N 10 6 = wcE D → (∀ k, k < 10 ∨ 14 < k → N k = M k) → aEv V w 0 = D ++ rsE V w i → Z 5 [some (mr 10), some (mi w), some (mi i), none] [] N := by
    intro d
    induction d using Nat.strongRecOn with
    | ind d ih =>
      intro i D N hd h0 h1 hW h5 h6 hfr hev
      have hbN : bX N 1 = V := (bX_same 1 (fun j a b => hfr j (by omega))).trans hV
      have hvN : vOk (bX N 1) := by rw [hbN]; exact hv
      have hBN := hvN.bx
      have e15 : N 1 5 = n := by rw [hfr 1 (by omega)]; exact hn'
      have hsN : ∀ x, SX N x = vS V x := fun x => by show vS (bX N 1) x = _; rw [hbN]
      have hlev := congrArg List.length hev
      rw [List.length_append] at hlev
      have hw4 := hW.1
      have hwcl : 0 ≤ wcE D ∧ wcE D ≤ D.length := by
        unfold wcE
        have := List.length_filter_le (fun e : Ev => e.2.2.2 == 1) D
        omega
      have step : i < n → ∀ (E : List Ev) (N2 : Mem), WSt (D ++ E) N2 → N2 10 5 = w → N2 10 6 = wcE (D ++ E) → (∀ k, k < 10 ∨ 14 < k → N2 k = M k) → rsE V w i = E ++ rsE V w (i + 1) → Z 41 [some (mr 10), some (mi w), some (mi i), some (mi (vS V i))] [] N2 := by
        intro hin E N2 s1 s2 s3 s4 s5
        refine w_in4_2 hZ 41 42 rfl rfl rfl (by unfold InR; omega) ?_
        refine w_goto hZ 42 5 rfl ?_
        refine w_fg4_3 hZ ?_
        exact ih ((n - (i + 1)).toNat) (by omega) (i + 1) (D ++ E) N2 rfl (by omega) (by omega) s1 s2 s3 s4 (by rw [hev, s5, List.append_assoc])
      have hsig : i < n → ∀ (E : List Ev) (N2 : Mem), ApE E N N2 → (∀ e ∈ E, ¬ e.2.2.2 = 1) → rsE V w i = E ++ rsE V w (i + 1) → Z 41 [some (mr 10), some (mi w), some (mi i), some (mi (vS V i))] [] N2 := by
        intro hin E N2 hE he hr
        have z : wcE E = 0 := by
          unfold wcE
          have : E.filter (fun e => e.2.2.2 == 1) = [] := by
            rw [List.filter_eq_nil_iff]
            intro e h; simpa using he e h
          rw [this]; rfl
        have hE' := hE
        obtain ⟨c1, c2, c3, c4, c5, c6⟩ := hE'
        refine step hin E N2 (hW.app hE) (by rw [c5 5 (by omega)]; exact h5) (by rw [c5 6 (by omega), h6, wcE_app, z]; omega) (fun k hk => ?_) hr
        rw [c6 k (by omega), hfr k hk]
      refine w_iload hZ 5 6 rfl rfl rfl ?_
      refine w_aload hZ 6 7 rfl rfl rfl ?_
      refine w_getr hZ 7 8 rfl rfl rfl rfl rfl ?_
      refine w_getiv hZ 8 9 rfl rfl rfl rfl rfl (v := n) e15 ?_
      refine w_cge hZ 9 10 rfl rfl (fun c9 => ?_) (fun c9 => ?_)
      · refine w_aload hZ 43 44 rfl rfl rfl ?_
        have hin : i = vN V := by omega
        rw [hin, rsE_n hv w, List.append_nil] at hev
        refine w_geti hZ 44 45 rfl rfl rfl rfl rfl ?_
        rw [hw4, ← hev]
        refine w_iret hZ 45 rfl ?_
        rw [← hev] at hW h6
        exact hR _ ⟨hW, h5, h6, hfr⟩
      · refine w_aload hZ 10 11 rfl rfl rfl ?_
        refine w_getr hZ 11 12 rfl rfl rfl rfl rfl ?_
        refine w_iload hZ 12 13 rfl rfl rfl ?_
        refine k_X0_signAt hZ 13 14 rfl rfl (Nat.le_of_ble_eq_true rfl) hBN ?_
        rw [hsN i]
        refine w_st4_3 hZ 14 15 rfl rfl rfl ?_
        refine w_aload hZ 15 16 rfl rfl rfl ?_
        refine w_getr hZ 16 17 rfl rfl rfl rfl rfl ?_
        refine w_iload hZ 17 18 rfl rfl rfl ?_
        refine k_X0_wordBeginsAt hZ 18 19 rfl rfl (Nat.le_of_ble_eq_true rfl) ⟨hBN, by unfold InR; omega⟩ ?_
        rw [hsN i, hsN (i - 1)]
        refine w_ifeq hZ 19 20 rfl rfl (fun c19 => ?_) (fun c19 => ?_)
        · replace c19 := b2i_z.mp c19
          refine w_iload hZ 26 27 rfl rfl rfl ?_
          refine k_X6_isFigure hZ 27 28 rfl rfl (Nat.le_of_ble_eq_true rfl)  ?_
          refine w_ifeq hZ 28 29 rfl rfl (fun c28 => ?_) (fun c28 => ?_)
          · refine w_iload hZ 34 35 rfl rfl rfl ?_
            refine k_X6_isOfWord hZ 35 36 rfl rfl (Nat.le_of_ble_eq_true rfl)  ?_
            refine w_ifne hZ 36 37 rfl rfl (fun c36 => ?_) (fun c36 => ?_)
            · replace c36 := b2i_e.mp c36
              refine step (by omega) [] N (by rw [List.append_nil]; exact hW) h5 (by rw [List.append_nil]; exact h6) hfr ?_
              rw [List.nil_append]
              exact rsE_in hv w (by omega) c36 (Decidable.byContradiction fun z => c19 ⟨c36, z⟩)
            · replace c36 := b2i_z.mp c36
              replace c28 := b2i_z.mp c28
              have hrs := rsE_sign hv w (i := i) (by omega) c36
              have hsg : sgE V i = [(mkC (vS V i), -1, i, 0)] := by unfold sgE; rw [if_neg c28]
              rw [hsg] at hrs
              have hlr := congrArg List.length hrs
              rw [List.length_append] at hlr
              simp only [List.length_cons, List.length_nil] at hlr
              refine w_aload hZ 37 38 rfl rfl rfl ?_
              refine w_iload hZ 38 39 rfl rfl rfl ?_
              refine k_X6_cellOfMark hZ 39 40 rfl rfl (Nat.le_of_ble_eq_true rfl)  ?_
              refine k_X5_addCell hZ 40 41 rfl rfl (Nat.le_of_ble_eq_true rfl) ⟨by omega, by omega⟩ (fun M40 p40 => ?_)
              subst p40
              exact hsig (by omega) _ _ (ApE_cell (by omega) (mkC (vS V i), -1, i, 0) rfl) (by intro e he; simp at he; rw [he]; show ¬ (0 : Int) = 1; decide) hrs
          · replace c28 := b2i_e.mp c28
            have hnl : ¬ isLt (vS V i) := by simp only [isFg, isLt, isSm, isCp] at *; omega
            have hrs := rsE_sign hv w (i := i) (by omega) hnl
            have hlr := congrArg List.length hrs
            rw [List.length_append] at hlr
            refine w_aload hZ 29 30 rfl rfl rfl ?_
            refine w_iload hZ 30 31 rfl rfl rfl ?_
            refine w_iload hZ 31 32 rfl rfl rfl ?_
            refine k_X5_writeFigure hZ 32 33 rfl rfl (Nat.le_of_ble_eq_true rfl) ⟨hvN, h0, by omega, by rw [hbN], c28, by omega, by rw [hbN]; omega, hW.sn⟩ (fun M32 p32 => ?_)
            refine w_goto hZ 33 41 rfl ?_
            rw [hbN] at p32
            exact hsig (by omega) _ _ p32 (sgE_wc V i) hrs
        · replace c19 := b2i_e.mp c19
          have hrs := rsE_word hv w h0 (by omega) c19.1 c19.2
          have hlr := congrArg List.length hrs
          rw [List.length_append] at hlr
          refine w_aload hZ 20 21 rfl rfl rfl ?_
          refine w_iload hZ 21 22 rfl rfl rfl ?_
          refine k_X5_enterWord hZ 22 23 rfl rfl (Nat.le_of_ble_eq_true rfl) ⟨hvN, h0, by omega, by rw [hbN]; exact c19.1⟩ (fun M22 p22 => ?_)
          obtain ⟨q1, q2, q3⟩ := p22
          rw [e15, hbN] at q2 q3
          rw [e15] at q1
          have hwe : we n (SX N) i = we (vN V) (vS V) i := by rw [hn, show SX N = vS V from funext hsN]
          rw [hwe] at q1 q2 q3
          have hb22 : bX M22 1 = V := q1.bx.trans hbN
          have hg22 : gM M22 = alC V i (we (vN V) (vS V) i) := by
            unfold gM
            rw [q2]
            by_cases z : alC V i (we (vN V) (vS V) i) = true
            · rw [b2i_t z, z]; rfl
            · rw [b2i_f z]; simp at z; rw [z]; rfl
          have hwg := we_gt hv (i := i) (by omega) c19.1
          have hws := we_spec (n := vN V) (S := vS V) (i := i) (by omega) hv.nl
          have hW22 : WSt D M22 := hW.same (q1.2.2.1 4 (by omega) (by omega) (by omega)) (q1.2.2.2 11 (by omega) (by omega)) (q1.2.2.2 12 (by omega) (by omega)) (q1.2.2.2 13 (by omega) (by omega))
          have e22 : M22 10 5 = w := (q1.2.2.1 5 (by omega) (by omega) (by omega)).trans h5
          have e226 : M22 10 6 = wcE D := (q1.2.2.1 6 (by omega) (by omega) (by omega)).trans h6
          have e224 := hW22.1
          have e221 : M22 1 5 = n := by rw [q1.2.2.2 1 (by omega) (by omega)]; exact e15
          have hen : En M22 := by
            unfold En
            rw [q1.1, q1.2.1, e221, hb22, hg22]
            exact ⟨h0, hwg.1, by omega, fun x x0 x1 => ⟨hws.2.2.1 x x0 x1, q3 x x0 x1⟩⟩
          refine w_aload hZ 23 24 rfl rfl rfl ?_
          refine k_X5_writeWord hZ 24 25 rfl rfl (Nat.le_of_ble_eq_true rfl) ⟨by rw [hb22]; exact hv, hen, by rw [hb22, q1.1, q1.2.1]; exact hg22, by rw [q2, hg22], by omega, by rw [hb22, q1.1, q1.2.1, e22]; omega, hW22.sn, by omega, by omega⟩ (fun M24 p24 => ?_)
          refine w_goto hZ 25 41 rfl ?_
          obtain ⟨N3, r1, r2⟩ := p24
          rw [hb22, q1.1, q1.2.1, e22] at r1 r2
          subst r2
          refine step (by omega) _ _ ((hW22.app r1).same (by simp [mup_at]) (by funext j; simp [mup_at]) (by funext j; simp [mup_at]) (by funext j; simp [mup_at])) ?_ ?_ (fun k hk => ?_) hrs
          · rw [mup_at, if_neg (by omega), r1.2.2.2.2.1 5 (by omega)]; exact e22
          · rw [mup_at, if_pos ⟨rfl, rfl⟩, e226, wcE_app]
          · have z1 : ¬ k = 10 := by omega
            rw [← hfr k hk, ← q1.2.2.2 k (by omega) (by omega), ← r1.2.2.2.2.2 k (by omega)]
            funext j; simp [mup_at, z1]
  refine w_aload hZ 0 1 rfl rfl rfl ?_
  refine w_iload hZ 1 2 rfl rfl rfl ?_
  refine k_X5_begin hZ 2 3 rfl rfl (Nat.le_of_ble_eq_true rfl)  (fun M2 p2 => ?_)
  refine w_const hZ 3 4 rfl rfl  ?_
  refine w_st4_2 hZ 4 5 rfl rfl rfl ?_
  obtain ⟨q1, q2, q3⟩ := p2
  have z4 : M2 10 4 = 0 := by rw [q1]; rfl
  have z5 : M2 10 5 = w := by rw [q1]; rfl
  have z6 : M2 10 6 = 0 := by rw [q1]; rfl
  refine loop _ 0 [] M2 rfl (Int.le_refl _) b3 ⟨by rw [z4]; rfl, fun j hj => by simp at hj, fun k hk => ⟨by rw [(q2 k hk).1]; rfl, by rw [(q2 k hk).2]; rfl⟩⟩ z5 (by rw [z6]; rfl) (fun k hk => q3 k (by omega) (by omega) (by omega)) ?_
  rw [List.nil_append]; exact (rsE_0 hv w).symm
set_option maxRecDepth 100000 in
set_option maxHeartbeats 4000000 in
theorem ao_X5_write : AllOk yX5_write.cls cX5_write 4 4 97 (some .int) none pc_X5_write 0 cd_X5_write := ⟨s_aload_n (k := 0) (by decide +kernel) rfl rfl, ⟨s_iload_n (k := 1) (by decide +kernel) rfl rfl, ⟨s_callV (C := RX5) (T := TX5) (N := 12) rfl ct_X5_begin (by decide) (by decide) ⟨rfl, by decide +kernel, by decide +kernel, by decide +kernel⟩ tw_2_138 tw_2_140 ts_1_3 tw_1_4 tw_2_141 (by decide +kernel) rfl, ⟨s_iconst (by decide +kernel) rfl ⟨by decide, by decide⟩, ⟨s_istore_n (k := 2) (by decide +kernel) rfl rfl, ⟨s_iload_n (k := 2) (by decide +kernel) rfl rfl, ⟨s_aload_n (k := 0) (by decide +kernel) rfl rfl, ⟨s_get (C := RX5) (T := TX5) (N := 12) rfl inT5 (by decide) tw_1_95 (by decide +kernel) rfl, ⟨s_get (C := RX0) (T := TX0) (N := 8) rfl inT0 (by decide) tw_1_39 (by decide +kernel) rfl, ⟨s_cge (off := (72)) (by decide +kernel) rfl rfl, ⟨s_aload_n (k := 0) (by decide +kernel) rfl rfl, ⟨s_get (C := RX5) (T := TX5) (N := 12) rfl inT5 (by decide) tw_1_95 (by decide +kernel) rfl, ⟨s_iload_n (k := 2) (by decide +kernel) rfl rfl, ⟨s_callV (C := RX0) (T := TX0) (N := 8) rfl ct_X0_signAt (by decide) (by decide) ⟨rfl, by decide +kernel, by decide +kernel, by decide +kernel⟩ tw_2_142 tw_2_130 tw_2_131 tw_1_2 tw_2_132 (by decide +kernel) rfl, ⟨s_istore_n (k := 3) (by decide +kernel) rfl rfl, ⟨s_aload_n (k := 0) (by decide +kernel) rfl rfl, ⟨s_get (C := RX5) (T := TX5) (N := 12) rfl inT5 (by decide) tw_1_95 (by decide +kernel) rfl, ⟨s_iload_n (k := 2) (by decide +kernel) rfl rfl, ⟨s_callV (C := RX0) (T := TX0) (N := 8) rfl ct_X0_wordBeginsAt (by decide) (by decide) ⟨rfl, by decide +kernel, by decide +kernel, by decide +kernel⟩ tw_2_143 tw_2_126 tw_2_127 tw_1_2 tw_2_128 (by decide +kernel) rfl, ⟨s_ifeq (off := (15)) (by decide +kernel) rfl rfl, ⟨s_aload_n (k := 0) (by decide +kernel) rfl rfl, ⟨s_iload_n (k := 2) (by decide +kernel) rfl rfl, ⟨s_callV (C := RX5) (T := TX5) (N := 12) rfl ct_X5_enterWord (by decide) (by decide) ⟨rfl, by decide +kernel, by decide +kernel, by decide +kernel⟩ tw_2_144 tw_2_146 ts_1_4 tw_1_4 tw_2_147 (by decide +kernel) rfl, ⟨s_aload_n (k := 0) (by decide +kernel) rfl rfl, ⟨s_callV (C := RX5) (T := TX5) (N := 12) rfl ct_X5_writeWord (by decide) (by decide) ⟨rfl, by decide +kernel, by decide +kernel, by decide +kernel⟩ tw_2_157 tw_2_159 ts_1_5 tw_1_4 tw_2_160 (by decide +kernel) rfl, ⟨s_goto (off := (34)) (by decide +kernel) rfl, ⟨s_iload_n (k := 3) (by decide +kernel) rfl rfl, ⟨s_callN ct_X6_isFigure (by decide) (by decide) ⟨by decide +kernel, by decide +kernel, by decide +kernel⟩ ni_11 tw_2_96 tw_1_1 tw_2_97 (by decide +kernel) rfl, ⟨s_ifeq (off := (12)) (by decide +kernel) rfl rfl, ⟨s_aload_n (k := 0) (by decide +kernel) rfl rfl, ⟨s_iload_n (k := 2) (by decide +kernel) rfl rfl, ⟨s_iload_n (k := 3) (by decide +kernel) rfl rfl, ⟨s_callV (C := RX5) (T := TX5) (N := 12) rfl ct_X5_writeFigure (by decide) (by decide) ⟨rfl, by decide +kernel, by decide +kernel, by decide +kernel⟩ tw_2_198 tw_2_200 ts_1_13 tw_1_4 tw_2_201 (by decide +kernel) rfl, ⟨s_goto (off := (18)) (by decide +kernel) rfl, ⟨s_iload_n (k := 3) (by decide +kernel) rfl rfl, ⟨s_callN ct_X6_isOfWord (by decide) (by decide) ⟨by decide +kernel, by decide +kernel, by decide +kernel⟩ ni_13 tw_2_87 tw_1_1 tw_2_88 (by decide +kernel) rfl, ⟨s_ifne (off := (11)) (by decide +kernel) rfl rfl, ⟨s_aload_n (k := 0) (by decide +kernel) rfl rfl, ⟨s_iload_n (k := 3) (by decide +kernel) rfl rfl, ⟨s_callN ct_X6_cellOfMark (by decide) (by decide) ⟨by decide +kernel, by decide +kernel, by decide +kernel⟩ ni_14 tw_2_207 tw_1_1 tw_2_208 (by decide +kernel) rfl, ⟨s_callV (C := RX5) (T := TX5) (N := 12) rfl ct_X5_addCell (by decide) (by decide) ⟨rfl, by decide +kernel, by decide +kernel, by decide +kernel⟩ tw_2_171 tw_2_173 ts_1_7 tw_1_4 tw_2_174 (by decide +kernel) rfl, ⟨s_iinc (by decide +kernel) rfl, ⟨s_goto (off := (-77)) (by decide +kernel) rfl, ⟨s_aload_n (k := 0) (by decide +kernel) rfl rfl, ⟨s_get (C := RX5) (T := TX5) (N := 12) rfl inT5 (by decide) tw_1_96 (by decide +kernel) rfl, ⟨s_iret rfl (by decide +kernel), trivial⟩⟩⟩⟩⟩⟩⟩⟩⟩⟩⟩⟩⟩⟩⟩⟩⟩⟩⟩⟩⟩⟩⟩⟩⟩⟩⟩⟩⟩⟩⟩⟩⟩⟩⟩⟩⟩⟩⟩⟩⟩⟩⟩⟩⟩⟩
theorem ct_X5_write : Ctr yX5_write cX5_write 4 (some .int) 4 97 sp_X5_write := by
  refine ctr_of (by decide +kernel) ao_X5_write rfl ?_
  rintro av M Ret ⟨w, rfl, hp, hR⟩ hok hM
  exact ⟨Nat.le_of_ble_eq_true rfl, fun Z hZ => b_X5_write  w (hok _ (List.mem_of_getElem? (i := 1) rfl)) M Ret hp hR hM Z hZ⟩
