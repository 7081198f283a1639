/-! WHAT EACH ACT GIVES AND LEAVES -/
def nx (s : St) (V : BV) : St := (V, (sB s :: sH s).take 8, sI s, sC s, sL s)
theorem nx_ok {s : St} (h : stOk s) {V : BV} (hV : vOk V) : stOk (nx s V) := by
  obtain ⟨a1, a2, a3, a4⟩ := h
  refine ⟨hV, ?_, ?_, a4⟩
  · show ((sB s :: sH s).take 8).length ≤ 8
    rw [List.length_take]; omega
  · intro U hU
    have := List.mem_of_mem_take hU
    rcases List.mem_cons.mp this with q | q
    · rw [q]; exact a1
    · exact a3 U q
def evF (D : List Ev) : Int → Int := sgn D.length (fun j => (D.map fun e => e.1).getD j 0)
theorem WSt.sg {D : List Ev} {N : Mem} (h : WSt D N) : sgn D.length (N 11) = evF D := sgn_congr (fun i hi => h.2.1 i (by omega))
abbrev evN (V : BV) (w : Int) : List Ev := aEv V w 0
def lyS (V : BV) : LST := ly (vW V) (evF (evN V (-1))) (evN V (-1)).length 0 none
def oRule (s : St) (c e k : Int) : Int × St := if ¬ (vC c ∧ isRC e ∧ 0 ≤ k ∧ k ≤ 4) then (-1000000002, s) else if tkn (sB s) c e then (-1000000003, s) else if 12 ≤ vR (sB s) then (-1000000004, s) else (vR (sB s), nx s (aR (sB s) c e k))
def oDrop (s : St) (k : Int) : Int × St := if ¬ (0 ≤ k ∧ k < vR (sB s)) then (-1000000001, s) else (vR (sB s) - 1, nx s (dR (sB s) k))
def oSetW (s : St) (v : Int) : Int × St := if v < 4 ∨ 40 < v then (-1000000002, s) else (vW (sB s), nx s (sW (sB s) v))
def oSetP (s : St) (v : Int) : Int × St := if v < 1 ∨ 20 < v then (-1000000002, s) else (vP (sB s), nx s (sP (sB s) v))
def oSet (s : St) (w v : Int) : Int × St := if w = 0 then oSetW s v else if w = 1 then oSetP s v else (-1000000002, s)
def oDrift (s : St) (n x : Int) : Int × St := if n < 1 ∨ 12 < n ∨ x < 1 ∨ 999999 < x then (-1000000002, s) else (vR (dft n.toNat (sB s) x) - vR (sB s), nx s (dft n.toNat (sB s) x))
def oText (s : St) (g : Int) : Int × St := if ¬ isSg g then (-1000000002, s) else if 120 ≤ vN (sB s) then (-1000000004, s) else (vN (sB s) + 1, nx s (aS (sB s) g))
def oWipe (s : St) : Int × St := (vN (sB s), nx s (wp (sB s)))
def oUndo (s : St) : Int × St := match sH s with
  | [] => (-1000000003, s)
  | V :: t => (t.length, (V, t, sI s, sC s, sL s))
def rTold (s : St) (w : Int) : Int :=
  if w = 0 then vR (sB s) else if w = 1 then vW (sB s) else if w = 2 then vP (sB s) else if w = 3 then vN (sB s) else if w = 4 then cntW (vS (sB s)) (vN (sB s)).toNat
  else if w = 5 then (evN (sB s) (-1)).length else if w = 6 then (evN (sB s) (-1)).length - wcE (evN (sB s) (-1)) + fwT (sB s) (-1) (vN (sB s)).toNat
  else if w = 7 then lyN (lyS (sB s)) else if w = 8 then (lyN (lyS (sB s)) + vP (sB s) - 1) / vP (sB s) else if w = 9 then sC s else if w = 10 then (sH s).length else -1000000002
def rCell (s : St) (i : Int) : Int := if i < 0 then -1000000002 else evF (evN (sB s) (-1)) i
def rLine (s : St) (l i : Int) : Int := if l < 0 ∨ i < 0 then -1000000002 else lyAt (lyS (sB s)) l.toNat i.toNat
def rRule (s : St) (k w : Int) : Int := if ¬ (0 ≤ k ∧ k < vR (sB s)) then -1000000001 else if w = 0 then vC' (sB s) k.toNat else if w = 1 then vE (sB s) k.toNat else if w = 2 then vK (sB s) k.toNat
  else if w = 3 then cntE (evN (sB s) (-1)) k else if w = 4 then (evN (sB s) k).length else if w = 5 then fstE (evN (sB s) (-1)) k else -1000000002
def rBy (s : St) (c : Int) : Int := if isCl c then rOf (sB s) c else -1000000002
def oFeel (s : St) (c : Int) : Int × St := if ¬ isCl c then (-1000000002, s) else if 240 ≤ sC s then (-1000000004, s) else (sC s + 1, (sB s, sH s, sI s, sC s + 1, fun i => if i = sC s then c else sL s i))
def oFeelAll (s : St) : Int × St := ((evN (sB s) (-1)).length, (sB s, sH s, sI s, ((evN (sB s) (-1)).length : Int), evF (evN (sB s) (-1))))
abbrev rdS (s : St) : Int × Int × List Int := rd (sB s) (sL s) (sC s) 0 (-1)
def rRead (s : St) : Int := if (rdS s).1 = 0 then (rdS s).2.2.length else -10 - (rdS s).1
def rFault (s : St) : Int := (rdS s).2.1
def rSign (s : St) (i : Int) : Int := if i < 0 then -1000000002 else if (rdS s).1 = 0 ∧ i < (rdS s).2.2.length then (rdS s).2.2.getD i.toNat 0 else -1
def oRest (s : St) : Int × St := (sC s, (sB s, sH s, sI s, 0, fun _ => -1))
def oKeep (s : St) (k : Int) : Int × St := if k < 0 ∨ 2 ≤ k then (-1000000001, s) else (vR (sB s), (sB s, [], upI (sI s) k (sB s), sC s, sL s))
def oBack (s : St) (k : Int) : Int × St := if k < 0 ∨ 2 ≤ k then (-1000000001, s) else match sI s k with
  | none => (-1000000003, s)
  | some V => (vR V, (V, [], sI s, sC s, sL s))
theorem wEv_cl {V : BV} (h : vOk V) (w a b : Int) (g : Bool) : ∀ (d : Nat) (i : Int), d = (b - i).toNat → (∀ j, i ≤ j → j < b → isLt (vS V j)) → ∀ e ∈ wEv V w a b g i, isCl e.1 := by
  intro d
  induction d using Nat.strongRecOn with
  | ind d ih =>
    intro i hd hl e he
    by_cases hb : b ≤ i
    · rw [wEv_end hb] at he; exact absurd he List.not_mem_nil
    · by_cases hs : sv V w a b g i = -1
      · rw [wEv_let h (by omega) hs] at he
        rcases List.mem_append.mp he with q | q
        · have := ltN_rng (hl i (Int.le_refl _) (by omega))
          unfold leE at q
          split at q
          · rcases List.mem_cons.mp q with q | q
            · rw [q]; show (0 : Int) ≤ 60 ∧ (60 : Int) ≤ 63; omega
            · rw [List.mem_singleton.mp q]; show 0 ≤ ltN (vS V i) ∧ ltN (vS V i) ≤ 63; omega
          · rw [List.mem_singleton.mp q]; show 0 ≤ ltN (vS V i) ∧ ltN (vS V i) ≤ 63; omega
        · exact ih (b - (i + 1)).toNat (by omega) (i + 1) rfl (fun j a1 a2 => hl j (by omega) a2) e q
      · rw [wEv_rule h (by omega) hs] at he
        have hr := h.sv_ln hs
        rcases List.mem_cons.mp he with q | q
        · rw [q]
          have := (h.2.2.2.2.2.2.1 (sv V w a b g i).toNat (by omega)).2.1
          show 0 ≤ vE V (sv V w a b g i).toNat ∧ vE V (sv V w a b g i).toNat ≤ 63
          unfold isRC at this
          omega
        · exact ih (b - (i + lnC (vC' V (sv V w a b g i).toNat))).toNat (by omega) _ rfl (fun j a1 a2 => hl j (by omega) a2) e q
theorem aEv_cl {V : BV} (h : vOk V) (w : Int) : ∀ (d : Nat) (i : Int), d = (vN V - i).toNat → 0 ≤ i → ∀ e ∈ aEv V w i, isCl e.1 := by
  intro d
  induction d using Nat.strongRecOn with
  | ind d ih =>
    intro i hd i0 e he
    by_cases hb : vN V ≤ i
    · rw [aEv_end hb] at he; exact absurd he List.not_mem_nil
    · by_cases hl : isLt (vS V i)
      · rw [aEv_word h (by omega) hl] at he
        have hw := we_gt h (i := i) (by omega) hl
        have hws := we_spec (n := vN V) (S := vS V) (i := i) (by omega) h.nl
        rcases List.mem_append.mp he with q | q
        · unfold wdE at q
          rcases List.mem_append.mp q with q | q
          · unfold hdE at q
            rcases List.mem_append.mp q with q | q
            · split at q
              · rw [List.mem_singleton.mp q]; show (0 : Int) ≤ 62 ∧ (62 : Int) ≤ 63; omega
              · exact absurd q List.not_mem_nil
            · split at q
              · rcases List.mem_cons.mp q with q | q
                · rw [q]; show (0 : Int) ≤ 60 ∧ (60 : Int) ≤ 63; omega
                · rw [List.mem_singleton.mp q]; show (0 : Int) ≤ 60 ∧ (60 : Int) ≤ 63; omega
              · exact absurd q List.not_mem_nil
          · exact wEv_cl h w i _ _ _ i rfl hws.2.2.1 e q
        · exact ih (vN V - we (vN V) (vS V) i).toNat (by omega) _ rfl (by omega) e q
      · rw [aEv_sign h (by omega) hl] at he
        rcases List.mem_append.mp he with q | q
        · unfold sgE at q
          split at q
          · rename_i hf
            rcases List.mem_append.mp q with q | q
            · split at q
              · exact absurd q List.not_mem_nil
              · rw [List.mem_singleton.mp q]; show (0 : Int) ≤ 61 ∧ (61 : Int) ≤ 63; omega
            · rw [List.mem_singleton.mp q]; show 0 ≤ fgC (vS V i) ∧ fgC (vS V i) ≤ 63
              unfold fgC; unfold isFg at hf; split <;> omega
          · rw [List.mem_singleton.mp q]; show 0 ≤ mkC (vS V i) ∧ mkC (vS V i) ≤ 63
            unfold mkC; repeat' split
            all_goals omega
        · exact ih (vN V - (i + 1)).toNat (by omega) _ rfl (by omega) e q
theorem evF_cl {V : BV} (h : vOk V) (w i : Int) (i0 : 0 ≤ i) (i1 : i < (evN V w).length) : isCl (evF (evN V w) i) := by
  unfold evF
  rw [sgn_in i0 i1]
  have hj : i.toNat < ((evN V w).map fun e => e.1).length := by rw [List.length_map]; omega
  show isCl (((evN V w).map fun e => e.1).getD i.toNat 0)
  rw [gD_in _ _ hj, List.getElem_map]
  exact aEv_cl h w _ 0 rfl (Int.le_refl _) _ (List.getElem_mem _)
theorem oRule_ok {s : St} (h : stOk s) (c e k : Int) : stOk (oRule s c e k).2 := by
  unfold oRule
  split
  · exact h
  · rename_i q
    split
    · exact h
    · rename_i t
      split
      · exact h
      · rename_i r
        have q2 : vC c ∧ isRC e ∧ 0 ≤ k ∧ k ≤ 4 := Decidable.byContradiction q
        exact nx_ok h (aR_ok h.1 q2.1 q2.2.1 q2.2.2.1 q2.2.2.2 t (Int.not_le.mp r))
theorem oDrop_ok {s : St} (h : stOk s) (k : Int) : stOk (oDrop s k).2 := by
  unfold oDrop
  split
  · exact h
  · rename_i q
    have q2 : 0 ≤ k ∧ k < vR (sB s) := Decidable.byContradiction q
    exact nx_ok h (dR_ok h.1 q2.1 q2.2)
theorem oSetW_ok {s : St} (h : stOk s) (v : Int) : stOk (oSetW s v).2 := by
  unfold oSetW
  split
  · exact h
  · exact nx_ok h (sW_ok h.1 (by omega) (by omega))
theorem oSetP_ok {s : St} (h : stOk s) (v : Int) : stOk (oSetP s v).2 := by
  unfold oSetP
  split
  · exact h
  · exact nx_ok h (sP_ok h.1 (by omega) (by omega))
theorem oSet_ok {s : St} (h : stOk s) (w v : Int) : stOk (oSet s w v).2 := by
  unfold oSet
  split
  · exact oSetW_ok h v
  · split
    · exact oSetP_ok h v
    · exact h
theorem oDrift_ok {s : St} (h : stOk s) (n x : Int) : stOk (oDrift s n x).2 := by
  unfold oDrift
  split
  · exact h
  · exact nx_ok h (dft_ok _ h.1 (by omega) (by omega))
theorem oText_ok {s : St} (h : stOk s) (g : Int) : stOk (oText s g).2 := by
  unfold oText
  split
  · exact h
  · rename_i q
    split
    · exact h
    · rename_i r
      exact nx_ok h (aS_ok h.1 (Decidable.byContradiction q) (Int.not_le.mp r))
theorem oWipe_ok {s : St} (h : stOk s) : stOk (oWipe s).2 := nx_ok h (wp_ok h.1)
theorem oUndo_ok {s : St} (h : stOk s) : stOk (oUndo s).2 := by
  unfold oUndo
  split
  · exact h
  · rename_i V t q
    obtain ⟨a1, a2, a3, a4⟩ := h
    exact ⟨a3 V (by rw [q]; exact List.mem_cons_self), by rw [q] at a2; show t.length ≤ 8; simp at a2; omega, fun U hU => a3 U (by rw [q]; exact List.mem_cons_of_mem _ hU), a4⟩
theorem oFeel_ok {s : St} (h : stOk s) (c : Int) : stOk (oFeel s c).2 := by
  unfold oFeel
  split
  · exact h
  · split
    · exact h
    · rename_i r
      rename_i hc
      obtain ⟨a1, a2, a3, a4, a5, a6, a7, a8⟩ := h
      refine ⟨a1, a2, a3, a4, by show 0 ≤ sC s + 1; omega, by show sC s + 1 ≤ 240; omega, fun i hi => ?_, fun i i0 i1 => ?_⟩
      · replace hi : i < 0 ∨ sC s + 1 ≤ i := hi
        show (if i = sC s then c else sL s i) = -1
        rw [if_neg (by omega)]; exact a7 i (by omega)
      · replace i1 : i < sC s + 1 := i1
        show isCl (if i = sC s then c else sL s i)
        split
        · exact Decidable.byContradiction hc
        · exact a8 i i0 (by omega)
theorem oFeelAll_ok {s : St} (h : stOk s) : stOk (oFeelAll s).2 := by
  obtain ⟨a1, a2, a3, a4, a5⟩ := h
  have : (evN (sB s) (-1)).length ≤ 240 := aEv_240 a1 (-1) (i := 0) (Int.le_refl _)
  refine ⟨a1, a2, a3, a4, by show (0 : Int) ≤ ((evN (sB s) (-1)).length : Int); omega, by show ((evN (sB s) (-1)).length : Int) ≤ 240; omega, fun i hi => ?_, fun i i0 i1 => evF_cl a1 (-1) i i0 i1⟩
  replace hi : i < 0 ∨ ((evN (sB s) (-1)).length : Int) ≤ i := hi
  show evF (evN (sB s) (-1)) i = -1
  unfold evF
  rcases hi with q | q
  · exact sgn_lo q
  · exact sgn_hi q
theorem oRest_ok {s : St} (h : stOk s) : stOk (oRest s).2 := by
  obtain ⟨a1, a2, a3, a4, a5⟩ := h
  exact ⟨a1, a2, a3, a4, show (0 : Int) ≤ 0 by omega, show (0 : Int) ≤ 240 by omega, fun i _ => rfl, fun i i0 i1 => absurd i1 (by show ¬ i < 0; omega)⟩
theorem oKeep_ok {s : St} (h : stOk s) (k : Int) : stOk (oKeep s k).2 := by
  unfold oKeep
  split
  · exact h
  · obtain ⟨a1, a2, a3, a4, a5⟩ := h
    refine ⟨a1, Nat.zero_le _, fun V hV => absurd hV List.not_mem_nil, fun j V hV => ?_, a5⟩
    replace hV : upI (sI s) k (sB s) j = some V := hV
    unfold upI at hV
    split at hV
    · injection hV with hV; rw [← hV]; exact a1
    · exact a4 j V hV
theorem oBack_ok {s : St} (h : stOk s) (k : Int) : stOk (oBack s k).2 := by
  unfold oBack
  split
  · exact h
  · split
    · exact h
    · rename_i V q
      obtain ⟨a1, a2, a3, a4, a5⟩ := h
      exact ⟨a4 k V q, Nat.zero_le _, fun U hU => absurd hU List.not_mem_nil, a4, a5⟩
/-! the class's book -/
theorem bX_addR {M : Mem} (hb : Bx M) (c e k : Int) : bX (addR M c e k) 1 = aR (bX M 1) c e k := by
  obtain ⟨h0, _⟩ := hb
  have e4 : addR M c e k 1 4 = M 1 4 + 1 := by simp [addR, mup_at]
  have e5 : addR M c e k 1 5 = M 1 5 := by simp [addR, mup_at]
  have e6 : addR M c e k 1 6 = M 1 6 := by simp [addR, mup_at]
  have e7 : addR M c e k 1 7 = M 1 7 := by simp [addR, mup_at]
  have f5 : addR M c e k 5 = M 5 := by funext j; simp [addR, mup_at]
  have f2 : ∀ j, addR M c e k 2 j = if j = (M 1 4).toNat then c else M 2 j := fun j => by simp [addR, mup_at]
  have f3 : ∀ j, addR M c e k 3 j = if j = (M 1 4).toNat then e else M 3 j := fun j => by simp [addR, mup_at]
  have f4 : ∀ j, addR M c e k 4 j = if j = (M 1 4).toNat then k else M 4 j := fun j => by simp [addR, mup_at]
  have g : ∀ (f f2 : Nat → Int) (v : Int), (∀ j, f2 j = if j = (M 1 4).toNat then v else f j) → cut (M 1 4 + 1) f2 = fun j => if j = (M 1 4).toNat then v else cut (M 1 4) f j := by
    intro f f2 v hf
    funext j
    unfold cut
    rw [hf]
    by_cases q : j = (M 1 4).toNat
    · rw [if_pos q, if_pos q, if_pos (by omega)]
    · rw [if_neg q, if_neg q]
      by_cases p : (j : Int) < M 1 4
      · rw [if_pos p, if_pos (by omega)]
      · rw [if_neg p, if_neg (by omega)]
  show ((addR M c e k 1 5, sgn (addR M c e k 1 5) (addR M c e k 5), addR M c e k 1 4, cut (addR M c e k 1 4) (addR M c e k 2), cut (addR M c e k 1 4) (addR M c e k 3), cut (addR M c e k 1 4) (addR M c e k 4), addR M c e k 1 6, addR M c e k 1 7) : BV) = _
  rw [e4, e5, e6, e7, f5, g (M 2) _ c f2, g (M 3) _ e f3, g (M 4) _ k f4]
  rfl
theorem bX_addS {M : Mem} (hb : Bx M) (g : Int) : bX (addS M g) 1 = aS (bX M 1) g := by
  obtain ⟨_, _, h0, _⟩ := hb
  have e4 : addS M g 1 4 = M 1 4 := by simp [addS, mup_at]
  have e5 : addS M g 1 5 = M 1 5 + 1 := by simp [addS, mup_at]
  have e6 : addS M g 1 6 = M 1 6 := by simp [addS, mup_at]
  have e7 : addS M g 1 7 = M 1 7 := by simp [addS, mup_at]
  have f2 : addS M g 2 = M 2 := by funext j; simp [addS, mup_at]
  have f3 : addS M g 3 = M 3 := by funext j; simp [addS, mup_at]
  have f4 : addS M g 4 = M 4 := by funext j; simp [addS, mup_at]
  have f5 : ∀ j, addS M g 5 j = if j = (M 1 5).toNat then g else M 5 j := fun j => by simp [addS, mup_at]
  have hg : sgn (M 1 5 + 1) (addS M g 5) = fun i => if i = M 1 5 then g else sgn (M 1 5) (M 5) i := by
    funext i
    unfold sgn
    rw [f5]
    by_cases q : i = M 1 5
    · rw [if_pos q, if_pos (by omega), if_pos (by omega)]
    · rw [if_neg q]
      by_cases p : 0 ≤ i ∧ i < M 1 5
      · rw [if_pos p, if_pos (by omega), if_neg (by omega)]
      · rw [if_neg p, if_neg (by omega)]
  show ((addS M g 1 5, sgn (addS M g 1 5) (addS M g 5), addS M g 1 4, cut (addS M g 1 4) (addS M g 2), cut (addS M g 1 4) (addS M g 3), cut (addS M g 1 4) (addS M g 4), addS M g 1 6, addS M g 1 7) : BV) = _
  rw [e4, e5, e6, e7, f2, f3, f4, hg]
  rfl
theorem shf_cut {f f2 : Nat → Int} {k n : Int} (h : ∀ j : Nat, f2 j = if k ≤ j ∧ (j : Int) + 1 < n then f (j + 1) else f j) : cut (n - 1) f2 = shf (cut n f) k n := by
  unfold shf
  refine cut_congr fun i hi => ?_
  rw [h]
  by_cases q : k ≤ (i : Int)
  · rw [if_pos ⟨q, by omega⟩, if_pos q, cut_in (by omega)]
  · rw [if_neg (fun z => q z.1), if_neg q, cut_in (by omega)]
theorem bX_remR {M M2 : Mem} {k : Int} (h : remR k M M2) : bX M2 1 = dR (bX M 1) k := by
  obtain ⟨f2, f3, f4, e1, eo⟩ := h
  have e4 : M2 1 4 = M 1 4 - 1 := by rw [e1]; simp [rup]
  have e5 : M2 1 5 = M 1 5 := by rw [e1]; simp [rup]
  have e6 : M2 1 6 = M 1 6 := by rw [e1]; simp [rup]
  have e7 : M2 1 7 = M 1 7 := by rw [e1]; simp [rup]
  show ((M2 1 5, sgn (M2 1 5) (M2 5), M2 1 4, cut (M2 1 4) (M2 2), cut (M2 1 4) (M2 3), cut (M2 1 4) (M2 4), M2 1 6, M2 1 7) : BV) = _
  rw [e4, e5, e6, e7, eo 5 (by omega), shf_cut f2, shf_cut f3, shf_cut f4]
  rfl
