/-! calls, copies, ends; a method's contract -/
theorem catS_toV (ad : Nat → Nat) (st : List MV) : ((st.map (toV ad)).map fun v => v.category).sum = catS st := by
  unfold catS
  rw [List.map_map]
  congr 1
  apply List.map_congr_left
  intro v _
  exact cat_toV ad v
theorem i32_cpy {f g : Nat → Int32} {a b : Nat → Int} (h1 : ∀ i, a i = (f i).toInt) (h2 : ∀ i, b i = (g i).toInt) (sp dp n i : Nat) : cpyR a b sp dp n i = (va_cpy f g sp dp n i).toInt := by
  unfold cpyR va_cpy
  split
  · exact h1 _
  · exact h2 _
def PcM (g : WG) (av : List MV) (M : Mem) : Array Value → State → Prop := va_Pc (av.map (toV g.2.1)) (fun U => Rp g M U.heap ∧ Kn g U)
def okR (r : Option MV) : Prop := ∀ v, r = some v → okV v
def QcM (g : WG) (Ret : KR) : Array Value → State → Outcome → State → Prop := fun _ st oc t => (∃ (r : Option MV) (M' : Mem), oc = .returned (r.map (toV g.2.1)) ∧ Ret r M' ∧ okR r ∧ Rp g M' t.heap) ∧ va_F g.2.2.2 st t
def rmZ (fr lo : Nat) : Room := { frames := fr, cells := 0, slots := 0, locals := lo }
/-- a method's contract: from every memory and arguments with sp it ends as sp says -/
def Ctr (y : MethodName) (cc : ByteArray) (nL : Nat) (ret : Option FieldType) (fr lo : Nat) (sp : SP) : Prop :=
  ∀ (l : Launch) (g : WG) (av : List MV) (M : Mem) (Ret : KR), sp av M Ret → (∀ v ∈ av, okV v) → adOk g → Met l y (.code y cc nL ret :: TB) (rmZ fr lo) (PcM g av M) (QcM g Ret) 0 0 g.2.2.2
theorem PcM_blind (g : WG) (av : List MV) (M : Mem) : FrameBlind (PcM g av M) := fun _ _ _ _ h => ⟨h.1, h.2.1, h.2.2.call⟩
section WCALL
variable {p : Program} {l : Launch} {e : Env} {R : Room} {s : State} {m : MethodId} {args : Array Value} {below : List Frame} {meth : Method} {c : Code} {H : Heap} {locs : List Loc} {cells slots : Nat} {Q : State → Prop}
theorem w_callR {pc : Nat} {ls : Array Slot} {rest st0 : List Value} {Qa : State → Outcome → State → Prop} {free : Addr → Prop} (hr : va_Run p l e R s m args below meth c H locs cells slots 0 0 (F0 m pc ls st0) rest Qa free)
    (kk : ∀ (v : Option Value) (st₀ t : State) (L : List Loc), st₀.heap = H → Qa st₀ (.returned v) t → (∀ q ∈ L, free q.base) → W p l e R s m args below meth c t.heap (locs ++ L) cells slots Q (F0 m (pc + 3) ls (v.toList ++ rest))) : W p l e R s m args below meth c H locs cells slots Q (F0 m pc ls st0) := by
  intro T hT X
  obtain ⟨v, st₀, t, T', L, h0, X', hL, e1, e2, hq, st⟩ := hr T hT X
  obtain ⟨t2, a1, b1⟩ := kk v st₀ t L h0 hq hL T' e1 X'
  exact ⟨t2, st t2 a1, b1⟩
end WCALL
section SND4
variable {own : String} {cc : ByteArray} {nL fr lo : Nat} {ret : Option FieldType} {sx : Option (Nat × (Nat → Int))} {pcs : List Nat} {ip : Nat}
theorem s_min {index : Nat} (hw : Cond.methodLink own index Lib.Math.min.name ∈ TB) (hw2 : Cond.static Lib.Math.min.name ∈ TB) (hw3 : Cond.initialized "java/lang/Math" ∈ TB) (hw4 : Cond.code Lib.Math.min.name Lib.Math.min.code 2 (some .int) ∈ TB) (hfr : 1 ≤ fr) (hlo : 21 ≤ lo)
    (hd : decode cc (pcs.getD ip 0) = .ok (.invokestatic index, 3)) (hn : pcs.getD (ip + 1) 0 = pcs.getD ip 0 + 3) : Snd own cc nL fr lo ret sx pcs ip I_min := by
  intro p l e R s m args below meth c Q nC nS g Ret hC hRm hSx hHR ls st M h H locs lsA hR hS hL hok
  obtain ⟨x, y, r, rfl, hcat, h⟩ := h
  obtain ⟨hx, hb, hml, hown, hts, hKn, hA⟩ := hC
  have hy' : InR y := ok_h hok
  have hx' : InR x := ok_h (ok_t hok)
  have hv : InR (if y < x then y else x) := by split <;> assumption
  have h' := h H locs lsA hR hS hL (ok_c hv (ok_t (ok_t hok)))
  rw [hn] at h'
  refine va_mmin hx hb (by rw [hml, hL.1]) hown (hts _ hw) (hts _ hw2) (hts _ hw3) (hts _ hw4) (Nat.le_trans hfr hRm.1) ?_ hRm.2.2.1 hRm.2.2.2 hd ?_
  · have := catS_toV g.2.1 r
    have h2 := hRm.2.1
    show ((r.map (toV g.2.1)).map fun v => v.category).sum + 13 ≤ _
    omega
  · have e : (if Int32.ofInt y < Int32.ofInt x then Int32.ofInt y else Int32.ofInt x) = Int32.ofInt (if y < x then y else x) := by
      by_cases q : y < x
      · rw [if_pos q, if_pos ((i32_lt hy' hx').mpr q)]
      · rw [if_neg q, if_neg (fun z => q ((i32_lt hy' hx').mp z))]
    rw [e]
    exact h'
theorem s_max {index : Nat} (hw : Cond.methodLink own index Lib.Math.max.name ∈ TB) (hw2 : Cond.static Lib.Math.max.name ∈ TB) (hw3 : Cond.initialized "java/lang/Math" ∈ TB) (hw4 : Cond.code Lib.Math.max.name Lib.Math.max.code 2 (some .int) ∈ TB) (hfr : 1 ≤ fr) (hlo : 21 ≤ lo)
    (hd : decode cc (pcs.getD ip 0) = .ok (.invokestatic index, 3)) (hn : pcs.getD (ip + 1) 0 = pcs.getD ip 0 + 3) : Snd own cc nL fr lo ret sx pcs ip I_max := by
  intro p l e R s m args below meth c Q nC nS g Ret hC hRm hSx hHR ls st M h H locs lsA hR hS hL hok
  obtain ⟨x, y, r, rfl, hcat, h⟩ := h
  obtain ⟨hx, hb, hml, hown, hts, hKn, hA⟩ := hC
  have hy' : InR y := ok_h hok
  have hx' : InR x := ok_h (ok_t hok)
  have hv : InR (if x < y then y else x) := by split <;> assumption
  have h' := h H locs lsA hR hS hL (ok_c hv (ok_t (ok_t hok)))
  rw [hn] at h'
  refine va_mmax hx hb (by rw [hml, hL.1]) hown (hts _ hw) (hts _ hw2) (hts _ hw3) (hts _ hw4) (Nat.le_trans hfr hRm.1) ?_ hRm.2.2.1 hRm.2.2.2 hd ?_
  · have := catS_toV g.2.1 r
    have h2 := hRm.2.1
    show ((r.map (toV g.2.1)).map fun v => v.category).sum + 13 ≤ _
    omega
  · have e : (if Int32.ofInt x < Int32.ofInt y then Int32.ofInt y else Int32.ofInt x) = Int32.ofInt (if x < y then y else x) := by
      by_cases q : x < y
      · rw [if_pos q, if_pos ((i32_lt hx' hy').mpr q)]
      · rw [if_neg q, if_neg (fun z => q ((i32_lt hx' hy').mp z))]
    rw [e]
    exact h'
theorem s_copy {index : Nat} (hw : Cond.methodLink own index arraycopyName ∈ TB) (hw2 : Cond.native arraycopyName ∈ TB) (hw3 : Cond.static arraycopyName ∈ TB) (hw4 : Cond.initialized "java/lang/System" ∈ TB) (hfr : 1 ≤ fr) (hlo : 26 ≤ lo)
    (hd : decode cc (pcs.getD ip 0) = .ok (.invokestatic index, 3)) (hn : pcs.getD (ip + 1) 0 = pcs.getD ip 0 + 3) : Snd own cc nL fr lo ret sx pcs ip I_copy := by
  intro p l e R s m args below meth c Q nC nS g Ret hC hRm hSx hHR ls st M h H locs lsA hR hS hL hok
  obtain ⟨n, dp, d, sp, sr, r, n0, n1, rfl, hs0, hs1, h0, h1, h2, h3, h4, hcat, h⟩ := h
  obtain ⟨hx, hb, hml, hown, hts, hKn, hA⟩ := hC
  obtain ⟨m32, m64, hM, hP⟩ := id hR
  have hn' : InR n := ok_h hok
  have hdp : InR dp := ok_h (ok_t hok)
  have hsp : InR sp := ok_h (ok_t (ok_t (ok_t hok)))
  refine va_copyi (ty := .int) hx hb (by rw [hml, hL.1]) hown (hts _ hw) (hts _ hw2) (hts _ hw3) (hts _ hw4) hKn.1 hP (wsOf_D hA m32 m64) hS sr d 0 0 (wsOf_get g m32 m64 hs0) (wsOf_get g m32 m64 hs1) rfl rfl rfl (by rw [i32_lt0 hsp]; omega) (by rw [i32_lt0 hdp]; omega) (by rw [i32_lt0 hn']; omega) (by rw [i32_nat hsp, i32_nat hn']; omega) (by rw [i32_nat hdp, i32_nat hn']; omega) (fun _ _ => rfl) (Nat.le_trans hfr hRm.1) ?_ hd fun H1 locs1 hP1 _ hS1 => ?_
  · have := catS_toV g.2.1 r
    have h2 := hRm.2.1
    have e : nativeFrameWords "java/lang/System" "arraycopy" 5 = 7 := by decide
    show ((r.map (toV g.2.1)).map fun v => v.category).sum + _ ≤ _
    omega
  · rw [i32_nat hsp, i32_nat hdp, i32_nat hn'] at hP1
    let n32 : Nat → Nat → Int32 := fun j => if j = d then va_cpy (m32 sr) (m32 d) sp.toNat dp.toNat n.toNat else m32 j
    have ed : n32 d = va_cpy (m32 sr) (m32 d) sp.toNat dp.toNat n.toNat := by simp [n32]
    have e := wsOf_set g (m32 := m32) (n32 := n32) (m64 := m64) (n64 := m64) hs1 (fun j hj => by simp [n32, hj]) (fun _ _ => rfl)
    have hP2 : va_P g.1 vwCl ((wsOf g m32 m64).set d (g.2.1 d, ent g n32 m64 d (.inr (.inl (0, n1))))) H1 := by
      have e2 : ent g n32 m64 d (.inr (.inl (0, n1))) = .inl (g.2.2.1.1, n1, .inl (va_cpy (m32 sr) (m32 d) sp.toNat dp.toNat n.toNat)) := by
        show Sum.inl (_, n1, Sum.inl (n32 d)) = _
        rw [ed]; rfl
      rw [e2]
      exact hP1
    rw [e] at hP2
    have hM2 : MR n32 m64 (srow M d (cpyR (M sr) (M d) sp.toNat dp.toNat n.toNat)) := by
      intro j i
      by_cases hj : j = d
      · subst hj
        rw [srow_same, isL_arr hs1, ed]
        exact i32_cpy (fun i => by rw [hM sr i, isL_arr hs0]; rfl) (fun i => by rw [hM j i, isL_arr hs1]; rfl) _ _ _ _
      · rw [srow_ne _ _ hj]
        have e3 : n32 j = m32 j := by simp [n32, hj]
        rw [e3]
        exact hM j i
    have h' := h H1 locs1 lsA ⟨_, _, hM2, hP2⟩ hS1 hL (ok_t (ok_t (ok_t (ok_t (ok_t hok)))))
    rw [hn] at h'
    exact h'
theorem ok_app {a b : List MV} (h : ∀ v ∈ a ++ b, okV v) : (∀ v ∈ a, okV v) ∧ ∀ v ∈ b, okV v := ⟨fun v hv => h v (List.mem_append_left _ hv), fun v hv => h v (List.mem_append_right _ hv)⟩
/-- behind any call -/
theorem after_call {p : Program} {l : Launch} {e : Env} {R : Room} {s : State} {m : MethodId} {args : Array Value} {below : List Frame} {meth : Method} {c : Code} {Q : State → Prop} {nC nS : Nat} {g : WG} {H : Heap} {locs : List Loc} {lsA : Array Slot} {ls : List (Option MV)} {r : List MV} {st0 : List Value} {a : Array Value} (hn : pcs.getD (ip + 1) 0 = pcs.getD ip 0 + 3)
    (hS : va_S g.2.2.2 s.heap H locs) (hL : LR g.2.1 nL lsA ls) (hok : ∀ v ∈ r, okV v)
    (hr : va_Run p l e R s m args below meth c H locs nC nS 0 0 (F0 m (pcs.getD ip 0) lsA st0) (r.map (toV g.2.1)) (QcM g (fun v M' => ZW p l e R s m args below meth c Q nC nS g nL pcs (ip + 1) ls (v.toList ++ r) M') a) g.2.2.2) : W p l e R s m args below meth c H locs nC nS Q (F0 m (pcs.getD ip 0) lsA st0) := by
  refine w_callR hr fun v st₀ t L h0 hq hL2 => ?_
  obtain ⟨⟨r', M', hv, hZ, hok2, hR2⟩, hz, hk⟩ := hq
  cases hv
  rw [h0] at hz hk
  have hS2 : va_S g.2.2.2 s.heap t.heap (locs ++ L) := ⟨Nat.le_trans hS.1 hz, fun q h1 h2 => by
      rw [hk q (Nat.lt_of_lt_of_le h1 hS.1) h2]; exact hS.2.1 q h1 h2, fun q hq => by
      rcases List.mem_append.mp hq with h | h
      · exact hS.2.2 q h
      · exact hL2 q h⟩
  have h' := hZ t.heap (locs ++ L) lsA hR2 hS2 hL (fun w hw => by
    rcases List.mem_append.mp hw with h | h
    · exact hok2 w (by simpa using h)
    · exact hok w h)
  rw [hn] at h'
  have e : (r'.map (toV g.2.1)).toList ++ r.map (toV g.2.1) = (r'.toList ++ r).map (toV g.2.1) := by
    cases r' <;> simp
  rw [e]
  exact h'
theorem s_callV {ci n index nL' fr' lo' N : Nat} {C : String} {T : u_T} {y : MethodName} {cy : ByteArray} {ry : Option FieldType} {sp : SP} (hc : vwCl[ci]? = some (C, T, N)) (hM : Ctr y cy nL' ry fr' lo' sp) (hfr : fr' + 1 ≤ fr) (hlo : 8 + (nL' + 11) + lo' ≤ lo) (hy : y.cls = C ∧ y.cls ≠ "java/lang/invoke/MethodHandle" ∧ y.cls ≠ "java/lang/invoke/VarHandle" ∧ (parseMethodDescriptor y.desc).map (fun d => d.parameters.length) = some n)
    (h1 : Cond.methodLink own index y ∈ TB) (h2 : Cond.instanceMethod y ∈ TB) (h3 : Cond.selects C y y ∈ TB) (h4 : Cond.initialized C ∈ TB) (h5 : Cond.code y cy nL' ry ∈ TB)
    (hd : decode cc (pcs.getD ip 0) = .ok (.invokevirtual index, 3)) (hn : pcs.getD (ip + 1) 0 = pcs.getD ip 0 + 3) : Snd own cc nL fr lo ret sx pcs ip (I_callV ci n sp) := by
  intro p l e R s m args below meth c Q nC nS g Ret hC hRm hSx hHR ls st M h H locs lsA hR hS hL hok
  obtain ⟨As, o, r, q, rfl, hlen, hsh, hq, hcat, h⟩ := h
  obtain ⟨hx, hb, hml, hown, hts, hKn, hA⟩ := hC
  obtain ⟨m32, m64, hMr, hP⟩ := id hR
  subst hq
  obtain ⟨ok1, ok2⟩ := ok_app hok
  have hMet := hM l g (mr o :: As) M _ h (fun v hv => by
    rcases List.mem_cons.mp hv with q | q
    · rw [q]; trivial
    · exact ok1 v (List.mem_reverse.mpr q)) hA
  have hT : GoodIn TB (wsV own index C y (.code y cy nL' ry :: TB)) := by
    intro w hw
    have hw' : w = .methodLink own index y ∨ w = .instanceMethod y ∨ w = .selects C y y ∨ w = .initialized C ∨ w ∈ Cond.code y cy nL' ry :: TB := by
      simpa [wsV] using hw
    have hm : w ∈ TB := by
      rcases hw' with rfl | rfl | rfl | rfl | hw'
      · exact h1
      · exact h2
      · exact h3
      · exact h4
      · exact (TB_self h5 w hw').1
    exact ⟨hm, TB_good w hm⟩
  have cw := cwV (R := R) (own := own) (index := index) (C := C) (rm := rmZ fr' lo') n hts hT rfl rfl rfl hy ⟨Nat.le_trans hfr hRm.1, Nat.le_trans hlo hRm.2.1⟩
  have hrun := va_runV (below := below) (meth := meth) (e := e) (locs := locs) (cells := nC) (slots := nS) (As := As.map (toV g.2.1)) (rest := r.map (toV g.2.1)) (b := g.2.1 o) (g := F0 m (pcs.getD ip 0) lsA ((As.reverse ++ mr o :: r).map (toV g.2.1))) ⟨hx, hb, hml, hown, hts⟩ hMet cw
    ⟨PcM_blind g _ M, va_recv hKn.1 hP hc (wsOf_get g m32 m64 hsh), fun U hU hW => ⟨rfl, by rw [hU]; exact hR, hKn.warm hW⟩⟩ rfl (by rw [List.length_map]; exact hlen) (hL.1) (by simp [List.map_reverse]; rfl) (by
      show 2 * 0 + ((r.map (toV g.2.1)).map fun v => v.category).sum ≤ 8
      have := catS_toV g.2.1 r
      omega) hd ⟨hRm.2.2.1, hRm.2.2.2⟩
  exact after_call hn hS hL (ok_t ok2) hrun
theorem s_callS {n index nL' fr' lo' : Nat} {y : MethodName} {cy : ByteArray} {ry : Option FieldType} {sp : SP} (hM : Ctr y cy nL' ry fr' lo' sp) (hfr : fr' + 1 ≤ fr) (hlo : 8 + (nL' + 11) + lo' ≤ lo) (hy : y.cls ≠ "java/lang/invoke/MethodHandle" ∧ y.cls ≠ "java/lang/invoke/VarHandle" ∧ (parseMethodDescriptor y.desc).map (fun d => d.parameters.length) = some n)
    (h1 : Cond.methodLink own index y ∈ TB) (h2 : Cond.static y ∈ TB) (h4 : Cond.initialized y.cls ∈ TB) (h5 : Cond.code y cy nL' ry ∈ TB)
    (hd : decode cc (pcs.getD ip 0) = .ok (.invokestatic index, 3)) (hn : pcs.getD (ip + 1) 0 = pcs.getD ip 0 + 3) : Snd own cc nL fr lo ret sx pcs ip (I_callS n sp) := by
  intro p l e R s m args below meth c Q nC nS g Ret hC hRm hSx hHR ls st M h H locs lsA hR hS hL hok
  obtain ⟨As, r, rfl, hlen, hcat, h⟩ := h
  obtain ⟨hx, hb, hml, hown, hts, hKn, hA⟩ := hC
  obtain ⟨ok1, ok2⟩ := ok_app hok
  have hMet := hM l g As M _ h (fun v hv => ok1 v (List.mem_reverse.mpr hv)) hA
  have hT : GoodIn TB (va_wsS own index y (.code y cy nL' ry :: TB)) := by
    intro w hw
    have hw' : w = .methodLink own index y ∨ w = .static y ∨ w = .initialized y.cls ∨ w ∈ Cond.code y cy nL' ry :: TB := by
      simpa [va_wsS] using hw
    have hm : w ∈ TB := by
      rcases hw' with rfl | rfl | rfl | hw'
      · exact h1
      · exact h2
      · exact h4
      · exact (TB_self h5 w hw').1
    exact ⟨hm, TB_good w hm⟩
  have cw := va_cwS (R := R) (own := own) (index := index) (rm := rmZ fr' lo') n hts hT rfl rfl rfl hy ⟨Nat.le_trans hfr hRm.1, Nat.le_trans hlo hRm.2.1⟩
  have hrun := va_runS (below := below) (meth := meth) (e := e) (locs := locs) (cells := nC) (slots := nS) (As := As.map (toV g.2.1)) (rest := r.map (toV g.2.1)) (g := F0 m (pcs.getD ip 0) lsA ((As.reverse ++ r).map (toV g.2.1))) ⟨hx, hb, hml, hown, hts⟩ hMet cw
    ⟨PcM_blind g _ M, fun U hU hW => ⟨rfl, by rw [hU]; exact hR, hKn.warm hW⟩⟩ rfl (by rw [List.length_map]; exact hlen) (hL.1) (by simp [List.map_reverse]) (by
      show 2 * 0 + ((r.map (toV g.2.1)).map fun v => v.category).sum ≤ 8
      have := catS_toV g.2.1 r
      omega) hd ⟨hRm.2.2.1, hRm.2.2.2⟩
  exact after_call hn hS hL ok2 hrun
theorem s_callN {n index nL' fr' lo' : Nat} {y : MethodName} {host : String} {cy : ByteArray} {ry : Option FieldType} {sp : SP} (hM : Ctr y cy nL' ry fr' lo' sp) (hfr : fr' + 1 ≤ fr) (hlo : 8 + (nL' + 11) + lo' ≤ lo) (hy : y.cls ≠ "java/lang/invoke/MethodHandle" ∧ y.cls ≠ "java/lang/invoke/VarHandle" ∧ (parseMethodDescriptor y.desc).map (fun d => d.parameters.length) = some n)
    (h1 : (own, index, y, host) ∈ NWl) (h2 : Cond.static y ∈ TB) (h4 : Cond.initialized y.cls ∈ TB) (h5 : Cond.code y cy nL' ry ∈ TB)
    (hd : decode cc (pcs.getD ip 0) = .ok (.invokestatic index, 3)) (hn : pcs.getD (ip + 1) 0 = pcs.getD ip 0 + 3) : Snd own cc nL fr lo ret sx pcs ip (I_callS n sp) := by
  intro p l e R s m args below meth c Q nC nS g Ret hC hRm hSx hHR ls st M h H locs lsA hR hS hL hok
  obtain ⟨As, r, rfl, hlen, hcat, h⟩ := h
  obtain ⟨hx, hb, hml, hown, hts, hKn, hA⟩ := hC
  obtain ⟨ok1, ok2⟩ := ok_app hok
  have hMet := hM l g As M _ h (fun v hv => ok1 v (List.mem_reverse.mpr hv)) hA
  have cw := va_cnB (R := R) (own := own) (index := index) (host := host) (rm := rmZ fr' lo') n hts (TB_self h5) rfl rfl rfl (hKn.2 _ h1) (hts _ h4) hy ⟨Nat.le_trans hfr hRm.1, Nat.le_trans hlo hRm.2.1⟩
  have hrun := va_runSN (below := below) (meth := meth) (e := e) (locs := locs) (cells := nC) (slots := nS) (As := As.map (toV g.2.1)) (rest := r.map (toV g.2.1)) (g := F0 m (pcs.getD ip 0) lsA ((As.reverse ++ r).map (toV g.2.1))) ⟨hx, hb, hml, hown, hts⟩ hMet ⟨cw, hts _ h2, trivial⟩
    ⟨PcM_blind g _ M, fun U hU hW => ⟨rfl, by rw [hU]; exact hR, hKn.warm hW⟩⟩ rfl (by rw [List.length_map]; exact hlen) (hL.1) (by simp [List.map_reverse]) (by
      show 2 * 0 + ((r.map (toV g.2.1)).map fun v => v.category).sum ≤ 8
      have := catS_toV g.2.1 r
      omega) hd ⟨hRm.2.2.1, hRm.2.2.2⟩
  exact after_call hn hS hL ok2 hrun
theorem s_iret (hret : ret = some .int) (hd : decode cc (pcs.getD ip 0) = .ok (.ireturn, 1)) : Snd own cc nL fr lo ret sx pcs ip I_iret := by
  intro p l e R s m args below meth c Q nC nS g Ret hC hRm hSx hHR ls st M h H locs lsA hR hS hL hok
  obtain ⟨z, rfl, h⟩ := h
  exact (hHR _ H locs lsA M hR hS).2 z hd (ok_h hok) (Or.inl hret) h
theorem s_zret (hret : ret = some .boolean) (hd : decode cc (pcs.getD ip 0) = .ok (.ireturn, 1)) : Snd own cc nL fr lo ret sx pcs ip I_zret := by
  intro p l e R s m args below meth c Q nC nS g Ret hC hRm hSx hHR ls st M h H locs lsA hR hS hL hok
  obtain ⟨z, rfl, hz, h⟩ := h
  exact (hHR _ H locs lsA M hR hS).2 z hd (ok_h hok) (Or.inr ⟨hret, hz⟩) h
theorem s_vret (hret : ret = none) (hd : decode cc (pcs.getD ip 0) = .ok (.return_, 1)) : Snd own cc nL fr lo ret sx pcs ip I_vret := by
  intro p l e R s m args below meth c Q nC nS g Ret hC hRm hSx hHR ls st M h H locs lsA hR hS hL hok
  obtain ⟨rfl, h⟩ := h
  exact (hHR _ H locs lsA M hR hS).1 hd hret h
end SND4
/-- all instructions of a code are sound -/
def AllOk (own : String) (cc : ByteArray) (nL fr lo : Nat) (ret : Option FieldType) (sx : Option (Nat × (Nat → Int))) (pcs : List Nat) : Nat → List Sem → Prop
  | _, [] => True
  | n, sem :: r => Snd own cc nL fr lo ret sx pcs n sem ∧ AllOk own cc nL fr lo ret sx pcs (n + 1) r
theorem AllOk.at {own : String} {cc : ByteArray} {nL fr lo : Nat} {ret : Option FieldType} {sx : Option (Nat × (Nat → Int))} {pcs : List Nat} : ∀ {code : List Sem} {n : Nat}, AllOk own cc nL fr lo ret sx pcs n code → ∀ {i : Nat} {sem : Sem}, code[i]? = some sem → Snd own cc nL fr lo ret sx pcs (n + i) sem
  | [], n, _, i, sem, hi => by simp at hi
  | s :: r, n, h, 0, sem, hi => by simp at hi; subst hi; exact h.1
  | s :: r, n, h, i + 1, sem, hi => by
    have := AllOk.at h.2 (i := i) (sem := sem) (by simpa using hi)
    rw [show n + (i + 1) = n + 1 + i by omega]
    exact this
theorem AllOk.app {own : String} {cc : ByteArray} {nL fr lo : Nat} {ret : Option FieldType} {sx : Option (Nat × (Nat → Int))} {pcs : List Nat} : ∀ {a b : List Sem} {n : Nat}, AllOk own cc nL fr lo ret sx pcs n a → AllOk own cc nL fr lo ret sx pcs (n + a.length) b → AllOk own cc nL fr lo ret sx pcs n (a ++ b)
  | [], b, n, _, h => by simpa using h
  | s :: a, b, n, h, h2 => ⟨h.1, AllOk.app h.2 (by rw [show n + 1 + a.length = n + (s :: a).length by simp; omega]; exact h2)⟩
theorem AllOk.sim {own : String} {cc : ByteArray} {nL fr lo : Nat} {ret : Option FieldType} {sx : Option (Nat × (Nat → Int))} {pcs : List Nat} {code : List Sem} (h : AllOk own cc nL fr lo ret sx pcs 0 code)
    {p : Program} {l : Launch} {e : Env} {R : Room} {s : State} {m : MethodId} {args : Array Value} {below : List Frame} {meth : Method} {c : Code} {Q : State → Prop} {nC nS : Nat} {g : WG} {Ret : KR}
    (hC : Cx p s m args c own cc nL g) (hRm : Rm R nC nS fr lo) (hSx : Sx s g sx) (hHR : HR p l e R s m args below meth c Q nC nS g cc ret Ret) : Sim code (ZW p l e R s m args below meth c Q nC nS g nL pcs) Ret := by
  refine ⟨fun ip ls st M sem hs hh => ?_, fun ip ls st M i hh => ?_⟩
  · have := h.at hs
    rw [Nat.zero_add] at this
    exact this p l e R s m args below meth c Q nC nS g Ret hC hRm hSx hHR ls st M hh
  · intro H locs lsA hR hS hL hok
    refine hh H locs lsA hR hS ⟨hL.1, hL.2.1, by rw [List.length_set]; exact hL.2.2.1, fun j v hj => ?_⟩ hok
    refine hL.2.2.2 j v ?_
    by_cases q : j = i
    · subst q
      have hl : j < ls.length := by
        have := (List.getElem?_eq_some_iff.mp hj).1
        rwa [List.length_set] at this
      rw [List.getElem?_set_self hl] at hj
      cases hj
    · rwa [List.getElem?_set_ne (Ne.symm q)] at hj
/-- THE CONTRACT OF A METHOD out of a walk over the small machine -/
theorem ctr_of {y : MethodName} {cc : ByteArray} {nL fr lo : Nat} {ret : Option FieldType} {sp : SP} {pcs : List Nat} {code : List Sem} (hy : plainName y.cls = true) (hall : AllOk y.cls cc nL fr lo ret none pcs 0 code) (hpc : pcs.getD 0 0 = 0)
    (body : ∀ (av : List MV) (M : Mem) (Ret : KR), sp av M Ret → (∀ v ∈ av, okV v) → MOk M → (initA av).length ≤ nL ∧ ∀ Z : KZ, Sim code Z Ret → Z 0 (initL nL av) [] M) : Ctr y cc nL ret fr lo sp := by
  intro l g av M Ret hsp hok hA
  refine Met.ofW (cc := cc) (maxL := nL) (ret := ret) hy rfl ?_
  intro p e s m args below meth c s₁ B hml hv
  obtain ⟨rfl, hR, hKn⟩ := hv
  have hx := B.exec
  have hb := B.bytes
  have hr := B.returns
  have hts0 := atoms_spec (ws := Cond.code y cc nL ret :: TB) B.pre
  have hts : ∀ w ∈ TB, w.before (av.map (toV g.2.1)).toArray s = true := fun w h => hts0 w (List.mem_cons_of_mem _ h)
  have hown : s.vm.findClass y.cls = some m.cls := findClass_of_methodNamed B.named
  have hlocks := B.notSynchronized
  obtain ⟨hlen, hbody⟩ := body av M Ret hsp hok hR.mok
  have hC : Cx p s m (av.map (toV g.2.1)).toArray c y.cls cc nL g := ⟨hx, hb, hml, hown, hts, hKn, hA⟩
  have hHR : HR p l e (headSpec (Cond.code y cc nL ret :: TB) (rmZ fr lo)).room s m (av.map (toV g.2.1)).toArray below meth c (MQ below (QcM g Ret) (av.map (toV g.2.1)).toArray s 0 0 g.2.2.2) 0 0 g cc ret Ret := by
    intro pc H locs lsA M2 hR2 hS2
    refine ⟨fun hd hrn hret => ?_, fun z hd hz hrt hret => ?_⟩
    · exact W.vret hx hb (by rw [hr, hrn]) (fun t ht hW => ⟨⟨none, M2, rfl, hret, fun v h => (by cases h), by rw [ht]; exact hR2⟩, hS2.F ht⟩) hS2.2.2 hd
    · rcases hrt with hrt | ⟨hrt, hz01⟩
      · exact W.zret (ty := .int) hx hb (by rw [hr, hrt]) rfl (fun t ht hW => ⟨⟨some (mi z), M2, rfl, hret, fun v h => by cases h; exact hz, by rw [ht]; exact hR2⟩, hS2.F ht⟩) hS2.2.2 hd
      · exact W.zret (ty := .boolean) hx hb (by rw [hr, hrt]) (bool_nar hz01).1 (fun t ht hW => ⟨⟨some (mi z), M2, rfl, hret, fun v h => by cases h; exact hz, by rw [ht]; exact hR2⟩, hS2.F ht⟩) hS2.2.2 hd
  have hsim := hall.sim (l := l) (e := e) (below := below) (meth := meth) hC (R := (headSpec (Cond.code y cc nL ret :: TB) (rmZ fr lo)).room) (nC := 0) (nS := 0) ⟨Nat.le_refl _, Nat.le_refl _, Nat.le_refl _, Nat.le_refl _⟩ (fun _ _ h => by cases h) hHR
  have hZ := hbody _ hsim s.heap [] _ hR va_S.rf (initL_LR g.2.1 hlen hok) (fun _ h => by cases h)
  rw [lg_entry_eq]
  rw [hpc] at hZ
  exact hZ
