/-! CONSTRUCTORS -/
theorem tw_obj : Cond.code Lib.objectInit ⟨#[0xb1]⟩ 1 none ∈ TB := tg (tl1 18 rfl) rfl
def KU (D : va_G) (cI cZ cO : ClassId) (U : State) : Prop := va_K D vwCl [(cI, .int), (cZ, .boolean), (cO, .object RX0)] U ∧ va_AO RX0 U ∧ ∀ q ∈ NWl, va_Nw (.methodLinkNest q.1 q.2.1 q.2.2.1 q.2.2.2) U
theorem KU.warm {D : va_G} {cI cZ cO : ClassId} {s U : State} (hW : s.WarmedH U.vm) (h : KU D cI cZ cO s) : KU D cI cZ cO U := ⟨va_K.moved hW.alike h.1, va_AO.moved hW.alike h.2.1, fun q hq => va_Nw.warmM hW (h.2.2 q hq)⟩
theorem KU.call {D : va_G} {cI cZ cO : ClassId} {U : State} {f : JFrame} {mk : MethodId} {a : Array Value} (h : KU D cI cZ cO U) : KU D cI cZ cO (U.calling f mk a) := ⟨va_K.moved (u := U) (U := U.calling f mk a) (Vm.Alike.refl U.vm) h.1, va_AO.moved (u := U) (U := U.calling f mk a) (Vm.Alike.refl U.vm) h.2.1, fun q hq => va_Nw.same rfl rfl (h.2.2 q hq)⟩
theorem nwI {D : va_G} {cl : List vw_C} {cI cZ cO cA : ClassId} {s : State} (h : va_K D cl ([(cI, .int), (cZ, .boolean), (cO, .object RX0)] ++ [(cA, .int)]) s) : cA = cI := by
  have h1 : s.vm.findClass ("[" ++ FieldType.int.toString) = some cA := (h.2 3 (cA, .int) rfl).2
  have h2 : s.vm.findClass ("[" ++ FieldType.int.toString) = some cI := (h.2 0 (cI, .int) rfl).2
  exact Option.some.inj (h1.symm.trans h2)
theorem nwZ {D : va_G} {cl : List vw_C} {cI cZ cO cA : ClassId} {s : State} (h : va_K D cl ([(cI, .int), (cZ, .boolean), (cO, .object RX0)] ++ [(cA, .boolean)]) s) : cA = cZ := by
  have h1 : s.vm.findClass ("[" ++ FieldType.boolean.toString) = some cA := (h.2 3 (cA, .boolean) rfl).2
  have h2 : s.vm.findClass ("[" ++ FieldType.boolean.toString) = some cZ := (h.2 1 (cZ, .boolean) rfl).2
  exact Option.some.inj (h1.symm.trans h2)
theorem nwO {D : va_G} {cl : List vw_C} {cI cZ cO cA : ClassId} {s : State} (h : va_K D cl ([(cI, .int), (cZ, .boolean), (cO, .object RX0)] ++ [(cA, .object RX0)]) s) : cA = cO := by
  obtain ⟨_, _, _, _, _, h1⟩ := (h.2 3 (cA, .object RX0) rfl).2
  obtain ⟨_, _, _, _, _, h2⟩ := (h.2 2 (cO, .object RX0) rfl).2
  exact Option.some.inj (h1.symm.trans h2)
def MkI (l : Launch) (D : va_G) (cI cZ cO : ClassId) (y : MethodName) (cc : ByteArray) (nL fr lo mc ms : Nat) (av : List Value) (W0 : va_W) (P1 : va_W → Prop) : Prop :=
  ∀ sz : Nat, Met l y (.code y cc nL none :: TB) { frames := fr, cells := mc, slots := ms, locals := lo } (va_Pc av (fun U => U.heap.size = sz ∧ va_P D vwCl W0 U.heap ∧ KU D cI cZ cO U ∧ va_D (fun _ => True) W0)) (va_Qv (fun w1 : va_W => P1 w1) (fun w1 t => va_P D vwCl w1 t.heap ∧ va_D (va_A W0 sz) w1) (va_A W0 sz)) mc ms (va_A W0 sz)
section CTOR
variable {p : Program} {l : Launch} {e : Env} {R : Room} {s : State} {m : MethodId} {args : Array Value} {below : List Frame} {meth : Method} {c : Code} {H : Heap} {locs : List Loc} {cells slots : Nat} {Q : State → Prop}
variable {cc : ByteArray} {pc : Nat} {ls : Array Slot} {rest : List Value} {D : va_G} {A : Nat → Prop} {ws wr W0 : va_W} {H0 : Heap} {cI cZ cO : ClassId}
theorem w_newI (hexec : p.tables.exec = Jvm.exec) (hb : c.code = cc) (harr : (Cond.arrayClass .int).before args s = true) (hK : va_K D vwCl [(cI, .int), (cZ, .boolean), (cO, .object RX0)] s) (hP : va_P D vwCl ws H) (hD : va_D A ws) (hS : va_S A H0 H locs) (hA : ∀ q, H0.size ≤ q → A q)
    {n : Int32} {N' : Nat} (hn : ¬ n < 0) (hN : n.toNatClampNeg = N') (hbytes : N' * componentBytes .int ≤ 536870912) (hcells : cells + 1 ≤ R.cells) (hslots : slots + N' ≤ R.slots) (hdg : decode cc pc = .ok (.newarray .int, 2))
    (kk : ∀ (q : Nat) (H1 : Heap), va_P D vwCl (ws ++ [(q, .inl (cI, N', .inl fun _ => 0))]) H1 → va_D A (ws ++ [(q, .inl (cI, N', .inl fun _ => 0))]) → va_S A H0 H1 locs → W p l e R s m args below meth c H1 locs (cells + 1) (slots + N') Q (F0 m (pc + 2) ls (.ref q :: rest))) : W p l e R s m args below meth c H locs cells slots Q (F0 m pc ls (.int n :: rest)) := by
  refine va_newa (atype := .int) (ty := .int) (a0 := (N', .inl fun _ => 0)) hexec hb harr rfl hK hP hD hS hA (fun _ => rfl) hn hN hbytes hcells hslots hdg fun q cA H1 hK2 hP1 hD1 hS1 => ?_
  obtain rfl := nwI hK2
  exact kk q H1 hP1 hD1 hS1
theorem w_newZ (hexec : p.tables.exec = Jvm.exec) (hb : c.code = cc) (harr : (Cond.arrayClass .boolean).before args s = true) (hK : va_K D vwCl [(cI, .int), (cZ, .boolean), (cO, .object RX0)] s) (hP : va_P D vwCl ws H) (hD : va_D A ws) (hS : va_S A H0 H locs) (hA : ∀ q, H0.size ≤ q → A q)
    {n : Int32} {N' : Nat} (hn : ¬ n < 0) (hN : n.toNatClampNeg = N') (hbytes : N' * componentBytes .boolean ≤ 536870912) (hcells : cells + 1 ≤ R.cells) (hslots : slots + N' ≤ R.slots) (hdg : decode cc pc = .ok (.newarray .boolean, 2))
    (kk : ∀ (q : Nat) (H1 : Heap), va_P D vwCl (ws ++ [(q, .inl (cZ, N', .inl fun _ => 0))]) H1 → va_D A (ws ++ [(q, .inl (cZ, N', .inl fun _ => 0))]) → va_S A H0 H1 locs → W p l e R s m args below meth c H1 locs (cells + 1) (slots + N') Q (F0 m (pc + 2) ls (.ref q :: rest))) : W p l e R s m args below meth c H locs cells slots Q (F0 m pc ls (.int n :: rest)) := by
  refine va_newa (atype := .boolean) (ty := .boolean) (a0 := (N', .inl fun _ => 0)) hexec hb harr rfl hK hP hD hS hA (fun _ => rfl) hn hN hbytes hcells hslots hdg fun q cA H1 hK2 hP1 hD1 hS1 => ?_
  obtain rfl := nwZ hK2
  exact kk q H1 hP1 hD1 hS1
theorem w_newO (hexec : p.tables.exec = Jvm.exec) (hb : c.code = cc) {own : String} {index : Nat} (hown : s.vm.findClass own = some m.cls) (hclink : (Cond.classLink own index RX0).before args s = true) (hover : va_AO RX0 s) (hK : va_K D vwCl [(cI, .int), (cZ, .boolean), (cO, .object RX0)] s) (hP : va_P D vwCl ws H) (hD : va_D A ws) (hS : va_S A H0 H locs) (hA : ∀ q, H0.size ≤ q → A q)
    {n : Int32} {N' : Nat} (hn : ¬ n < 0) (hN : n.toNatClampNeg = N') (hbytes : N' * 4 ≤ 536870912) (hcells : cells + 1 ≤ R.cells) (hslots : slots + N' ≤ R.slots) (hdg : decode cc pc = .ok (.anewarray index, 3))
    (kk : ∀ (q : Nat) (H1 : Heap), va_P D vwCl (ws ++ [(q, .inl (cO, N', .inr (.inr (.inr (.inr (fun _ => none))))))]) H1 → va_D A (ws ++ [(q, .inl (cO, N', .inr (.inr (.inr (.inr (fun _ => none))))))]) → va_S A H0 H1 locs → W p l e R s m args below meth c H1 locs (cells + 1) (slots + N') Q (F0 m (pc + 3) ls (.ref q :: rest))) : W p l e R s m args below meth c H locs cells slots Q (F0 m pc ls (.int n :: rest)) := by
  refine va_newq hexec hb hown hclink hover hK hP hD hS hA hn hN hbytes hcells hslots hdg fun q cA H1 hK2 hP1 hD1 hS1 => ?_
  obtain rfl := nwO hK2
  exact kk q H1 hP1 hD1 hS1
theorem MkI_blind (D : va_G) (cI cZ cO : ClassId) (av : List Value) (W0 : va_W) (sz : Nat) : FrameBlind (va_Pc av (fun U => U.heap.size = sz ∧ va_P D vwCl W0 U.heap ∧ KU D cI cZ cO U ∧ va_D (fun _ => True) W0)) := fun _ _ _ _ h => ⟨h.1, h.2.1, h.2.2.1, h.2.2.2.1.call, h.2.2.2.2⟩
variable {y : MethodName} {cy : ByteArray} {nL nL' fr' lo' mc ms n index : Nat} {As : List Value} {own host : String} {b : Nat} {P1 : va_W → Prop} {Ts : List Cond}
theorem after_I (hP : va_P D vwCl ws H) (hD : va_D A ws) (hS : va_S A H0 H locs) (hA : ∀ q, H0.size ≤ q → A q) (isC isR : List Nat) (hC : isC.map (fun i => ws[i]?) = W0.map some) (hR : isR.map (fun i => ws[i]?) = wr.map some) (hn : va_nd isR = true) (hdis : ∀ i ∈ isR, i ∉ isC) {a : Array Value} {st0 : List Value}
    (hr : va_Run p l e R s m args below meth c H locs cells slots mc ms (F0 m pc ls st0) rest (va_Qv (fun w1 : va_W => P1 w1) (fun w1 t => va_P D vwCl w1 t.heap ∧ va_D (va_A W0 H.size) w1) (va_A W0 H.size) a) (va_A W0 H.size))
    (kk : ∀ (w1 : va_W) (H1 : Heap) (locs1 : List Loc), P1 w1 → va_P D vwCl (wr ++ w1) H1 → va_D A (wr ++ w1) → va_S A H0 H1 locs1 → W p l e R s m args below meth c H1 locs1 (cells + mc) (slots + ms) Q (F0 m (pc + 3) ls rest)) : W p l e R s m args below meth c H locs cells slots Q (F0 m pc ls st0) := by
  have hFc := va_free hD hS hA isC hC
  refine va_callv hr hS (fun q _ h => hFc q h) hFc (fun u t H1 locs1 ht hvm hw hB hz1 hk1 hS1 => ?_)
  obtain ⟨hP1, hD1⟩ := hB
  rw [ht] at hP1
  obtain ⟨hP2, hD2⟩ := va_join hP hD isC isR hC hR hn hdis hk1 hFc hP1 hD1
  exact kk u H1 locs1 hw hP2 hD2 hS1
theorem w_ctorN (hM : MkI l D cI cZ cO y cy nL' fr' lo' mc ms (.ref b :: As) W0 P1) (S : CallFix p m c cc nL s args TB own) (hKU : KU D cI cZ cO s) (hP : va_P D vwCl ws H) (hD : va_D A ws) (hS : va_S A H0 H locs) (hA : ∀ q, H0.size ≤ q → A q) (isC isR : List Nat) (hC : isC.map (fun i => ws[i]?) = W0.map some) (hR : isR.map (fun i => ws[i]?) = wr.map some) (hn : va_nd isR = true) (hdis : ∀ i ∈ isR, i ∉ isC) (hncC : va_nd isC = true)
    (h1 : (own, index, y, host) ∈ NWl) (h2 : Cond.instanceMethod y ∈ TB) (h4 : Cond.initialized y.cls ∈ TB) (h5 : Cond.code y cy nL' none ∈ TB) (hy1 : y.name = "<init>") (hy : y.cls ≠ "java/lang/invoke/MethodHandle" ∧ y.cls ≠ "java/lang/invoke/VarHandle" ∧ (parseMethodDescriptor y.desc).map (fun d => d.parameters.length) = some n) (hlen : As.length = n) (hRm : fr' + 1 ≤ R.frames ∧ 8 + (nL' + 11) + lo' ≤ R.locals) (hsz : ls.size = nL) (hcat : (rest.map fun v => v.category).sum ≤ 8) (hf : cells + mc ≤ R.cells ∧ slots + ms ≤ R.slots)
    (hd : decode cc pc = .ok (.invokespecial index, 3))
    (kk : ∀ (w1 : va_W) (H1 : Heap) (locs1 : List Loc), P1 w1 → va_P D vwCl (wr ++ w1) H1 → va_D A (wr ++ w1) → va_S A H0 H1 locs1 → W p l e R s m args below meth c H1 locs1 (cells + mc) (slots + ms) Q (F0 m (pc + 3) ls rest)) : W p l e R s m args below meth c H locs cells slots Q (F0 m pc ls (As.reverse ++ .ref b :: rest)) := by
  have hts := S.2.2.2.2
  have cw := va_cnB (R := R) (own := own) (index := index) (host := host) (rm := { frames := fr', cells := mc, slots := ms, locals := lo' }) n hts (TB_self h5) rfl rfl rfl (hKU.2.2 _ h1) (hts _ h4) hy hRm
  have hPc : va_P D vwCl W0 H := fun k q hq => by
    have h1 : (isC.map (fun i => ws[i]?))[k]? = some (some q) := by rw [hC, List.getElem?_map, hq]; rfl
    rw [List.getElem?_map] at h1
    cases hi : isC[k]? with
    | none => rw [hi] at h1; cases h1
    | some i => rw [hi] at h1; exact hP i q (Option.some.inj h1)
  have hDc := hD.sub isC hncC hC
  exact after_I hP hD hS hA isC isR hC hR hn hdis (va_runIN (g := F0 m pc ls (As.reverse ++ .ref b :: rest)) S (hM H.size) ⟨cw, hy1, hts _ h2⟩ ⟨MkI_blind D cI cZ cO _ W0 _, fun U hU hW => ⟨rfl, by rw [hU], by rw [hU]; exact hPc, hKU.warm hW, hDc.weaken (fun _ _ _ _ => trivial)⟩⟩ rfl hlen hsz rfl (lv_room hcat) hd hf) kk
theorem w_ctorI (hM : MkI l D cI cZ cO y cy nL' fr' lo' mc ms (.ref b :: As) W0 P1) (S : CallFix p m c cc nL s args Ts own) (hTs : ∀ w ∈ TB, w ∈ Ts) (hKU : KU D cI cZ cO s) (hP : va_P D vwCl ws H) (hD : va_D A ws) (hS : va_S A H0 H locs) (hA : ∀ q, H0.size ≤ q → A q) (isC isR : List Nat) (hC : isC.map (fun i => ws[i]?) = W0.map some) (hR : isR.map (fun i => ws[i]?) = wr.map some) (hn : va_nd isR = true) (hdis : ∀ i ∈ isR, i ∉ isC) (hncC : va_nd isC = true)
    (h1 : Cond.methodLink own index y ∈ TB) (h2 : Cond.instanceMethod y ∈ TB) (h4 : Cond.initialized y.cls ∈ TB) (h5 : Cond.code y cy nL' none ∈ TB) (hy1 : y.name = "<init>") (hy : y.cls ≠ "java/lang/invoke/MethodHandle" ∧ y.cls ≠ "java/lang/invoke/VarHandle" ∧ (parseMethodDescriptor y.desc).map (fun d => d.parameters.length) = some n) (hlen : As.length = n) (hRm : fr' + 1 ≤ R.frames ∧ 8 + (nL' + 11) + lo' ≤ R.locals) (hsz : ls.size = nL) (hcat : (rest.map fun v => v.category).sum ≤ 8) (hf : cells + mc ≤ R.cells ∧ slots + ms ≤ R.slots)
    (hd : decode cc pc = .ok (.invokespecial index, 3))
    (kk : ∀ (w1 : va_W) (H1 : Heap) (locs1 : List Loc), P1 w1 → va_P D vwCl (wr ++ w1) H1 → va_D A (wr ++ w1) → va_S A H0 H1 locs1 → W p l e R s m args below meth c H1 locs1 (cells + mc) (slots + ms) Q (F0 m (pc + 3) ls rest)) : W p l e R s m args below meth c H locs cells slots Q (F0 m pc ls (As.reverse ++ .ref b :: rest)) := by
  have hts := S.2.2.2.2
  have hG : GoodIn Ts (Cond.code y cy nL' none :: TB) := fun w hw => by
    have := TB_self h5 w hw
    exact ⟨hTs _ this.1, this.2⟩
  have cw := cwI (R := R) (own := own) (index := index) (rm := { frames := fr', cells := mc, slots := ms, locals := lo' }) n hts hG rfl rfl rfl (hts _ (hTs _ h4)) (hts _ (hTs _ h1)) (hts _ (hTs _ h2)) hy1 hy hRm
  have hPc : va_P D vwCl W0 H := fun k q hq => by
    have h1 : (isC.map (fun i => ws[i]?))[k]? = some (some q) := by rw [hC, List.getElem?_map, hq]; rfl
    rw [List.getElem?_map] at h1
    cases hi : isC[k]? with
    | none => rw [hi] at h1; cases h1
    | some i => rw [hi] at h1; exact hP i q (Option.some.inj h1)
  have hDc := hD.sub isC hncC hC
  exact after_I hP hD hS hA isC isR hC hR hn hdis (va_runI (g := F0 m pc ls (As.reverse ++ .ref b :: rest)) S (hM H.size) cw ⟨MkI_blind D cI cZ cO _ W0 _, fun U hU hW => ⟨rfl, by rw [hU], by rw [hU]; exact hPc, hKU.warm hW, hDc.weaken (fun _ _ _ _ => trivial)⟩⟩ rfl hlen hsz rfl (lv_room hcat) hd hf) kk
end CTOR
