/-! WHAT AN INSTRUCTION ASKS OF WHAT FOLLOWS IT -/
abbrev KZ : Type := Nat → List (Option MV) → List MV → Mem → Prop
abbrev KR : Type := Option MV → Mem → Prop
abbrev SP : Type := List MV → Mem → KR → Prop
abbrev Sem : Type := Nat → KZ → KR → List (Option MV) → List MV → Mem → Prop
def catS (st : List MV) : Nat := (st.map catV).sum
def I_const (z : Int) : Sem := fun ip Z _ ls st M => Z (ip + 1) ls (mi z :: st) M
def I_lconst (z : Int) : Sem := fun ip Z _ ls st M => Z (ip + 1) ls (ml z :: st) M
def I_iload (i : Nat) : Sem := fun ip Z _ ls st M => ∃ z, ls[i]? = some (some (mi z)) ∧ Z (ip + 1) ls (mi z :: st) M
def I_lload (i : Nat) : Sem := fun ip Z _ ls st M => ∃ z, ls[i]? = some (some (ml z)) ∧ Z (ip + 1) ls (ml z :: st) M
def I_aload (i : Nat) : Sem := fun ip Z _ ls st M => ∃ k, ls[i]? = some (some (mr k)) ∧ Z (ip + 1) ls (mr k :: st) M
def I_istore (i : Nat) : Sem := fun ip Z _ ls st M => ∃ z r, st = mi z :: r ∧ i < ls.length ∧ noL ls = true ∧ Z (ip + 1) (ls.set i (some (mi z))) r M
def I_iinc (i : Nat) (n : Int) : Sem := fun ip Z _ ls st M => ∃ z, ls[i]? = some (some (mi z)) ∧ noL ls = true ∧ InR (z + n) ∧ Z (ip + 1) (ls.set i (some (mi (z + n)))) st M
def I_add : Sem := fun ip Z _ ls st M => ∃ x y r, st = mi y :: mi x :: r ∧ InR (x + y) ∧ Z (ip + 1) ls (mi (x + y) :: r) M
def I_sub : Sem := fun ip Z _ ls st M => ∃ x y r, st = mi y :: mi x :: r ∧ InR (x - y) ∧ Z (ip + 1) ls (mi (x - y) :: r) M
def I_mul : Sem := fun ip Z _ ls st M => ∃ x y r, st = mi y :: mi x :: r ∧ InR (x * y) ∧ Z (ip + 1) ls (mi (x * y) :: r) M
def I_div : Sem := fun ip Z _ ls st M => ∃ x y r, st = mi y :: mi x :: r ∧ 0 ≤ x ∧ 0 < y ∧ Z (ip + 1) ls (mi (x / y) :: r) M
def I_rem : Sem := fun ip Z _ ls st M => ∃ x y r, st = mi y :: mi x :: r ∧ 0 ≤ x ∧ 0 < y ∧ Z (ip + 1) ls (mi (x % y) :: r) M
def I_lmul : Sem := fun ip Z _ ls st M => ∃ x y r, st = ml y :: ml x :: r ∧ InL (x * y) ∧ Z (ip + 1) ls (ml (x * y) :: r) M
def I_lrem : Sem := fun ip Z _ ls st M => ∃ x y r, st = ml y :: ml x :: r ∧ 0 ≤ x ∧ 0 < y ∧ Z (ip + 1) ls (ml (x % y) :: r) M
def I_i2l : Sem := fun ip Z _ ls st M => ∃ x r, st = mi x :: r ∧ Z (ip + 1) ls (ml x :: r) M
def I_l2i : Sem := fun ip Z _ ls st M => ∃ x r, st = ml x :: r ∧ InR x ∧ Z (ip + 1) ls (mi x :: r) M
def cmp3 (x y : Int) : Int := if y < x then 1 else if x = y then 0 else -1
def I_lcmp : Sem := fun ip Z _ ls st M => ∃ x y r, st = ml y :: ml x :: r ∧ Z (ip + 1) ls (mi (cmp3 x y) :: r) M
def I_and31 : Sem := fun ip Z _ ls st M => ∃ x r, st = mi 31 :: mi x :: r ∧ Z (ip + 1) ls (mi (x % 32) :: r) M
def I_dup : Sem := fun ip Z _ ls st M => ∃ v r, st = v :: r ∧ catV v = 1 ∧ Z (ip + 1) ls (v :: v :: r) M
def I_dup2 : Sem := fun ip Z _ ls st M => ∃ v w r, st = v :: w :: r ∧ catV v = 1 ∧ catV w = 1 ∧ Z (ip + 1) ls (v :: w :: v :: w :: r) M
def I_pop : Sem := fun ip Z _ ls st M => ∃ v r, st = v :: r ∧ catV v = 1 ∧ Z (ip + 1) ls r M
def I_goto (t : Nat) : Sem := fun _ Z _ ls st M => Z t ls st M
def I_ifeq (t : Nat) : Sem := fun ip Z _ ls st M => ∃ x r, st = mi x :: r ∧ (x = 0 → Z t ls r M) ∧ (¬ x = 0 → Z (ip + 1) ls r M)
def I_ifne (t : Nat) : Sem := fun ip Z _ ls st M => ∃ x r, st = mi x :: r ∧ (¬ x = 0 → Z t ls r M) ∧ (x = 0 → Z (ip + 1) ls r M)
def I_iflt (t : Nat) : Sem := fun ip Z _ ls st M => ∃ x r, st = mi x :: r ∧ (x < 0 → Z t ls r M) ∧ (0 ≤ x → Z (ip + 1) ls r M)
def I_ifge (t : Nat) : Sem := fun ip Z _ ls st M => ∃ x r, st = mi x :: r ∧ (0 ≤ x → Z t ls r M) ∧ (x < 0 → Z (ip + 1) ls r M)
def I_ifle (t : Nat) : Sem := fun ip Z _ ls st M => ∃ x r, st = mi x :: r ∧ (x ≤ 0 → Z t ls r M) ∧ (0 < x → Z (ip + 1) ls r M)
def I_ifgt (t : Nat) : Sem := fun ip Z _ ls st M => ∃ x r, st = mi x :: r ∧ (0 < x → Z t ls r M) ∧ (x ≤ 0 → Z (ip + 1) ls r M)
def I_ceq (t : Nat) : Sem := fun ip Z _ ls st M => ∃ x y r, st = mi y :: mi x :: r ∧ (x = y → Z t ls r M) ∧ (¬ x = y → Z (ip + 1) ls r M)
def I_cne (t : Nat) : Sem := fun ip Z _ ls st M => ∃ x y r, st = mi y :: mi x :: r ∧ (¬ x = y → Z t ls r M) ∧ (x = y → Z (ip + 1) ls r M)
def I_clt (t : Nat) : Sem := fun ip Z _ ls st M => ∃ x y r, st = mi y :: mi x :: r ∧ (x < y → Z t ls r M) ∧ (y ≤ x → Z (ip + 1) ls r M)
def I_cge (t : Nat) : Sem := fun ip Z _ ls st M => ∃ x y r, st = mi y :: mi x :: r ∧ (y ≤ x → Z t ls r M) ∧ (x < y → Z (ip + 1) ls r M)
def I_cle (t : Nat) : Sem := fun ip Z _ ls st M => ∃ x y r, st = mi y :: mi x :: r ∧ (x ≤ y → Z t ls r M) ∧ (y < x → Z (ip + 1) ls r M)
def I_cgt (t : Nat) : Sem := fun ip Z _ ls st M => ∃ x y r, st = mi y :: mi x :: r ∧ (y < x → Z t ls r M) ∧ (x ≤ y → Z (ip + 1) ls r M)
def I_tsw (lo : Int) (ts : List Nat) (d : Nat) : Sem := fun _ Z _ ls st M => ∃ x r, st = mi x :: r ∧ (∀ (j t : Nat), ts[j]? = some t → x = lo + j → Z t ls r M) ∧ (x < lo ∨ lo + ts.length ≤ x → Z d ls r M)
def I_get (ci k : Nat) : Sem := fun ip Z _ ls st M => ∃ o r q d, st = mr o :: r ∧ shp[o]? = some (.inl q) ∧ q.1 = ci ∧ q.2[k]? = some d ∧ Z (ip + 1) ls ((match d with
  | 0 => mi (M o k)
  | 1 => mi (M o k)
  | 2 => ml (M o k)
  | n + 3 => mr n) :: r) M
def I_puti (ci k : Nat) : Sem := fun ip Z _ ls st M => ∃ o r q z, st = mi z :: mr o :: r ∧ shp[o]? = some (.inl q) ∧ q.1 = ci ∧ q.2[k]? = some 0 ∧ Z (ip + 1) ls r (mup M o k z)
def I_putz (ci k : Nat) : Sem := fun ip Z _ ls st M => ∃ o r q z, st = mi z :: mr o :: r ∧ shp[o]? = some (.inl q) ∧ q.1 = ci ∧ q.2[k]? = some 1 ∧ (z = 0 ∨ z = 1) ∧ Z (ip + 1) ls r (mup M o k z)
def I_putl (ci k : Nat) : Sem := fun ip Z _ ls st M => ∃ o r q z, st = ml z :: mr o :: r ∧ shp[o]? = some (.inl q) ∧ q.1 = ci ∧ q.2[k]? = some 2 ∧ Z (ip + 1) ls r (mup M o k z)
def I_iald : Sem := fun ip Z _ ls st M => ∃ i o r n, st = mi i :: mr o :: r ∧ shp[o]? = some (.inr (.inl (0, n))) ∧ 0 ≤ i ∧ i < n ∧ Z (ip + 1) ls (mi (M o i.toNat) :: r) M
def I_zald : Sem := fun ip Z _ ls st M => ∃ i o r n, st = mi i :: mr o :: r ∧ shp[o]? = some (.inr (.inl (1, n))) ∧ 0 ≤ i ∧ i < n ∧ Z (ip + 1) ls (mi (M o i.toNat) :: r) M
def I_iast : Sem := fun ip Z _ ls st M => ∃ z i o r n, st = mi z :: mi i :: mr o :: r ∧ shp[o]? = some (.inr (.inl (0, n))) ∧ 0 ≤ i ∧ i < n ∧ Z (ip + 1) ls r (mup M o i.toNat z)
def I_zast : Sem := fun ip Z _ ls st M => ∃ z i o r n, st = mi z :: mi i :: mr o :: r ∧ shp[o]? = some (.inr (.inl (1, n))) ∧ 0 ≤ i ∧ i < n ∧ (z = 0 ∨ z = 1) ∧ Z (ip + 1) ls r (mup M o i.toNat z)
def I_aald : Sem := fun ip Z _ ls st M => ∃ i o r rs, st = mi i :: mr o :: r ∧ shp[o]? = some (.inr (.inr rs)) ∧ 0 ≤ i ∧ i < rs.length ∧ ∀ (j t : Nat), rs[j]? = some t → i = j → Z (ip + 1) ls (mr t :: r) M
def I_alen : Sem := fun ip Z _ ls st M => ∃ o r n, st = mr o :: r ∧ shp[o]? = some (.inr (.inl (0, n))) ∧ n < 2147483648 ∧ Z (ip + 1) ls (mi n :: r) M
def I_siald (L : Nat) (xs : Nat → Int) : Sem := fun ip Z _ ls st M => ∃ i r, st = mi i :: mr 999 :: r ∧ 0 ≤ i ∧ i < L ∧ Z (ip + 1) ls (mi (xs i.toNat) :: r) M
def I_slen (L : Nat) : Sem := fun ip Z _ ls st M => ∃ r, st = mr 999 :: r ∧ L < 2147483648 ∧ Z (ip + 1) ls (mi L :: r) M
def I_min : Sem := fun ip Z _ ls st M => ∃ x y r, st = mi y :: mi x :: r ∧ catS r ≤ 8 ∧ Z (ip + 1) ls (mi (if y < x then y else x) :: r) M
def I_max : Sem := fun ip Z _ ls st M => ∃ x y r, st = mi y :: mi x :: r ∧ catS r ≤ 8 ∧ Z (ip + 1) ls (mi (if x < y then y else x) :: r) M
def cpyR (f h : Nat → Int) (sp dp n : Nat) : Nat → Int := fun k => if dp ≤ k ∧ k < dp + n then f (sp + (k - dp)) else h k
def I_copy : Sem := fun ip Z _ ls st M => ∃ n dp d sp s r n0 n1, st = mi n :: mi dp :: mr d :: mi sp :: mr s :: r ∧ shp[s]? = some (.inr (.inl (0, n0))) ∧ shp[d]? = some (.inr (.inl (0, n1))) ∧ 0 ≤ sp ∧ 0 ≤ dp ∧ 0 ≤ n ∧ sp + n ≤ n0 ∧ dp + n ≤ n1 ∧ catS r ≤ 8 ∧ Z (ip + 1) ls r (srow M d (cpyR (M s) (M d) sp.toNat dp.toNat n.toNat))
def I_callV (ci n : Nat) (sp : SP) : Sem := fun ip Z _ ls st M => ∃ As o r q, st = As.reverse ++ mr o :: r ∧ As.length = n ∧ shp[o]? = some (.inl q) ∧ q.1 = ci ∧ catS r ≤ 8 ∧ sp (mr o :: As) M (fun v M' => Z (ip + 1) ls (v.toList ++ r) M')
def I_callS (n : Nat) (sp : SP) : Sem := fun ip Z _ ls st M => ∃ As r, st = As.reverse ++ r ∧ As.length = n ∧ catS r ≤ 8 ∧ sp As M (fun v M' => Z (ip + 1) ls (v.toList ++ r) M')
def I_iret : Sem := fun _ _ Ret _ st M => ∃ z, st = [mi z] ∧ Ret (some (mi z)) M
def I_zret : Sem := fun _ _ Ret _ st M => ∃ z, st = [mi z] ∧ (z = 0 ∨ z = 1) ∧ Ret (some (mi z)) M
def I_vret : Sem := fun _ _ Ret _ st M => st = [] ∧ Ret none M
/-- a code by its instructions' numbers: what they ask is enough -/
def Sim (code : List Sem) (Z : KZ) (Ret : KR) : Prop := (∀ (ip : Nat) (ls : List (Option MV)) (st : List MV) (M : Mem) (sem : Sem), code[ip]? = some sem → sem ip Z Ret ls st M → Z ip ls st M) ∧
  ∀ (ip : Nat) (ls : List (Option MV)) (st : List MV) (M : Mem) (i : Nat), Z ip (ls.set i none) st M → Z ip ls st M
/-! the same over the machine -/
def Cx (p : Program) (s : State) (m : MethodId) (args : Array Value) (c : Code) (own : String) (cc : ByteArray) (nL : Nat) (g : WG) : Prop :=
  p.tables.exec = Jvm.exec ∧ c.code = cc ∧ c.maxLocals = nL ∧ s.vm.findClass own = some m.cls ∧ (∀ w ∈ TB, w.before args s = true) ∧ Kn g s ∧ adOk g
def ZW (p : Program) (l : Launch) (e : Env) (R : Room) (s : State) (m : MethodId) (args : Array Value) (below : List Frame) (meth : Method) (c : Code) (Q : State → Prop) (nC nS : Nat) (g : WG) (nL : Nat) (pcs : List Nat) : KZ := fun ip ls st M =>
  ∀ (H : Heap) (locs : List Loc) (lsA : Array Slot), Rp g M H → va_S g.2.2.2 s.heap H locs → LR g.2.1 nL lsA ls → (∀ v ∈ st, okV v) → W p l e R s m args below meth c H locs nC nS Q (F0 m (pcs.getD ip 0) lsA (st.map (toV g.2.1)))
def HR (p : Program) (l : Launch) (e : Env) (R : Room) (s : State) (m : MethodId) (args : Array Value) (below : List Frame) (meth : Method) (c : Code) (Q : State → Prop) (nC nS : Nat) (g : WG) (cc : ByteArray) (ret : Option FieldType) (Ret : KR) : Prop :=
  ∀ (pc : Nat) (H : Heap) (locs : List Loc) (lsA : Array Slot) (M : Mem), Rp g M H → va_S g.2.2.2 s.heap H locs →
    (decode cc pc = .ok (.return_, 1) → ret = none → Ret none M → W p l e R s m args below meth c H locs nC nS Q (F0 m pc lsA [])) ∧
    (∀ z : Int, decode cc pc = .ok (.ireturn, 1) → InR z → (ret = some .int ∨ ret = some .boolean ∧ (z = 0 ∨ z = 1)) → Ret (some (mi z)) M → W p l e R s m args below meth c H locs nC nS Q (F0 m pc lsA [.int (Int32.ofInt z)]))
def Rm (R : Room) (nC nS fr lo : Nat) : Prop := fr ≤ R.frames ∧ lo ≤ R.locals ∧ nC ≤ R.cells ∧ nS ≤ R.slots
/-- the script, where there is one -/
def Sx (s : State) (g : WG) (sx : Option (Nat × (Nat → Int))) : Prop := ∀ L xs, sx = some (L, xs) → ∃ x32 : Nat → Int32, va_X (g.2.1 999) L x32 s s.heap ∧ (∀ j, (x32 j).toInt = xs j) ∧ g.2.1 999 < s.heap.size ∧ ¬ g.2.2.2 (g.2.1 999)
def Snd (own : String) (cc : ByteArray) (nL fr lo : Nat) (ret : Option FieldType) (sx : Option (Nat × (Nat → Int))) (pcs : List Nat) (ip : Nat) (sem : Sem) : Prop :=
  ∀ (p : Program) (l : Launch) (e : Env) (R : Room) (s : State) (m : MethodId) (args : Array Value) (below : List Frame) (meth : Method) (c : Code) (Q : State → Prop) (nC nS : Nat) (g : WG) (Ret : KR),
    Cx p s m args c own cc nL g → Rm R nC nS fr lo → Sx s g sx → HR p l e R s m args below meth c Q nC nS g cc ret Ret →
    ∀ (ls : List (Option MV)) (st : List MV) (M : Mem), sem ip (ZW p l e R s m args below meth c Q nC nS g nL pcs) Ret ls st M → ZW p l e R s m args below meth c Q nC nS g nL pcs ip ls st M
section SND
variable {own : String} {cc : ByteArray} {nL fr lo : Nat} {ret : Option FieldType} {sx : Option (Nat × (Nat → Int))} {pcs : List Nat} {ip : Nat}
theorem ok_c {v : MV} {st : List MV} (hv : okV v) (h : ∀ w ∈ st, okV w) : ∀ w ∈ v :: st, okV w := fun w hw => by
  rcases List.mem_cons.mp hw with e | e
  · rw [e]; exact hv
  · exact h w e
theorem ok_h {v : MV} {st : List MV} (h : ∀ w ∈ v :: st, okV w) : okV v := h v List.mem_cons_self
theorem ok_t {v : MV} {st : List MV} (h : ∀ w ∈ v :: st, okV w) : ∀ w ∈ st, okV w := fun w hw => h w (List.mem_cons_of_mem _ hw)
theorem s_iconst {n : Int} (hd : decode cc (pcs.getD ip 0) = .ok (.iconst n, 1)) (hn : pcs.getD (ip + 1) 0 = pcs.getD ip 0 + 1) (hr : InR n) : Snd own cc nL fr lo ret sx pcs ip (I_const n) := by
  intro p l e R s m args below meth c Q nC nS g Ret hC _ _ _ ls st M h H locs lsA hR hS hL hok
  have h' := h H locs lsA hR hS hL (ok_c hr hok)
  rw [hn] at h'
  exact lv_iconst hC.1 hC.2.1 hd rfl h'
theorem s_bipush {n : Int} (hd : decode cc (pcs.getD ip 0) = .ok (.bipush n, 2)) (hn : pcs.getD (ip + 1) 0 = pcs.getD ip 0 + 2) (hr : InR n) (hv : (Int8.ofInt n).toInt32 = Int32.ofInt n) : Snd own cc nL fr lo ret sx pcs ip (I_const n) := by
  intro p l e R s m args below meth c Q nC nS g Ret hC _ _ _ ls st M h H locs lsA hR hS hL hok
  have h' := h H locs lsA hR hS hL (ok_c hr hok)
  rw [hn] at h'
  exact lv_bipush hC.1 hC.2.1 hd hv h'
theorem s_sipush {n : Int} (hd : decode cc (pcs.getD ip 0) = .ok (.sipush n, 3)) (hn : pcs.getD (ip + 1) 0 = pcs.getD ip 0 + 3) (hr : InR n) (hv : (Int16.ofInt n).toInt32 = Int32.ofInt n) : Snd own cc nL fr lo ret sx pcs ip (I_const n) := by
  intro p l e R s m args below meth c Q nC nS g Ret hC _ _ _ ls st M h H locs lsA hR hS hL hok
  have h' := h H locs lsA hR hS hL (ok_c hr hok)
  rw [hn] at h'
  exact lv_sipush hC.1 hC.2.1 hd hv h'
theorem s_ldc {n : Int} {index : Nat} {v : Int32} (hw : Cond.constant own index v ∈ TB) (hd : decode cc (pcs.getD ip 0) = .ok (.ldc index, 2)) (hn : pcs.getD (ip + 1) 0 = pcs.getD ip 0 + 2) (hr : InR n) (hv : v = Int32.ofInt n) : Snd own cc nL fr lo ret sx pcs ip (I_const n) := by
  intro p l e R s m args below meth c Q nC nS g Ret hC _ _ _ ls st M h H locs lsA hR hS hL hok
  have h' := h H locs lsA hR hS hL (ok_c hr hok)
  rw [hn] at h'
  subst hv
  exact lv_ldc hC.1 hC.2.1 hC.2.2.2.1 (hC.2.2.2.2.1 _ hw) hd h'
theorem s_lconst {n : Int} {k : Fin 2} (hd : decode cc (pcs.getD ip 0) = .ok (.lconst k, 1)) (hn : pcs.getD (ip + 1) 0 = pcs.getD ip 0 + 1) (hr : InL n) (hv : Int64.ofNat (k : Nat) = Int64.ofInt n) : Snd own cc nL fr lo ret sx pcs ip (I_lconst n) := by
  intro p l e R s m args below meth c Q nC nS g Ret hC _ _ _ ls st M h H locs lsA hR hS hL hok
  have h' := h H locs lsA hR hS hL (ok_c hr hok)
  rw [hn] at h'
  exact lv_lconst hC.1 hC.2.1 hd hv h'
theorem s_ldc2 {n : Int} {index : Nat} {v : Int64} (hw : Cond.constantLong own index v ∈ TB) (hd : decode cc (pcs.getD ip 0) = .ok (.ldc2_w index, 3)) (hn : pcs.getD (ip + 1) 0 = pcs.getD ip 0 + 3) (hr : InL n) (hv : v = Int64.ofInt n) : Snd own cc nL fr lo ret sx pcs ip (I_lconst n) := by
  intro p l e R s m args below meth c Q nC nS g Ret hC _ _ _ ls st M h H locs lsA hR hS hL hok
  have h' := h H locs lsA hR hS hL (ok_c hr hok)
  rw [hn] at h'
  subst hv
  exact lv_ldc2 hC.1 hC.2.1 hC.2.2.2.1 (hC.2.2.2.2.1 _ hw) hd h'
theorem s_iload_n {i : Nat} {k : Fin 4} (hd : decode cc (pcs.getD ip 0) = .ok (.iload_n k, 1)) (hn : pcs.getD (ip + 1) 0 = pcs.getD ip 0 + 1) (hk : (k : Nat) = i) : Snd own cc nL fr lo ret sx pcs ip (I_iload i) := by
  intro p l e R s m args below meth c Q nC nS g Ret hC _ _ _ ls st M h H locs lsA hR hS hL hok
  obtain ⟨z, h1, h⟩ := h
  have h2 := hL.2.2.2 i _ h1
  have h' := h H locs lsA hR hS hL (ok_c h2.2 hok)
  rw [hn] at h'
  exact lv_iload_n hC.1 hC.2.1 hd hk h2.1 h'
theorem s_iload {i : Nat} (hd : decode cc (pcs.getD ip 0) = .ok (.iload i, 2)) (hn : pcs.getD (ip + 1) 0 = pcs.getD ip 0 + 2) : Snd own cc nL fr lo ret sx pcs ip (I_iload i) := by
  intro p l e R s m args below meth c Q nC nS g Ret hC _ _ _ ls st M h H locs lsA hR hS hL hok
  obtain ⟨z, h1, h⟩ := h
  have h2 := hL.2.2.2 i _ h1
  have h' := h H locs lsA hR hS hL (ok_c h2.2 hok)
  rw [hn] at h'
  exact lv_iload hC.1 hC.2.1 hd h2.1 h'
theorem s_lload_n {i : Nat} {k : Fin 4} (hd : decode cc (pcs.getD ip 0) = .ok (.lload_n k, 1)) (hn : pcs.getD (ip + 1) 0 = pcs.getD ip 0 + 1) (hk : (k : Nat) = i) : Snd own cc nL fr lo ret sx pcs ip (I_lload i) := by
  intro p l e R s m args below meth c Q nC nS g Ret hC _ _ _ ls st M h H locs lsA hR hS hL hok
  obtain ⟨z, h1, h⟩ := h
  have h2 := hL.2.2.2 i _ h1
  have h' := h H locs lsA hR hS hL (ok_c h2.2 hok)
  rw [hn] at h'
  exact lv_lload_n hC.1 hC.2.1 hd hk h2.1 h'
theorem s_lload {i : Nat} (hd : decode cc (pcs.getD ip 0) = .ok (.lload i, 2)) (hn : pcs.getD (ip + 1) 0 = pcs.getD ip 0 + 2) : Snd own cc nL fr lo ret sx pcs ip (I_lload i) := by
  intro p l e R s m args below meth c Q nC nS g Ret hC _ _ _ ls st M h H locs lsA hR hS hL hok
  obtain ⟨z, h1, h⟩ := h
  have h2 := hL.2.2.2 i _ h1
  have h' := h H locs lsA hR hS hL (ok_c h2.2 hok)
  rw [hn] at h'
  exact lv_lload hC.1 hC.2.1 hd h2.1 h'
theorem s_aload_n {i : Nat} {k : Fin 4} (hd : decode cc (pcs.getD ip 0) = .ok (.aload_n k, 1)) (hn : pcs.getD (ip + 1) 0 = pcs.getD ip 0 + 1) (hk : (k : Nat) = i) : Snd own cc nL fr lo ret sx pcs ip (I_aload i) := by
  intro p l e R s m args below meth c Q nC nS g Ret hC _ _ _ ls st M h H locs lsA hR hS hL hok
  obtain ⟨z, h1, h⟩ := h
  have h2 := hL.2.2.2 i _ h1
  have h' := h H locs lsA hR hS hL (ok_c h2.2 hok)
  rw [hn] at h'
  exact lv_aload_n hC.1 hC.2.1 hd hk h2.1 h'
theorem s_istore_n {i : Nat} {k : Fin 4} (hd : decode cc (pcs.getD ip 0) = .ok (.istore_n k, 1)) (hn : pcs.getD (ip + 1) 0 = pcs.getD ip 0 + 1) (hk : (k : Nat) = i) : Snd own cc nL fr lo ret sx pcs ip (I_istore i) := by
  intro p l e R s m args below meth c Q nC nS g Ret hC _ _ _ ls st M h H locs lsA hR hS hL hok
  obtain ⟨z, r, rfl, h1, h2, h⟩ := h
  refine lv_istore_n hC.1 hC.2.1 hd hk hL.has (Nat.lt_of_lt_of_le h1 hL.2.2.1) rfl fun lsB hB => ?_
  have h' := h H locs lsB hR hS (hL.set h2 (ok_h hok) hB) (ok_t hok)
  rw [hn] at h'
  exact h'
theorem s_istore {i : Nat} (hd : decode cc (pcs.getD ip 0) = .ok (.istore i, 2)) (hn : pcs.getD (ip + 1) 0 = pcs.getD ip 0 + 2) : Snd own cc nL fr lo ret sx pcs ip (I_istore i) := by
  intro p l e R s m args below meth c Q nC nS g Ret hC _ _ _ ls st M h H locs lsA hR hS hL hok
  obtain ⟨z, r, rfl, h1, h2, h⟩ := h
  refine lv_istore hC.1 hC.2.1 hd hL.has (Nat.lt_of_lt_of_le h1 hL.2.2.1) rfl fun lsB hB => ?_
  have h' := h H locs lsB hR hS (hL.set h2 (ok_h hok) hB) (ok_t hok)
  rw [hn] at h'
  exact h'
theorem s_iinc {i : Nat} {n : Int} (hd : decode cc (pcs.getD ip 0) = .ok (.iinc i n, 3)) (hn : pcs.getD (ip + 1) 0 = pcs.getD ip 0 + 3) : Snd own cc nL fr lo ret sx pcs ip (I_iinc i n) := by
  intro p l e R s m args below meth c Q nC nS g Ret hC _ _ _ ls st M h H locs lsA hR hS hL hok
  obtain ⟨z, h1, h2, h3, h⟩ := h
  obtain ⟨j, hj⟩ := List.getElem?_of_mem ((lvl_mem g.2.1 ls 0 (i, .int (Int32.ofInt z))).mpr ⟨i, mi z, h1, by simp [toV]⟩)
  have hlt : i < nL := Nat.lt_of_lt_of_le (List.getElem?_eq_some_iff.mp h1).1 hL.2.2.1
  refine lv_iinc (v := Int32.ofInt (z + n)) hC.1 hC.2.1 hd hL.has hj (by simp) hlt rfl fun lsB hB => ?_
  have h' := h H locs lsB hR hS (hL.set h2 (v := mi (z + n)) h3 hB) hok
  rw [hn] at h'
  exact h'
theorem s_add (hd : decode cc (pcs.getD ip 0) = .ok (.iadd, 1)) (hn : pcs.getD (ip + 1) 0 = pcs.getD ip 0 + 1) : Snd own cc nL fr lo ret sx pcs ip I_add := by
  intro p l e R s m args below meth c Q nC nS g Ret hC _ _ _ ls st M h H locs lsA hR hS hL hok
  obtain ⟨x, y, r, rfl, h1, h⟩ := h
  have h' := h H locs lsA hR hS hL (ok_c h1 (ok_t (ok_t hok)))
  rw [hn] at h'
  refine lv_iadd hC.1 hC.2.1 hd ?_
  rw [← Int32.ofInt_add]
  exact h'
theorem s_sub (hd : decode cc (pcs.getD ip 0) = .ok (.isub, 1)) (hn : pcs.getD (ip + 1) 0 = pcs.getD ip 0 + 1) : Snd own cc nL fr lo ret sx pcs ip I_sub := by
  intro p l e R s m args below meth c Q nC nS g Ret hC _ _ _ ls st M h H locs lsA hR hS hL hok
  obtain ⟨x, y, r, rfl, h1, h⟩ := h
  have h' := h H locs lsA hR hS hL (ok_c h1 (ok_t (ok_t hok)))
  rw [hn] at h'
  refine lv_isub hC.1 hC.2.1 hd ?_
  rw [← Int32.ofInt_sub]
  exact h'
theorem s_mul (hd : decode cc (pcs.getD ip 0) = .ok (.imul, 1)) (hn : pcs.getD (ip + 1) 0 = pcs.getD ip 0 + 1) : Snd own cc nL fr lo ret sx pcs ip I_mul := by
  intro p l e R s m args below meth c Q nC nS g Ret hC _ _ _ ls st M h H locs lsA hR hS hL hok
  obtain ⟨x, y, r, rfl, h1, h⟩ := h
  have h' := h H locs lsA hR hS hL (ok_c h1 (ok_t (ok_t hok)))
  rw [hn] at h'
  refine lv_imul hC.1 hC.2.1 hd ?_
  rw [← Int32.ofInt_mul]
  exact h'
end SND
