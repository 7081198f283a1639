/-! ROWS: from what follows an instruction to the instruction, over any Z of a code -/
section ROWS
variable {code : List Sem} {Z : KZ} {Ret : KR} {ls : List (Option MV)} {M : Mem} {r : List MV}
theorem w_const (hZ : Sim code Z Ret) (ip np : Nat) {z : Int} (hc : code[ip]? = some (I_const z)) (hn : ip + 1 = np)  (k : Z np ls (mi z :: r) M) : Z ip ls r M := by
  subst hn
  exact hZ.1 ip _ _ M _ hc k
theorem w_lconst (hZ : Sim code Z Ret) (ip np : Nat) {z : Int} (hc : code[ip]? = some (I_lconst z)) (hn : ip + 1 = np)  (k : Z np ls (ml z :: r) M) : Z ip ls r M := by
  subst hn
  exact hZ.1 ip _ _ M _ hc k
theorem w_iload (hZ : Sim code Z Ret) (ip np : Nat) {i : Nat} {z : Int} (hc : code[ip]? = some (I_iload i)) (hn : ip + 1 = np) (hl : ls[i]? = some (some (mi z))) (k : Z np ls (mi z :: r) M) : Z ip ls r M := by
  subst hn
  exact hZ.1 ip _ _ M _ hc ⟨z, hl, k⟩
theorem w_lload (hZ : Sim code Z Ret) (ip np : Nat) {i : Nat} {z : Int} (hc : code[ip]? = some (I_lload i)) (hn : ip + 1 = np) (hl : ls[i]? = some (some (ml z))) (k : Z np ls (ml z :: r) M) : Z ip ls r M := by
  subst hn
  exact hZ.1 ip _ _ M _ hc ⟨z, hl, k⟩
theorem w_aload (hZ : Sim code Z Ret) (ip np : Nat) {i : Nat} {z : Nat} (hc : code[ip]? = some (I_aload i)) (hn : ip + 1 = np) (hl : ls[i]? = some (some (mr z))) (k : Z np ls (mr z :: r) M) : Z ip ls r M := by
  subst hn
  exact hZ.1 ip _ _ M _ hc ⟨z, hl, k⟩
theorem w_istore (hZ : Sim code Z Ret) (ip np : Nat) {i : Nat} {z : Int} {ls2 : List (Option MV)} (hc : code[ip]? = some (I_istore i)) (hn : ip + 1 = np) (h1 : i < ls.length) (h2 : noL ls = true) (h3 : ls.set i (some (mi z)) = ls2) (k : Z np ls2 r M) : Z ip ls (mi z :: r) M := by
  subst hn
  exact hZ.1 ip _ _ M _ hc ⟨z, r, rfl, h1, h2, by rw [h3]; exact k⟩
theorem w_iinc (hZ : Sim code Z Ret) (ip np : Nat) {i : Nat} {n z : Int} {ls2 : List (Option MV)} (hc : code[ip]? = some (I_iinc i n)) (hn : ip + 1 = np) (hl : ls[i]? = some (some (mi z))) (h2 : noL ls = true) (h3 : InR (z + n)) (h4 : ls.set i (some (mi (z + n))) = ls2) (k : Z np ls2 r M) : Z ip ls r M := by
  subst hn
  exact hZ.1 ip _ _ M _ hc ⟨z, hl, h2, h3, by rw [h4]; exact k⟩
theorem w_add (hZ : Sim code Z Ret) (ip np : Nat) {x y : Int} (hc : code[ip]? = some I_add) (hn : ip + 1 = np) (h : InR (x + y)) (k : Z np ls (mi (x + y) :: r) M) : Z ip ls (mi y :: mi x :: r) M := by
  subst hn
  exact hZ.1 ip _ _ M _ hc ⟨x, y, r, rfl, h, k⟩
theorem w_sub (hZ : Sim code Z Ret) (ip np : Nat) {x y : Int} (hc : code[ip]? = some I_sub) (hn : ip + 1 = np) (h : InR (x - y)) (k : Z np ls (mi (x - y) :: r) M) : Z ip ls (mi y :: mi x :: r) M := by
  subst hn
  exact hZ.1 ip _ _ M _ hc ⟨x, y, r, rfl, h, k⟩
theorem w_mul (hZ : Sim code Z Ret) (ip np : Nat) {x y : Int} (hc : code[ip]? = some I_mul) (hn : ip + 1 = np) (h : InR (x * y)) (k : Z np ls (mi (x * y) :: r) M) : Z ip ls (mi y :: mi x :: r) M := by
  subst hn
  exact hZ.1 ip _ _ M _ hc ⟨x, y, r, rfl, h, k⟩
theorem w_div (hZ : Sim code Z Ret) (ip np : Nat) {x y : Int} (hc : code[ip]? = some I_div) (hn : ip + 1 = np) (h0 : 0 ≤ x) (h1 : 0 < y) (k : Z np ls (mi (x / y) :: r) M) : Z ip ls (mi y :: mi x :: r) M := by
  subst hn
  exact hZ.1 ip _ _ M _ hc ⟨x, y, r, rfl, h0, h1, k⟩
theorem w_rem (hZ : Sim code Z Ret) (ip np : Nat) {x y : Int} (hc : code[ip]? = some I_rem) (hn : ip + 1 = np) (h0 : 0 ≤ x) (h1 : 0 < y) (k : Z np ls (mi (x % y) :: r) M) : Z ip ls (mi y :: mi x :: r) M := by
  subst hn
  exact hZ.1 ip _ _ M _ hc ⟨x, y, r, rfl, h0, h1, k⟩
theorem w_lmul (hZ : Sim code Z Ret) (ip np : Nat) {x y : Int} (hc : code[ip]? = some I_lmul) (hn : ip + 1 = np) (h : InL (x * y)) (k : Z np ls (ml (x * y) :: r) M) : Z ip ls (ml y :: ml x :: r) M := by
  subst hn
  exact hZ.1 ip _ _ M _ hc ⟨x, y, r, rfl, h, k⟩
theorem w_lrem (hZ : Sim code Z Ret) (ip np : Nat) {x y : Int} (hc : code[ip]? = some I_lrem) (hn : ip + 1 = np) (h0 : 0 ≤ x) (h1 : 0 < y) (k : Z np ls (ml (x % y) :: r) M) : Z ip ls (ml y :: ml x :: r) M := by
  subst hn
  exact hZ.1 ip _ _ M _ hc ⟨x, y, r, rfl, h0, h1, k⟩
theorem w_i2l (hZ : Sim code Z Ret) (ip np : Nat) {x : Int} (hc : code[ip]? = some I_i2l) (hn : ip + 1 = np)  (k : Z np ls (ml x :: r) M) : Z ip ls (mi x :: r) M := by
  subst hn
  exact hZ.1 ip _ _ M _ hc ⟨x, r, rfl, k⟩
theorem w_l2i (hZ : Sim code Z Ret) (ip np : Nat) {x : Int} (hc : code[ip]? = some I_l2i) (hn : ip + 1 = np) (h : InR x) (k : Z np ls (mi x :: r) M) : Z ip ls (ml x :: r) M := by
  subst hn
  exact hZ.1 ip _ _ M _ hc ⟨x, r, rfl, h, k⟩
theorem w_lcmp (hZ : Sim code Z Ret) (ip np : Nat) {x y : Int} (hc : code[ip]? = some I_lcmp) (hn : ip + 1 = np)  (k : Z np ls (mi (cmp3 x y) :: r) M) : Z ip ls (ml y :: ml x :: r) M := by
  subst hn
  exact hZ.1 ip _ _ M _ hc ⟨x, y, r, rfl, k⟩
theorem w_and31 (hZ : Sim code Z Ret) (ip np : Nat) {x : Int} (hc : code[ip]? = some I_and31) (hn : ip + 1 = np)  (k : Z np ls (mi (x % 32) :: r) M) : Z ip ls (mi 31 :: mi x :: r) M := by
  subst hn
  exact hZ.1 ip _ _ M _ hc ⟨x, r, rfl, k⟩
theorem w_dup (hZ : Sim code Z Ret) (ip np : Nat) {v : MV} (hc : code[ip]? = some I_dup) (hn : ip + 1 = np) (h : catV v = 1) (k : Z np ls (v :: v :: r) M) : Z ip ls (v :: r) M := by
  subst hn
  exact hZ.1 ip _ _ M _ hc ⟨v, r, rfl, h, k⟩
theorem w_dup2 (hZ : Sim code Z Ret) (ip np : Nat) {v w : MV} (hc : code[ip]? = some I_dup2) (hn : ip + 1 = np) (h : catV v = 1) (h2 : catV w = 1) (k : Z np ls (v :: w :: v :: w :: r) M) : Z ip ls (v :: w :: r) M := by
  subst hn
  exact hZ.1 ip _ _ M _ hc ⟨v, w, r, rfl, h, h2, k⟩
theorem w_pop (hZ : Sim code Z Ret) (ip np : Nat) {v : MV} (hc : code[ip]? = some I_pop) (hn : ip + 1 = np) (h : catV v = 1) (k : Z np ls r M) : Z ip ls (v :: r) M := by
  subst hn
  exact hZ.1 ip _ _ M _ hc ⟨v, r, rfl, h, k⟩
theorem w_goto (hZ : Sim code Z Ret) (ip t : Nat) (hc : code[ip]? = some (I_goto t)) (k : Z t ls r M) : Z ip ls r M := hZ.1 ip _ _ M _ hc k
theorem w_ifeq (hZ : Sim code Z Ret) (ip np : Nat) {t : Nat} {x : Int} (hc : code[ip]? = some (I_ifeq t)) (hn : ip + 1 = np) (kt : x = 0 → Z t ls r M) (kf : ¬ x = 0 → Z np ls r M)  : Z ip ls (mi x :: r) M := by
  subst hn
  exact hZ.1 ip _ _ M _ hc ⟨x, r, rfl, kt, kf⟩
theorem w_ifne (hZ : Sim code Z Ret) (ip np : Nat) {t : Nat} {x : Int} (hc : code[ip]? = some (I_ifne t)) (hn : ip + 1 = np) (kt : ¬ x = 0 → Z t ls r M) (kf : x = 0 → Z np ls r M)  : Z ip ls (mi x :: r) M := by
  subst hn
  exact hZ.1 ip _ _ M _ hc ⟨x, r, rfl, kt, kf⟩
theorem w_iflt (hZ : Sim code Z Ret) (ip np : Nat) {t : Nat} {x : Int} (hc : code[ip]? = some (I_iflt t)) (hn : ip + 1 = np) (kt : x < 0 → Z t ls r M) (kf : 0 ≤ x → Z np ls r M)  : Z ip ls (mi x :: r) M := by
  subst hn
  exact hZ.1 ip _ _ M _ hc ⟨x, r, rfl, kt, kf⟩
theorem w_ifge (hZ : Sim code Z Ret) (ip np : Nat) {t : Nat} {x : Int} (hc : code[ip]? = some (I_ifge t)) (hn : ip + 1 = np) (kt : 0 ≤ x → Z t ls r M) (kf : x < 0 → Z np ls r M)  : Z ip ls (mi x :: r) M := by
  subst hn
  exact hZ.1 ip _ _ M _ hc ⟨x, r, rfl, kt, kf⟩
theorem w_ifle (hZ : Sim code Z Ret) (ip np : Nat) {t : Nat} {x : Int} (hc : code[ip]? = some (I_ifle t)) (hn : ip + 1 = np) (kt : x ≤ 0 → Z t ls r M) (kf : 0 < x → Z np ls r M)  : Z ip ls (mi x :: r) M := by
  subst hn
  exact hZ.1 ip _ _ M _ hc ⟨x, r, rfl, kt, kf⟩
theorem w_ifgt (hZ : Sim code Z Ret) (ip np : Nat) {t : Nat} {x : Int} (hc : code[ip]? = some (I_ifgt t)) (hn : ip + 1 = np) (kt : 0 < x → Z t ls r M) (kf : x ≤ 0 → Z np ls r M)  : Z ip ls (mi x :: r) M := by
  subst hn
  exact hZ.1 ip _ _ M _ hc ⟨x, r, rfl, kt, kf⟩
theorem w_ceq (hZ : Sim code Z Ret) (ip np : Nat) {t : Nat} {x y : Int} (hc : code[ip]? = some (I_ceq t)) (hn : ip + 1 = np) (kt : x = y → Z t ls r M) (kf : ¬ x = y → Z np ls r M)  : Z ip ls (mi y :: mi x :: r) M := by
  subst hn
  exact hZ.1 ip _ _ M _ hc ⟨x, y, r, rfl, kt, kf⟩
theorem w_cne (hZ : Sim code Z Ret) (ip np : Nat) {t : Nat} {x y : Int} (hc : code[ip]? = some (I_cne t)) (hn : ip + 1 = np) (kt : ¬ x = y → Z t ls r M) (kf : x = y → Z np ls r M)  : Z ip ls (mi y :: mi x :: r) M := by
  subst hn
  exact hZ.1 ip _ _ M _ hc ⟨x, y, r, rfl, kt, kf⟩
theorem w_clt (hZ : Sim code Z Ret) (ip np : Nat) {t : Nat} {x y : Int} (hc : code[ip]? = some (I_clt t)) (hn : ip + 1 = np) (kt : x < y → Z t ls r M) (kf : y ≤ x → Z np ls r M)  : Z ip ls (mi y :: mi x :: r) M := by
  subst hn
  exact hZ.1 ip _ _ M _ hc ⟨x, y, r, rfl, kt, kf⟩
theorem w_cge (hZ : Sim code Z Ret) (ip np : Nat) {t : Nat} {x y : Int} (hc : code[ip]? = some (I_cge t)) (hn : ip + 1 = np) (kt : y ≤ x → Z t ls r M) (kf : x < y → Z np ls r M)  : Z ip ls (mi y :: mi x :: r) M := by
  subst hn
  exact hZ.1 ip _ _ M _ hc ⟨x, y, r, rfl, kt, kf⟩
theorem w_cle (hZ : Sim code Z Ret) (ip np : Nat) {t : Nat} {x y : Int} (hc : code[ip]? = some (I_cle t)) (hn : ip + 1 = np) (kt : x ≤ y → Z t ls r M) (kf : y < x → Z np ls r M)  : Z ip ls (mi y :: mi x :: r) M := by
  subst hn
  exact hZ.1 ip _ _ M _ hc ⟨x, y, r, rfl, kt, kf⟩
theorem w_cgt (hZ : Sim code Z Ret) (ip np : Nat) {t : Nat} {x y : Int} (hc : code[ip]? = some (I_cgt t)) (hn : ip + 1 = np) (kt : y < x → Z t ls r M) (kf : x ≤ y → Z np ls r M)  : Z ip ls (mi y :: mi x :: r) M := by
  subst hn
  exact hZ.1 ip _ _ M _ hc ⟨x, y, r, rfl, kt, kf⟩
theorem w_tsw (hZ : Sim code Z Ret) (ip : Nat) {lo x : Int} {ts : List Nat} {d : Nat} (hc : code[ip]? = some (I_tsw lo ts d)) (kt : ∀ (j t : Nat), ts[j]? = some t → x = lo + j → Z t ls r M) (kf : x < lo ∨ lo + ts.length ≤ x → Z d ls r M) : Z ip ls (mi x :: r) M := hZ.1 ip _ _ M _ hc ⟨x, r, rfl, kt, kf⟩
theorem w_geti (hZ : Sim code Z Ret) (ip np : Nat) {o ci f : Nat} {q : Nat × List Nat} (hc : code[ip]? = some (I_get ci f)) (hn : ip + 1 = np) (h1 : shp[o]? = some (.inl q)) (h2 : q.1 = ci) (h3 : q.2[f]? = some 0) (k : Z np ls (mi (M o f) :: r) M) : Z ip ls (mr o :: r) M := by
  subst hn
  exact hZ.1 ip _ _ M _ hc ⟨o, r, q, 0, rfl, h1, h2, h3, k⟩
theorem w_getz (hZ : Sim code Z Ret) (ip np : Nat) {o ci f : Nat} {q : Nat × List Nat} (hc : code[ip]? = some (I_get ci f)) (hn : ip + 1 = np) (h1 : shp[o]? = some (.inl q)) (h2 : q.1 = ci) (h3 : q.2[f]? = some 1) (k : Z np ls (mi (M o f) :: r) M) : Z ip ls (mr o :: r) M := by
  subst hn
  exact hZ.1 ip _ _ M _ hc ⟨o, r, q, 1, rfl, h1, h2, h3, k⟩
theorem w_getl (hZ : Sim code Z Ret) (ip np : Nat) {o ci f : Nat} {q : Nat × List Nat} (hc : code[ip]? = some (I_get ci f)) (hn : ip + 1 = np) (h1 : shp[o]? = some (.inl q)) (h2 : q.1 = ci) (h3 : q.2[f]? = some 2) (k : Z np ls (ml (M o f) :: r) M) : Z ip ls (mr o :: r) M := by
  subst hn
  exact hZ.1 ip _ _ M _ hc ⟨o, r, q, 2, rfl, h1, h2, h3, k⟩
theorem w_getr (hZ : Sim code Z Ret) (ip np : Nat) {o ci f n : Nat} {q : Nat × List Nat} (hc : code[ip]? = some (I_get ci f)) (hn : ip + 1 = np) (h1 : shp[o]? = some (.inl q)) (h2 : q.1 = ci) (h3 : q.2[f]? = some (n + 3)) (k : Z np ls (mr n :: r) M) : Z ip ls (mr o :: r) M := by
  subst hn
  exact hZ.1 ip _ _ M _ hc ⟨o, r, q, n + 3, rfl, h1, h2, h3, k⟩
theorem w_puti (hZ : Sim code Z Ret) (ip np : Nat) {o ci f : Nat} {z : Int} {q : Nat × List Nat} (hc : code[ip]? = some (I_puti ci f)) (hn : ip + 1 = np) (h1 : shp[o]? = some (.inl q)) (h2 : q.1 = ci) (h3 : q.2[f]? = some 0) (k : Z np ls r (mup M o f z)) : Z ip ls (mi z :: mr o :: r) M := by
  subst hn
  exact hZ.1 ip _ _ M _ hc ⟨o, r, q, z, rfl, h1, h2, h3, k⟩
theorem w_putz (hZ : Sim code Z Ret) (ip np : Nat) {o ci f : Nat} {z : Int} {q : Nat × List Nat} (hc : code[ip]? = some (I_putz ci f)) (hn : ip + 1 = np) (h1 : shp[o]? = some (.inl q)) (h2 : q.1 = ci) (h3 : q.2[f]? = some 1) (h4 : z = 0 ∨ z = 1) (k : Z np ls r (mup M o f z)) : Z ip ls (mi z :: mr o :: r) M := by
  subst hn
  exact hZ.1 ip _ _ M _ hc ⟨o, r, q, z, rfl, h1, h2, h3, h4, k⟩
theorem w_putl (hZ : Sim code Z Ret) (ip np : Nat) {o ci f : Nat} {z : Int} {q : Nat × List Nat} (hc : code[ip]? = some (I_putl ci f)) (hn : ip + 1 = np) (h1 : shp[o]? = some (.inl q)) (h2 : q.1 = ci) (h3 : q.2[f]? = some 2) (k : Z np ls r (mup M o f z)) : Z ip ls (ml z :: mr o :: r) M := by
  subst hn
  exact hZ.1 ip _ _ M _ hc ⟨o, r, q, z, rfl, h1, h2, h3, k⟩
theorem w_iald (hZ : Sim code Z Ret) (ip np : Nat) {o n : Nat} {i : Int} (hc : code[ip]? = some I_iald) (hn : ip + 1 = np) (h1 : shp[o]? = some (.inr (.inl (0, n)))) (h2 : 0 ≤ i) (h3 : i < n) (k : Z np ls (mi (M o i.toNat) :: r) M) : Z ip ls (mi i :: mr o :: r) M := by
  subst hn
  exact hZ.1 ip _ _ M _ hc ⟨i, o, r, n, rfl, h1, h2, h3, k⟩
theorem w_zald (hZ : Sim code Z Ret) (ip np : Nat) {o n : Nat} {i : Int} (hc : code[ip]? = some I_zald) (hn : ip + 1 = np) (h1 : shp[o]? = some (.inr (.inl (1, n)))) (h2 : 0 ≤ i) (h3 : i < n) (k : Z np ls (mi (M o i.toNat) :: r) M) : Z ip ls (mi i :: mr o :: r) M := by
  subst hn
  exact hZ.1 ip _ _ M _ hc ⟨i, o, r, n, rfl, h1, h2, h3, k⟩
theorem w_iast (hZ : Sim code Z Ret) (ip np : Nat) {o n : Nat} {i z : Int} (hc : code[ip]? = some I_iast) (hn : ip + 1 = np) (h1 : shp[o]? = some (.inr (.inl (0, n)))) (h2 : 0 ≤ i) (h3 : i < n) (k : Z np ls r (mup M o i.toNat z)) : Z ip ls (mi z :: mi i :: mr o :: r) M := by
  subst hn
  exact hZ.1 ip _ _ M _ hc ⟨z, i, o, r, n, rfl, h1, h2, h3, k⟩
theorem w_zast (hZ : Sim code Z Ret) (ip np : Nat) {o n : Nat} {i z : Int} (hc : code[ip]? = some I_zast) (hn : ip + 1 = np) (h1 : shp[o]? = some (.inr (.inl (1, n)))) (h2 : 0 ≤ i) (h3 : i < n) (h4 : z = 0 ∨ z = 1) (k : Z np ls r (mup M o i.toNat z)) : Z ip ls (mi z :: mi i :: mr o :: r) M := by
  subst hn
  exact hZ.1 ip _ _ M _ hc ⟨z, i, o, r, n, rfl, h1, h2, h3, h4, k⟩
theorem w_aald (hZ : Sim code Z Ret) (ip np : Nat) {o : Nat} {i : Int} {rs : List Nat} (hc : code[ip]? = some I_aald) (hn : ip + 1 = np) (h1 : shp[o]? = some (.inr (.inr rs))) (h2 : 0 ≤ i) (h3 : i < rs.length) (k : ∀ (j t : Nat), rs[j]? = some t → i = j → Z np ls (mr t :: r) M)  : Z ip ls (mi i :: mr o :: r) M := by
  subst hn
  exact hZ.1 ip _ _ M _ hc ⟨i, o, r, rs, rfl, h1, h2, h3, k⟩
theorem w_alen (hZ : Sim code Z Ret) (ip np : Nat) {o n : Nat} (hc : code[ip]? = some I_alen) (hn : ip + 1 = np) (h1 : shp[o]? = some (.inr (.inl (0, n)))) (h2 : n < 2147483648) (k : Z np ls (mi n :: r) M) : Z ip ls (mr o :: r) M := by
  subst hn
  exact hZ.1 ip _ _ M _ hc ⟨o, r, n, rfl, h1, h2, k⟩
theorem w_siald (hZ : Sim code Z Ret) (ip np : Nat) {L : Nat} {xs : Nat → Int} {i : Int} (hc : code[ip]? = some (I_siald L xs)) (hn : ip + 1 = np) (h2 : 0 ≤ i) (h3 : i < L) (k : Z np ls (mi (xs i.toNat) :: r) M) : Z ip ls (mi i :: mr 999 :: r) M := by
  subst hn
  exact hZ.1 ip _ _ M _ hc ⟨i, r, rfl, h2, h3, k⟩
theorem w_slen (hZ : Sim code Z Ret) (ip np : Nat) {L : Nat} (hc : code[ip]? = some (I_slen L)) (hn : ip + 1 = np) (h2 : L < 2147483648) (k : Z np ls (mi L :: r) M) : Z ip ls (mr 999 :: r) M := by
  subst hn
  exact hZ.1 ip _ _ M _ hc ⟨r, rfl, h2, k⟩
theorem w_min (hZ : Sim code Z Ret) (ip np : Nat) {x y : Int} (hc : code[ip]? = some I_min) (hn : ip + 1 = np) (h : catS r ≤ 8) (k : Z np ls (mi (if y < x then y else x) :: r) M) : Z ip ls (mi y :: mi x :: r) M := by
  subst hn
  exact hZ.1 ip _ _ M _ hc ⟨x, y, r, rfl, h, k⟩
theorem w_max (hZ : Sim code Z Ret) (ip np : Nat) {x y : Int} (hc : code[ip]? = some I_max) (hn : ip + 1 = np) (h : catS r ≤ 8) (k : Z np ls (mi (if x < y then y else x) :: r) M) : Z ip ls (mi y :: mi x :: r) M := by
  subst hn
  exact hZ.1 ip _ _ M _ hc ⟨x, y, r, rfl, h, k⟩
theorem w_copy (hZ : Sim code Z Ret) (ip np : Nat) {n dp sp : Int} {d s n0 n1 : Nat} (hc : code[ip]? = some I_copy) (hn : ip + 1 = np) (h1 : shp[s]? = some (.inr (.inl (0, n0)))) (h2 : shp[d]? = some (.inr (.inl (0, n1)))) (h3 : 0 ≤ sp) (h4 : 0 ≤ dp) (h5 : 0 ≤ n) (h6 : sp + n ≤ n0) (h7 : dp + n ≤ n1) (h8 : catS r ≤ 8) (k : Z np ls r (srow M d (cpyR (M s) (M d) sp.toNat dp.toNat n.toNat))) : Z ip ls (mi n :: mi dp :: mr d :: mi sp :: mr s :: r) M := by
  subst hn
  exact hZ.1 ip _ _ M _ hc ⟨n, dp, d, sp, s, r, n0, n1, rfl, h1, h2, h3, h4, h5, h6, h7, h8, k⟩
theorem w_callV0 (hZ : Sim code Z Ret) (ip np : Nat) {o ci : Nat} {sp : SP} {q : Nat × List Nat}  (hc : code[ip]? = some (I_callV ci 0 sp)) (hn : ip + 1 = np) (h1 : shp[o]? = some (.inl q)) (h2 : q.1 = ci) (h3 : catS r ≤ 8) (k : sp [mr o] M (fun v M2 => Z np ls (v.toList ++ r) M2)) : Z ip ls (mr o :: r) M := by
  subst hn
  exact hZ.1 ip _ _ M _ hc ⟨[], o, r, q, rfl, rfl, h1, h2, h3, k⟩
theorem w_callV1 (hZ : Sim code Z Ret) (ip np : Nat) {o ci : Nat} {sp : SP} {q : Nat × List Nat} {v1 : MV} (hc : code[ip]? = some (I_callV ci 1 sp)) (hn : ip + 1 = np) (h1 : shp[o]? = some (.inl q)) (h2 : q.1 = ci) (h3 : catS r ≤ 8) (k : sp [mr o, v1] M (fun v M2 => Z np ls (v.toList ++ r) M2)) : Z ip ls (v1 :: mr o :: r) M := by
  subst hn
  exact hZ.1 ip _ _ M _ hc ⟨[v1], o, r, q, rfl, rfl, h1, h2, h3, k⟩
theorem w_callV2 (hZ : Sim code Z Ret) (ip np : Nat) {o ci : Nat} {sp : SP} {q : Nat × List Nat} {v1 v2 : MV} (hc : code[ip]? = some (I_callV ci 2 sp)) (hn : ip + 1 = np) (h1 : shp[o]? = some (.inl q)) (h2 : q.1 = ci) (h3 : catS r ≤ 8) (k : sp [mr o, v1, v2] M (fun v M2 => Z np ls (v.toList ++ r) M2)) : Z ip ls (v2 :: v1 :: mr o :: r) M := by
  subst hn
  exact hZ.1 ip _ _ M _ hc ⟨[v1, v2], o, r, q, rfl, rfl, h1, h2, h3, k⟩
theorem w_callV3 (hZ : Sim code Z Ret) (ip np : Nat) {o ci : Nat} {sp : SP} {q : Nat × List Nat} {v1 v2 v3 : MV} (hc : code[ip]? = some (I_callV ci 3 sp)) (hn : ip + 1 = np) (h1 : shp[o]? = some (.inl q)) (h2 : q.1 = ci) (h3 : catS r ≤ 8) (k : sp [mr o, v1, v2, v3] M (fun v M2 => Z np ls (v.toList ++ r) M2)) : Z ip ls (v3 :: v2 :: v1 :: mr o :: r) M := by
  subst hn
  exact hZ.1 ip _ _ M _ hc ⟨[v1, v2, v3], o, r, q, rfl, rfl, h1, h2, h3, k⟩
theorem w_callS1 (hZ : Sim code Z Ret) (ip np : Nat) {sp : SP} {v1 : MV} (hc : code[ip]? = some (I_callS 1 sp)) (hn : ip + 1 = np) (h3 : catS r ≤ 8) (k : sp [v1] M (fun v M2 => Z np ls (v.toList ++ r) M2)) : Z ip ls (v1 :: r) M := by
  subst hn
  exact hZ.1 ip _ _ M _ hc ⟨[v1], r, rfl, rfl, h3, k⟩
theorem w_callS2 (hZ : Sim code Z Ret) (ip np : Nat) {sp : SP} {v1 v2 : MV} (hc : code[ip]? = some (I_callS 2 sp)) (hn : ip + 1 = np) (h3 : catS r ≤ 8) (k : sp [v1, v2] M (fun v M2 => Z np ls (v.toList ++ r) M2)) : Z ip ls (v2 :: v1 :: r) M := by
  subst hn
  exact hZ.1 ip _ _ M _ hc ⟨[v1, v2], r, rfl, rfl, h3, k⟩
theorem w_callS3 (hZ : Sim code Z Ret) (ip np : Nat) {sp : SP} {v1 v2 v3 : MV} (hc : code[ip]? = some (I_callS 3 sp)) (hn : ip + 1 = np) (h3 : catS r ≤ 8) (k : sp [v1, v2, v3] M (fun v M2 => Z np ls (v.toList ++ r) M2)) : Z ip ls (v3 :: v2 :: v1 :: r) M := by
  subst hn
  exact hZ.1 ip _ _ M _ hc ⟨[v1, v2, v3], r, rfl, rfl, h3, k⟩
theorem w_callS4 (hZ : Sim code Z Ret) (ip np : Nat) {sp : SP} {v1 v2 v3 v4 : MV} (hc : code[ip]? = some (I_callS 4 sp)) (hn : ip + 1 = np) (h3 : catS r ≤ 8) (k : sp [v1, v2, v3, v4] M (fun v M2 => Z np ls (v.toList ++ r) M2)) : Z ip ls (v4 :: v3 :: v2 :: v1 :: r) M := by
  subst hn
  exact hZ.1 ip _ _ M _ hc ⟨[v1, v2, v3, v4], r, rfl, rfl, h3, k⟩
theorem w_callS5 (hZ : Sim code Z Ret) (ip np : Nat) {sp : SP} {v1 v2 v3 v4 v5 : MV} (hc : code[ip]? = some (I_callS 5 sp)) (hn : ip + 1 = np) (h3 : catS r ≤ 8) (k : sp [v1, v2, v3, v4, v5] M (fun v M2 => Z np ls (v.toList ++ r) M2)) : Z ip ls (v5 :: v4 :: v3 :: v2 :: v1 :: r) M := by
  subst hn
  exact hZ.1 ip _ _ M _ hc ⟨[v1, v2, v3, v4, v5], r, rfl, rfl, h3, k⟩
theorem w_callV5 (hZ : Sim code Z Ret) (ip np : Nat) {o ci : Nat} {sp : SP} {q : Nat × List Nat} {v1 v2 v3 v4 v5 : MV} (hc : code[ip]? = some (I_callV ci 5 sp)) (hn : ip + 1 = np) (h1 : shp[o]? = some (.inl q)) (h2 : q.1 = ci) (h3 : catS r ≤ 8) (k : sp [mr o, v1, v2, v3, v4, v5] M (fun v M2 => Z np ls (v.toList ++ r) M2)) : Z ip ls (v5 :: v4 :: v3 :: v2 :: v1 :: mr o :: r) M := by
  subst hn
  exact hZ.1 ip _ _ M _ hc ⟨[v1, v2, v3, v4, v5], o, r, q, rfl, rfl, h1, h2, h3, k⟩
theorem w_iret (hZ : Sim code Z Ret) (ip : Nat) {z : Int} (hc : code[ip]? = some I_iret) (k : Ret (some (mi z)) M) : Z ip ls [mi z] M := hZ.1 ip _ _ M _ hc ⟨z, rfl, k⟩
theorem w_zret (hZ : Sim code Z Ret) (ip : Nat) {z : Int} (hc : code[ip]? = some I_zret) (h : z = 0 ∨ z = 1) (k : Ret (some (mi z)) M) : Z ip ls [mi z] M := hZ.1 ip _ _ M _ hc ⟨z, rfl, h, k⟩
theorem w_vret (hZ : Sim code Z Ret) (ip : Nat) (hc : code[ip]? = some I_vret) (k : Ret none M) : Z ip ls [] M := hZ.1 ip _ _ M _ hc ⟨rfl, k⟩
end ROWS
section ROWS2
variable {code : List Sem} {Z : KZ} {Ret : KR} {M : Mem} {r : List MV}
theorem gen_mem' {Ret : KR} {v : Option MV} {N0 : Mem} (P : Mem → Prop) (h : P N0) (k : ∀ N : Mem, P N → Ret v N) : Ret v N0 := k N0 h
theorem gen_mem {Z : KZ} {ip : Nat} {ls : List (Option MV)} {st : List MV} {N0 : Mem} (P : Mem → Prop) (h : P N0) (k : ∀ N : Mem, P N → Z ip ls st N) : Z ip ls st N0 := k N0 h
theorem ret_i {Ret : KR} {M : Mem} {z z2 : Int} (h : Ret (some (mi z)) M) (e : z = z2) : Ret (some (mi z2)) M := e ▸ h
theorem w_st2_0 (hZ : Sim code Z Ret) (ip np : Nat) {a0 a1 : Option MV} {z : Int} (hc : code[ip]? = some (I_istore 0)) (hn : ip + 1 = np) (h2 : noL [a0, a1] = true) (k : Z np [some (mi z), a1] r M) : Z ip [a0, a1] (mi z :: r) M := w_istore hZ ip np hc hn (Nat.le_of_ble_eq_true rfl) h2 rfl k
theorem w_in2_0 (hZ : Sim code Z Ret) (ip np : Nat) {a1 : Option MV} {z n : Int} (hc : code[ip]? = some (I_iinc 0 n)) (hn : ip + 1 = np) (h2 : noL [some (mi z), a1] = true) (h3 : InR (z + n)) (k : Z np [some (mi (z + n)), a1] r M) : Z ip [some (mi z), a1] r M := w_iinc hZ ip np hc hn rfl h2 h3 rfl k
theorem w_st2_1 (hZ : Sim code Z Ret) (ip np : Nat) {a0 a1 : Option MV} {z : Int} (hc : code[ip]? = some (I_istore 1)) (hn : ip + 1 = np) (h2 : noL [a0, a1] = true) (k : Z np [a0, some (mi z)] r M) : Z ip [a0, a1] (mi z :: r) M := w_istore hZ ip np hc hn (Nat.le_of_ble_eq_true rfl) h2 rfl k
theorem w_in2_1 (hZ : Sim code Z Ret) (ip np : Nat) {a0 : Option MV} {z n : Int} (hc : code[ip]? = some (I_iinc 1 n)) (hn : ip + 1 = np) (h2 : noL [a0, some (mi z)] = true) (h3 : InR (z + n)) (k : Z np [a0, some (mi (z + n))] r M) : Z ip [a0, some (mi z)] r M := w_iinc hZ ip np hc hn rfl h2 h3 rfl k
theorem w_st3_0 (hZ : Sim code Z Ret) (ip np : Nat) {a0 a1 a2 : Option MV} {z : Int} (hc : code[ip]? = some (I_istore 0)) (hn : ip + 1 = np) (h2 : noL [a0, a1, a2] = true) (k : Z np [some (mi z), a1, a2] r M) : Z ip [a0, a1, a2] (mi z :: r) M := w_istore hZ ip np hc hn (Nat.le_of_ble_eq_true rfl) h2 rfl k
theorem w_in3_0 (hZ : Sim code Z Ret) (ip np : Nat) {a1 a2 : Option MV} {z n : Int} (hc : code[ip]? = some (I_iinc 0 n)) (hn : ip + 1 = np) (h2 : noL [some (mi z), a1, a2] = true) (h3 : InR (z + n)) (k : Z np [some (mi (z + n)), a1, a2] r M) : Z ip [some (mi z), a1, a2] r M := w_iinc hZ ip np hc hn rfl h2 h3 rfl k
theorem w_st3_1 (hZ : Sim code Z Ret) (ip np : Nat) {a0 a1 a2 : Option MV} {z : Int} (hc : code[ip]? = some (I_istore 1)) (hn : ip + 1 = np) (h2 : noL [a0, a1, a2] = true) (k : Z np [a0, some (mi z), a2] r M) : Z ip [a0, a1, a2] (mi z :: r) M := w_istore hZ ip np hc hn (Nat.le_of_ble_eq_true rfl) h2 rfl k
theorem w_in3_1 (hZ : Sim code Z Ret) (ip np : Nat) {a0 a2 : Option MV} {z n : Int} (hc : code[ip]? = some (I_iinc 1 n)) (hn : ip + 1 = np) (h2 : noL [a0, some (mi z), a2] = true) (h3 : InR (z + n)) (k : Z np [a0, some (mi (z + n)), a2] r M) : Z ip [a0, some (mi z), a2] r M := w_iinc hZ ip np hc hn rfl h2 h3 rfl k
theorem w_st3_2 (hZ : Sim code Z Ret) (ip np : Nat) {a0 a1 a2 : Option MV} {z : Int} (hc : code[ip]? = some (I_istore 2)) (hn : ip + 1 = np) (h2 : noL [a0, a1, a2] = true) (k : Z np [a0, a1, some (mi z)] r M) : Z ip [a0, a1, a2] (mi z :: r) M := w_istore hZ ip np hc hn (Nat.le_of_ble_eq_true rfl) h2 rfl k
theorem w_in3_2 (hZ : Sim code Z Ret) (ip np : Nat) {a0 a1 : Option MV} {z n : Int} (hc : code[ip]? = some (I_iinc 2 n)) (hn : ip + 1 = np) (h2 : noL [a0, a1, some (mi z)] = true) (h3 : InR (z + n)) (k : Z np [a0, a1, some (mi (z + n))] r M) : Z ip [a0, a1, some (mi z)] r M := w_iinc hZ ip np hc hn rfl h2 h3 rfl k
theorem w_st4_0 (hZ : Sim code Z Ret) (ip np : Nat) {a0 a1 a2 a3 : Option MV} {z : Int} (hc : code[ip]? = some (I_istore 0)) (hn : ip + 1 = np) (h2 : noL [a0, a1, a2, a3] = true) (k : Z np [some (mi z), a1, a2, a3] r M) : Z ip [a0, a1, a2, a3] (mi z :: r) M := w_istore hZ ip np hc hn (Nat.le_of_ble_eq_true rfl) h2 rfl k
theorem w_in4_0 (hZ : Sim code Z Ret) (ip np : Nat) {a1 a2 a3 : Option MV} {z n : Int} (hc : code[ip]? = some (I_iinc 0 n)) (hn : ip + 1 = np) (h2 : noL [some (mi z), a1, a2, a3] = true) (h3 : InR (z + n)) (k : Z np [some (mi (z + n)), a1, a2, a3] r M) : Z ip [some (mi z), a1, a2, a3] r M := w_iinc hZ ip np hc hn rfl h2 h3 rfl k
theorem w_st4_1 (hZ : Sim code Z Ret) (ip np : Nat) {a0 a1 a2 a3 : Option MV} {z : Int} (hc : code[ip]? = some (I_istore 1)) (hn : ip + 1 = np) (h2 : noL [a0, a1, a2, a3] = true) (k : Z np [a0, some (mi z), a2, a3] r M) : Z ip [a0, a1, a2, a3] (mi z :: r) M := w_istore hZ ip np hc hn (Nat.le_of_ble_eq_true rfl) h2 rfl k
theorem w_in4_1 (hZ : Sim code Z Ret) (ip np : Nat) {a0 a2 a3 : Option MV} {z n : Int} (hc : code[ip]? = some (I_iinc 1 n)) (hn : ip + 1 = np) (h2 : noL [a0, some (mi z), a2, a3] = true) (h3 : InR (z + n)) (k : Z np [a0, some (mi (z + n)), a2, a3] r M) : Z ip [a0, some (mi z), a2, a3] r M := w_iinc hZ ip np hc hn rfl h2 h3 rfl k
theorem w_st4_2 (hZ : Sim code Z Ret) (ip np : Nat) {a0 a1 a2 a3 : Option MV} {z : Int} (hc : code[ip]? = some (I_istore 2)) (hn : ip + 1 = np) (h2 : noL [a0, a1, a2, a3] = true) (k : Z np [a0, a1, some (mi z), a3] r M) : Z ip [a0, a1, a2, a3] (mi z :: r) M := w_istore hZ ip np hc hn (Nat.le_of_ble_eq_true rfl) h2 rfl k
theorem w_in4_2 (hZ : Sim code Z Ret) (ip np : Nat) {a0 a1 a3 : Option MV} {z n : Int} (hc : code[ip]? = some (I_iinc 2 n)) (hn : ip + 1 = np) (h2 : noL [a0, a1, some (mi z), a3] = true) (h3 : InR (z + n)) (k : Z np [a0, a1, some (mi (z + n)), a3] r M) : Z ip [a0, a1, some (mi z), a3] r M := w_iinc hZ ip np hc hn rfl h2 h3 rfl k
theorem w_st4_3 (hZ : Sim code Z Ret) (ip np : Nat) {a0 a1 a2 a3 : Option MV} {z : Int} (hc : code[ip]? = some (I_istore 3)) (hn : ip + 1 = np) (h2 : noL [a0, a1, a2, a3] = true) (k : Z np [a0, a1, a2, some (mi z)] r M) : Z ip [a0, a1, a2, a3] (mi z :: r) M := w_istore hZ ip np hc hn (Nat.le_of_ble_eq_true rfl) h2 rfl k
theorem w_in4_3 (hZ : Sim code Z Ret) (ip np : Nat) {a0 a1 a2 : Option MV} {z n : Int} (hc : code[ip]? = some (I_iinc 3 n)) (hn : ip + 1 = np) (h2 : noL [a0, a1, a2, some (mi z)] = true) (h3 : InR (z + n)) (k : Z np [a0, a1, a2, some (mi (z + n))] r M) : Z ip [a0, a1, a2, some (mi z)] r M := w_iinc hZ ip np hc hn rfl h2 h3 rfl k
theorem w_st5_0 (hZ : Sim code Z Ret) (ip np : Nat) {a0 a1 a2 a3 a4 : Option MV} {z : Int} (hc : code[ip]? = some (I_istore 0)) (hn : ip + 1 = np) (h2 : noL [a0, a1, a2, a3, a4] = true) (k : Z np [some (mi z), a1, a2, a3, a4] r M) : Z ip [a0, a1, a2, a3, a4] (mi z :: r) M := w_istore hZ ip np hc hn (Nat.le_of_ble_eq_true rfl) h2 rfl k
theorem w_in5_0 (hZ : Sim code Z Ret) (ip np : Nat) {a1 a2 a3 a4 : Option MV} {z n : Int} (hc : code[ip]? = some (I_iinc 0 n)) (hn : ip + 1 = np) (h2 : noL [some (mi z), a1, a2, a3, a4] = true) (h3 : InR (z + n)) (k : Z np [some (mi (z + n)), a1, a2, a3, a4] r M) : Z ip [some (mi z), a1, a2, a3, a4] r M := w_iinc hZ ip np hc hn rfl h2 h3 rfl k
theorem w_st5_1 (hZ : Sim code Z Ret) (ip np : Nat) {a0 a1 a2 a3 a4 : Option MV} {z : Int} (hc : code[ip]? = some (I_istore 1)) (hn : ip + 1 = np) (h2 : noL [a0, a1, a2, a3, a4] = true) (k : Z np [a0, some (mi z), a2, a3, a4] r M) : Z ip [a0, a1, a2, a3, a4] (mi z :: r) M := w_istore hZ ip np hc hn (Nat.le_of_ble_eq_true rfl) h2 rfl k
theorem w_in5_1 (hZ : Sim code Z Ret) (ip np : Nat) {a0 a2 a3 a4 : Option MV} {z n : Int} (hc : code[ip]? = some (I_iinc 1 n)) (hn : ip + 1 = np) (h2 : noL [a0, some (mi z), a2, a3, a4] = true) (h3 : InR (z + n)) (k : Z np [a0, some (mi (z + n)), a2, a3, a4] r M) : Z ip [a0, some (mi z), a2, a3, a4] r M := w_iinc hZ ip np hc hn rfl h2 h3 rfl k
theorem w_st5_2 (hZ : Sim code Z Ret) (ip np : Nat) {a0 a1 a2 a3 a4 : Option MV} {z : Int} (hc : code[ip]? = some (I_istore 2)) (hn : ip + 1 = np) (h2 : noL [a0, a1, a2, a3, a4] = true) (k : Z np [a0, a1, some (mi z), a3, a4] r M) : Z ip [a0, a1, a2, a3, a4] (mi z :: r) M := w_istore hZ ip np hc hn (Nat.le_of_ble_eq_true rfl) h2 rfl k
theorem w_in5_2 (hZ : Sim code Z Ret) (ip np : Nat) {a0 a1 a3 a4 : Option MV} {z n : Int} (hc : code[ip]? = some (I_iinc 2 n)) (hn : ip + 1 = np) (h2 : noL [a0, a1, some (mi z), a3, a4] = true) (h3 : InR (z + n)) (k : Z np [a0, a1, some (mi (z + n)), a3, a4] r M) : Z ip [a0, a1, some (mi z), a3, a4] r M := w_iinc hZ ip np hc hn rfl h2 h3 rfl k
theorem w_st5_3 (hZ : Sim code Z Ret) (ip np : Nat) {a0 a1 a2 a3 a4 : Option MV} {z : Int} (hc : code[ip]? = some (I_istore 3)) (hn : ip + 1 = np) (h2 : noL [a0, a1, a2, a3, a4] = true) (k : Z np [a0, a1, a2, some (mi z), a4] r M) : Z ip [a0, a1, a2, a3, a4] (mi z :: r) M := w_istore hZ ip np hc hn (Nat.le_of_ble_eq_true rfl) h2 rfl k
theorem w_in5_3 (hZ : Sim code Z Ret) (ip np : Nat) {a0 a1 a2 a4 : Option MV} {z n : Int} (hc : code[ip]? = some (I_iinc 3 n)) (hn : ip + 1 = np) (h2 : noL [a0, a1, a2, some (mi z), a4] = true) (h3 : InR (z + n)) (k : Z np [a0, a1, a2, some (mi (z + n)), a4] r M) : Z ip [a0, a1, a2, some (mi z), a4] r M := w_iinc hZ ip np hc hn rfl h2 h3 rfl k
theorem w_st5_4 (hZ : Sim code Z Ret) (ip np : Nat) {a0 a1 a2 a3 a4 : Option MV} {z : Int} (hc : code[ip]? = some (I_istore 4)) (hn : ip + 1 = np) (h2 : noL [a0, a1, a2, a3, a4] = true) (k : Z np [a0, a1, a2, a3, some (mi z)] r M) : Z ip [a0, a1, a2, a3, a4] (mi z :: r) M := w_istore hZ ip np hc hn (Nat.le_of_ble_eq_true rfl) h2 rfl k
theorem w_in5_4 (hZ : Sim code Z Ret) (ip np : Nat) {a0 a1 a2 a3 : Option MV} {z n : Int} (hc : code[ip]? = some (I_iinc 4 n)) (hn : ip + 1 = np) (h2 : noL [a0, a1, a2, a3, some (mi z)] = true) (h3 : InR (z + n)) (k : Z np [a0, a1, a2, a3, some (mi (z + n))] r M) : Z ip [a0, a1, a2, a3, some (mi z)] r M := w_iinc hZ ip np hc hn rfl h2 h3 rfl k
theorem w_st6_0 (hZ : Sim code Z Ret) (ip np : Nat) {a0 a1 a2 a3 a4 a5 : Option MV} {z : Int} (hc : code[ip]? = some (I_istore 0)) (hn : ip + 1 = np) (h2 : noL [a0, a1, a2, a3, a4, a5] = true) (k : Z np [some (mi z), a1, a2, a3, a4, a5] r M) : Z ip [a0, a1, a2, a3, a4, a5] (mi z :: r) M := w_istore hZ ip np hc hn (Nat.le_of_ble_eq_true rfl) h2 rfl k
theorem w_in6_0 (hZ : Sim code Z Ret) (ip np : Nat) {a1 a2 a3 a4 a5 : Option MV} {z n : Int} (hc : code[ip]? = some (I_iinc 0 n)) (hn : ip + 1 = np) (h2 : noL [some (mi z), a1, a2, a3, a4, a5] = true) (h3 : InR (z + n)) (k : Z np [some (mi (z + n)), a1, a2, a3, a4, a5] r M) : Z ip [some (mi z), a1, a2, a3, a4, a5] r M := w_iinc hZ ip np hc hn rfl h2 h3 rfl k
theorem w_st6_1 (hZ : Sim code Z Ret) (ip np : Nat) {a0 a1 a2 a3 a4 a5 : Option MV} {z : Int} (hc : code[ip]? = some (I_istore 1)) (hn : ip + 1 = np) (h2 : noL [a0, a1, a2, a3, a4, a5] = true) (k : Z np [a0, some (mi z), a2, a3, a4, a5] r M) : Z ip [a0, a1, a2, a3, a4, a5] (mi z :: r) M := w_istore hZ ip np hc hn (Nat.le_of_ble_eq_true rfl) h2 rfl k
theorem w_in6_1 (hZ : Sim code Z Ret) (ip np : Nat) {a0 a2 a3 a4 a5 : Option MV} {z n : Int} (hc : code[ip]? = some (I_iinc 1 n)) (hn : ip + 1 = np) (h2 : noL [a0, some (mi z), a2, a3, a4, a5] = true) (h3 : InR (z + n)) (k : Z np [a0, some (mi (z + n)), a2, a3, a4, a5] r M) : Z ip [a0, some (mi z), a2, a3, a4, a5] r M := w_iinc hZ ip np hc hn rfl h2 h3 rfl k
theorem w_st6_2 (hZ : Sim code Z Ret) (ip np : Nat) {a0 a1 a2 a3 a4 a5 : Option MV} {z : Int} (hc : code[ip]? = some (I_istore 2)) (hn : ip + 1 = np) (h2 : noL [a0, a1, a2, a3, a4, a5] = true) (k : Z np [a0, a1, some (mi z), a3, a4, a5] r M) : Z ip [a0, a1, a2, a3, a4, a5] (mi z :: r) M := w_istore hZ ip np hc hn (Nat.le_of_ble_eq_true rfl) h2 rfl k
theorem w_in6_2 (hZ : Sim code Z Ret) (ip np : Nat) {a0 a1 a3 a4 a5 : Option MV} {z n : Int} (hc : code[ip]? = some (I_iinc 2 n)) (hn : ip + 1 = np) (h2 : noL [a0, a1, some (mi z), a3, a4, a5] = true) (h3 : InR (z + n)) (k : Z np [a0, a1, some (mi (z + n)), a3, a4, a5] r M) : Z ip [a0, a1, some (mi z), a3, a4, a5] r M := w_iinc hZ ip np hc hn rfl h2 h3 rfl k
theorem w_st6_3 (hZ : Sim code Z Ret) (ip np : Nat) {a0 a1 a2 a3 a4 a5 : Option MV} {z : Int} (hc : code[ip]? = some (I_istore 3)) (hn : ip + 1 = np) (h2 : noL [a0, a1, a2, a3, a4, a5] = true) (k : Z np [a0, a1, a2, some (mi z), a4, a5] r M) : Z ip [a0, a1, a2, a3, a4, a5] (mi z :: r) M := w_istore hZ ip np hc hn (Nat.le_of_ble_eq_true rfl) h2 rfl k
theorem w_in6_3 (hZ : Sim code Z Ret) (ip np : Nat) {a0 a1 a2 a4 a5 : Option MV} {z n : Int} (hc : code[ip]? = some (I_iinc 3 n)) (hn : ip + 1 = np) (h2 : noL [a0, a1, a2, some (mi z), a4, a5] = true) (h3 : InR (z + n)) (k : Z np [a0, a1, a2, some (mi (z + n)), a4, a5] r M) : Z ip [a0, a1, a2, some (mi z), a4, a5] r M := w_iinc hZ ip np hc hn rfl h2 h3 rfl k
theorem w_st6_4 (hZ : Sim code Z Ret) (ip np : Nat) {a0 a1 a2 a3 a4 a5 : Option MV} {z : Int} (hc : code[ip]? = some (I_istore 4)) (hn : ip + 1 = np) (h2 : noL [a0, a1, a2, a3, a4, a5] = true) (k : Z np [a0, a1, a2, a3, some (mi z), a5] r M) : Z ip [a0, a1, a2, a3, a4, a5] (mi z :: r) M := w_istore hZ ip np hc hn (Nat.le_of_ble_eq_true rfl) h2 rfl k
theorem w_in6_4 (hZ : Sim code Z Ret) (ip np : Nat) {a0 a1 a2 a3 a5 : Option MV} {z n : Int} (hc : code[ip]? = some (I_iinc 4 n)) (hn : ip + 1 = np) (h2 : noL [a0, a1, a2, a3, some (mi z), a5] = true) (h3 : InR (z + n)) (k : Z np [a0, a1, a2, a3, some (mi (z + n)), a5] r M) : Z ip [a0, a1, a2, a3, some (mi z), a5] r M := w_iinc hZ ip np hc hn rfl h2 h3 rfl k
theorem w_st6_5 (hZ : Sim code Z Ret) (ip np : Nat) {a0 a1 a2 a3 a4 a5 : Option MV} {z : Int} (hc : code[ip]? = some (I_istore 5)) (hn : ip + 1 = np) (h2 : noL [a0, a1, a2, a3, a4, a5] = true) (k : Z np [a0, a1, a2, a3, a4, some (mi z)] r M) : Z ip [a0, a1, a2, a3, a4, a5] (mi z :: r) M := w_istore hZ ip np hc hn (Nat.le_of_ble_eq_true rfl) h2 rfl k
theorem w_in6_5 (hZ : Sim code Z Ret) (ip np : Nat) {a0 a1 a2 a3 a4 : Option MV} {z n : Int} (hc : code[ip]? = some (I_iinc 5 n)) (hn : ip + 1 = np) (h2 : noL [a0, a1, a2, a3, a4, some (mi z)] = true) (h3 : InR (z + n)) (k : Z np [a0, a1, a2, a3, a4, some (mi (z + n))] r M) : Z ip [a0, a1, a2, a3, a4, some (mi z)] r M := w_iinc hZ ip np hc hn rfl h2 h3 rfl k
theorem w_st7_0 (hZ : Sim code Z Ret) (ip np : Nat) {a0 a1 a2 a3 a4 a5 a6 : Option MV} {z : Int} (hc : code[ip]? = some (I_istore 0)) (hn : ip + 1 = np) (h2 : noL [a0, a1, a2, a3, a4, a5, a6] = true) (k : Z np [some (mi z), a1, a2, a3, a4, a5, a6] r M) : Z ip [a0, a1, a2, a3, a4, a5, a6] (mi z :: r) M := w_istore hZ ip np hc hn (Nat.le_of_ble_eq_true rfl) h2 rfl k
theorem w_in7_0 (hZ : Sim code Z Ret) (ip np : Nat) {a1 a2 a3 a4 a5 a6 : Option MV} {z n : Int} (hc : code[ip]? = some (I_iinc 0 n)) (hn : ip + 1 = np) (h2 : noL [some (mi z), a1, a2, a3, a4, a5, a6] = true) (h3 : InR (z + n)) (k : Z np [some (mi (z + n)), a1, a2, a3, a4, a5, a6] r M) : Z ip [some (mi z), a1, a2, a3, a4, a5, a6] r M := w_iinc hZ ip np hc hn rfl h2 h3 rfl k
theorem w_st7_1 (hZ : Sim code Z Ret) (ip np : Nat) {a0 a1 a2 a3 a4 a5 a6 : Option MV} {z : Int} (hc : code[ip]? = some (I_istore 1)) (hn : ip + 1 = np) (h2 : noL [a0, a1, a2, a3, a4, a5, a6] = true) (k : Z np [a0, some (mi z), a2, a3, a4, a5, a6] r M) : Z ip [a0, a1, a2, a3, a4, a5, a6] (mi z :: r) M := w_istore hZ ip np hc hn (Nat.le_of_ble_eq_true rfl) h2 rfl k
theorem w_in7_1 (hZ : Sim code Z Ret) (ip np : Nat) {a0 a2 a3 a4 a5 a6 : Option MV} {z n : Int} (hc : code[ip]? = some (I_iinc 1 n)) (hn : ip + 1 = np) (h2 : noL [a0, some (mi z), a2, a3, a4, a5, a6] = true) (h3 : InR (z + n)) (k : Z np [a0, some (mi (z + n)), a2, a3, a4, a5, a6] r M) : Z ip [a0, some (mi z), a2, a3, a4, a5, a6] r M := w_iinc hZ ip np hc hn rfl h2 h3 rfl k
theorem w_st7_2 (hZ : Sim code Z Ret) (ip np : Nat) {a0 a1 a2 a3 a4 a5 a6 : Option MV} {z : Int} (hc : code[ip]? = some (I_istore 2)) (hn : ip + 1 = np) (h2 : noL [a0, a1, a2, a3, a4, a5, a6] = true) (k : Z np [a0, a1, some (mi z), a3, a4, a5, a6] r M) : Z ip [a0, a1, a2, a3, a4, a5, a6] (mi z :: r) M := w_istore hZ ip np hc hn (Nat.le_of_ble_eq_true rfl) h2 rfl k
theorem w_in7_2 (hZ : Sim code Z Ret) (ip np : Nat) {a0 a1 a3 a4 a5 a6 : Option MV} {z n : Int} (hc : code[ip]? = some (I_iinc 2 n)) (hn : ip + 1 = np) (h2 : noL [a0, a1, some (mi z), a3, a4, a5, a6] = true) (h3 : InR (z + n)) (k : Z np [a0, a1, some (mi (z + n)), a3, a4, a5, a6] r M) : Z ip [a0, a1, some (mi z), a3, a4, a5, a6] r M := w_iinc hZ ip np hc hn rfl h2 h3 rfl k
theorem w_st7_3 (hZ : Sim code Z Ret) (ip np : Nat) {a0 a1 a2 a3 a4 a5 a6 : Option MV} {z : Int} (hc : code[ip]? = some (I_istore 3)) (hn : ip + 1 = np) (h2 : noL [a0, a1, a2, a3, a4, a5, a6] = true) (k : Z np [a0, a1, a2, some (mi z), a4, a5, a6] r M) : Z ip [a0, a1, a2, a3, a4, a5, a6] (mi z :: r) M := w_istore hZ ip np hc hn (Nat.le_of_ble_eq_true rfl) h2 rfl k
theorem w_in7_3 (hZ : Sim code Z Ret) (ip np : Nat) {a0 a1 a2 a4 a5 a6 : Option MV} {z n : Int} (hc : code[ip]? = some (I_iinc 3 n)) (hn : ip + 1 = np) (h2 : noL [a0, a1, a2, some (mi z), a4, a5, a6] = true) (h3 : InR (z + n)) (k : Z np [a0, a1, a2, some (mi (z + n)), a4, a5, a6] r M) : Z ip [a0, a1, a2, some (mi z), a4, a5, a6] r M := w_iinc hZ ip np hc hn rfl h2 h3 rfl k
theorem w_st7_4 (hZ : Sim code Z Ret) (ip np : Nat) {a0 a1 a2 a3 a4 a5 a6 : Option MV} {z : Int} (hc : code[ip]? = some (I_istore 4)) (hn : ip + 1 = np) (h2 : noL [a0, a1, a2, a3, a4, a5, a6] = true) (k : Z np [a0, a1, a2, a3, some (mi z), a5, a6] r M) : Z ip [a0, a1, a2, a3, a4, a5, a6] (mi z :: r) M := w_istore hZ ip np hc hn (Nat.le_of_ble_eq_true rfl) h2 rfl k
theorem w_in7_4 (hZ : Sim code Z Ret) (ip np : Nat) {a0 a1 a2 a3 a5 a6 : Option MV} {z n : Int} (hc : code[ip]? = some (I_iinc 4 n)) (hn : ip + 1 = np) (h2 : noL [a0, a1, a2, a3, some (mi z), a5, a6] = true) (h3 : InR (z + n)) (k : Z np [a0, a1, a2, a3, some (mi (z + n)), a5, a6] r M) : Z ip [a0, a1, a2, a3, some (mi z), a5, a6] r M := w_iinc hZ ip np hc hn rfl h2 h3 rfl k
theorem w_st7_5 (hZ : Sim code Z Ret) (ip np : Nat) {a0 a1 a2 a3 a4 a5 a6 : Option MV} {z : Int} (hc : code[ip]? = some (I_istore 5)) (hn : ip + 1 = np) (h2 : noL [a0, a1, a2, a3, a4, a5, a6] = true) (k : Z np [a0, a1, a2, a3, a4, some (mi z), a6] r M) : Z ip [a0, a1, a2, a3, a4, a5, a6] (mi z :: r) M := w_istore hZ ip np hc hn (Nat.le_of_ble_eq_true rfl) h2 rfl k
theorem w_in7_5 (hZ : Sim code Z Ret) (ip np : Nat) {a0 a1 a2 a3 a4 a6 : Option MV} {z n : Int} (hc : code[ip]? = some (I_iinc 5 n)) (hn : ip + 1 = np) (h2 : noL [a0, a1, a2, a3, a4, some (mi z), a6] = true) (h3 : InR (z + n)) (k : Z np [a0, a1, a2, a3, a4, some (mi (z + n)), a6] r M) : Z ip [a0, a1, a2, a3, a4, some (mi z), a6] r M := w_iinc hZ ip np hc hn rfl h2 h3 rfl k
theorem w_st7_6 (hZ : Sim code Z Ret) (ip np : Nat) {a0 a1 a2 a3 a4 a5 a6 : Option MV} {z : Int} (hc : code[ip]? = some (I_istore 6)) (hn : ip + 1 = np) (h2 : noL [a0, a1, a2, a3, a4, a5, a6] = true) (k : Z np [a0, a1, a2, a3, a4, a5, some (mi z)] r M) : Z ip [a0, a1, a2, a3, a4, a5, a6] (mi z :: r) M := w_istore hZ ip np hc hn (Nat.le_of_ble_eq_true rfl) h2 rfl k
theorem w_in7_6 (hZ : Sim code Z Ret) (ip np : Nat) {a0 a1 a2 a3 a4 a5 : Option MV} {z n : Int} (hc : code[ip]? = some (I_iinc 6 n)) (hn : ip + 1 = np) (h2 : noL [a0, a1, a2, a3, a4, a5, some (mi z)] = true) (h3 : InR (z + n)) (k : Z np [a0, a1, a2, a3, a4, a5, some (mi (z + n))] r M) : Z ip [a0, a1, a2, a3, a4, a5, some (mi z)] r M := w_iinc hZ ip np hc hn rfl h2 h3 rfl k
theorem w_st8_0 (hZ : Sim code Z Ret) (ip np : Nat) {a0 a1 a2 a3 a4 a5 a6 a7 : Option MV} {z : Int} (hc : code[ip]? = some (I_istore 0)) (hn : ip + 1 = np) (h2 : noL [a0, a1, a2, a3, a4, a5, a6, a7] = true) (k : Z np [some (mi z), a1, a2, a3, a4, a5, a6, a7] r M) : Z ip [a0, a1, a2, a3, a4, a5, a6, a7] (mi z :: r) M := w_istore hZ ip np hc hn (Nat.le_of_ble_eq_true rfl) h2 rfl k
theorem w_in8_0 (hZ : Sim code Z Ret) (ip np : Nat) {a1 a2 a3 a4 a5 a6 a7 : Option MV} {z n : Int} (hc : code[ip]? = some (I_iinc 0 n)) (hn : ip + 1 = np) (h2 : noL [some (mi z), a1, a2, a3, a4, a5, a6, a7] = true) (h3 : InR (z + n)) (k : Z np [some (mi (z + n)), a1, a2, a3, a4, a5, a6, a7] r M) : Z ip [some (mi z), a1, a2, a3, a4, a5, a6, a7] r M := w_iinc hZ ip np hc hn rfl h2 h3 rfl k
theorem w_st8_1 (hZ : Sim code Z Ret) (ip np : Nat) {a0 a1 a2 a3 a4 a5 a6 a7 : Option MV} {z : Int} (hc : code[ip]? = some (I_istore 1)) (hn : ip + 1 = np) (h2 : noL [a0, a1, a2, a3, a4, a5, a6, a7] = true) (k : Z np [a0, some (mi z), a2, a3, a4, a5, a6, a7] r M) : Z ip [a0, a1, a2, a3, a4, a5, a6, a7] (mi z :: r) M := w_istore hZ ip np hc hn (Nat.le_of_ble_eq_true rfl) h2 rfl k
theorem w_in8_1 (hZ : Sim code Z Ret) (ip np : Nat) {a0 a2 a3 a4 a5 a6 a7 : Option MV} {z n : Int} (hc : code[ip]? = some (I_iinc 1 n)) (hn : ip + 1 = np) (h2 : noL [a0, some (mi z), a2, a3, a4, a5, a6, a7] = true) (h3 : InR (z + n)) (k : Z np [a0, some (mi (z + n)), a2, a3, a4, a5, a6, a7] r M) : Z ip [a0, some (mi z), a2, a3, a4, a5, a6, a7] r M := w_iinc hZ ip np hc hn rfl h2 h3 rfl k
theorem w_st8_2 (hZ : Sim code Z Ret) (ip np : Nat) {a0 a1 a2 a3 a4 a5 a6 a7 : Option MV} {z : Int} (hc : code[ip]? = some (I_istore 2)) (hn : ip + 1 = np) (h2 : noL [a0, a1, a2, a3, a4, a5, a6, a7] = true) (k : Z np [a0, a1, some (mi z), a3, a4, a5, a6, a7] r M) : Z ip [a0, a1, a2, a3, a4, a5, a6, a7] (mi z :: r) M := w_istore hZ ip np hc hn (Nat.le_of_ble_eq_true rfl) h2 rfl k
theorem w_in8_2 (hZ : Sim code Z Ret) (ip np : Nat) {a0 a1 a3 a4 a5 a6 a7 : Option MV} {z n : Int} (hc : code[ip]? = some (I_iinc 2 n)) (hn : ip + 1 = np) (h2 : noL [a0, a1, some (mi z), a3, a4, a5, a6, a7] = true) (h3 : InR (z + n)) (k : Z np [a0, a1, some (mi (z + n)), a3, a4, a5, a6, a7] r M) : Z ip [a0, a1, some (mi z), a3, a4, a5, a6, a7] r M := w_iinc hZ ip np hc hn rfl h2 h3 rfl k
theorem w_st8_3 (hZ : Sim code Z Ret) (ip np : Nat) {a0 a1 a2 a3 a4 a5 a6 a7 : Option MV} {z : Int} (hc : code[ip]? = some (I_istore 3)) (hn : ip + 1 = np) (h2 : noL [a0, a1, a2, a3, a4, a5, a6, a7] = true) (k : Z np [a0, a1, a2, some (mi z), a4, a5, a6, a7] r M) : Z ip [a0, a1, a2, a3, a4, a5, a6, a7] (mi z :: r) M := w_istore hZ ip np hc hn (Nat.le_of_ble_eq_true rfl) h2 rfl k
theorem w_in8_3 (hZ : Sim code Z Ret) (ip np : Nat) {a0 a1 a2 a4 a5 a6 a7 : Option MV} {z n : Int} (hc : code[ip]? = some (I_iinc 3 n)) (hn : ip + 1 = np) (h2 : noL [a0, a1, a2, some (mi z), a4, a5, a6, a7] = true) (h3 : InR (z + n)) (k : Z np [a0, a1, a2, some (mi (z + n)), a4, a5, a6, a7] r M) : Z ip [a0, a1, a2, some (mi z), a4, a5, a6, a7] r M := w_iinc hZ ip np hc hn rfl h2 h3 rfl k
theorem w_st8_4 (hZ : Sim code Z Ret) (ip np : Nat) {a0 a1 a2 a3 a4 a5 a6 a7 : Option MV} {z : Int} (hc : code[ip]? = some (I_istore 4)) (hn : ip + 1 = np) (h2 : noL [a0, a1, a2, a3, a4, a5, a6, a7] = true) (k : Z np [a0, a1, a2, a3, some (mi z), a5, a6, a7] r M) : Z ip [a0, a1, a2, a3, a4, a5, a6, a7] (mi z :: r) M := w_istore hZ ip np hc hn (Nat.le_of_ble_eq_true rfl) h2 rfl k
theorem w_in8_4 (hZ : Sim code Z Ret) (ip np : Nat) {a0 a1 a2 a3 a5 a6 a7 : Option MV} {z n : Int} (hc : code[ip]? = some (I_iinc 4 n)) (hn : ip + 1 = np) (h2 : noL [a0, a1, a2, a3, some (mi z), a5, a6, a7] = true) (h3 : InR (z + n)) (k : Z np [a0, a1, a2, a3, some (mi (z + n)), a5, a6, a7] r M) : Z ip [a0, a1, a2, a3, some (mi z), a5, a6, a7] r M := w_iinc hZ ip np hc hn rfl h2 h3 rfl k
theorem w_st8_5 (hZ : Sim code Z Ret) (ip np : Nat) {a0 a1 a2 a3 a4 a5 a6 a7 : Option MV} {z : Int} (hc : code[ip]? = some (I_istore 5)) (hn : ip + 1 = np) (h2 : noL [a0, a1, a2, a3, a4, a5, a6, a7] = true) (k : Z np [a0, a1, a2, a3, a4, some (mi z), a6, a7] r M) : Z ip [a0, a1, a2, a3, a4, a5, a6, a7] (mi z :: r) M := w_istore hZ ip np hc hn (Nat.le_of_ble_eq_true rfl) h2 rfl k
theorem w_in8_5 (hZ : Sim code Z Ret) (ip np : Nat) {a0 a1 a2 a3 a4 a6 a7 : Option MV} {z n : Int} (hc : code[ip]? = some (I_iinc 5 n)) (hn : ip + 1 = np) (h2 : noL [a0, a1, a2, a3, a4, some (mi z), a6, a7] = true) (h3 : InR (z + n)) (k : Z np [a0, a1, a2, a3, a4, some (mi (z + n)), a6, a7] r M) : Z ip [a0, a1, a2, a3, a4, some (mi z), a6, a7] r M := w_iinc hZ ip np hc hn rfl h2 h3 rfl k
theorem w_st8_6 (hZ : Sim code Z Ret) (ip np : Nat) {a0 a1 a2 a3 a4 a5 a6 a7 : Option MV} {z : Int} (hc : code[ip]? = some (I_istore 6)) (hn : ip + 1 = np) (h2 : noL [a0, a1, a2, a3, a4, a5, a6, a7] = true) (k : Z np [a0, a1, a2, a3, a4, a5, some (mi z), a7] r M) : Z ip [a0, a1, a2, a3, a4, a5, a6, a7] (mi z :: r) M := w_istore hZ ip np hc hn (Nat.le_of_ble_eq_true rfl) h2 rfl k
theorem w_in8_6 (hZ : Sim code Z Ret) (ip np : Nat) {a0 a1 a2 a3 a4 a5 a7 : Option MV} {z n : Int} (hc : code[ip]? = some (I_iinc 6 n)) (hn : ip + 1 = np) (h2 : noL [a0, a1, a2, a3, a4, a5, some (mi z), a7] = true) (h3 : InR (z + n)) (k : Z np [a0, a1, a2, a3, a4, a5, some (mi (z + n)), a7] r M) : Z ip [a0, a1, a2, a3, a4, a5, some (mi z), a7] r M := w_iinc hZ ip np hc hn rfl h2 h3 rfl k
theorem w_st8_7 (hZ : Sim code Z Ret) (ip np : Nat) {a0 a1 a2 a3 a4 a5 a6 a7 : Option MV} {z : Int} (hc : code[ip]? = some (I_istore 7)) (hn : ip + 1 = np) (h2 : noL [a0, a1, a2, a3, a4, a5, a6, a7] = true) (k : Z np [a0, a1, a2, a3, a4, a5, a6, some (mi z)] r M) : Z ip [a0, a1, a2, a3, a4, a5, a6, a7] (mi z :: r) M := w_istore hZ ip np hc hn (Nat.le_of_ble_eq_true rfl) h2 rfl k
theorem w_in8_7 (hZ : Sim code Z Ret) (ip np : Nat) {a0 a1 a2 a3 a4 a5 a6 : Option MV} {z n : Int} (hc : code[ip]? = some (I_iinc 7 n)) (hn : ip + 1 = np) (h2 : noL [a0, a1, a2, a3, a4, a5, a6, some (mi z)] = true) (h3 : InR (z + n)) (k : Z np [a0, a1, a2, a3, a4, a5, a6, some (mi (z + n))] r M) : Z ip [a0, a1, a2, a3, a4, a5, a6, some (mi z)] r M := w_iinc hZ ip np hc hn rfl h2 h3 rfl k
theorem w_st9_0 (hZ : Sim code Z Ret) (ip np : Nat) {a0 a1 a2 a3 a4 a5 a6 a7 a8 : Option MV} {z : Int} (hc : code[ip]? = some (I_istore 0)) (hn : ip + 1 = np) (h2 : noL [a0, a1, a2, a3, a4, a5, a6, a7, a8] = true) (k : Z np [some (mi z), a1, a2, a3, a4, a5, a6, a7, a8] r M) : Z ip [a0, a1, a2, a3, a4, a5, a6, a7, a8] (mi z :: r) M := w_istore hZ ip np hc hn (Nat.le_of_ble_eq_true rfl) h2 rfl k
theorem w_in9_0 (hZ : Sim code Z Ret) (ip np : Nat) {a1 a2 a3 a4 a5 a6 a7 a8 : Option MV} {z n : Int} (hc : code[ip]? = some (I_iinc 0 n)) (hn : ip + 1 = np) (h2 : noL [some (mi z), a1, a2, a3, a4, a5, a6, a7, a8] = true) (h3 : InR (z + n)) (k : Z np [some (mi (z + n)), a1, a2, a3, a4, a5, a6, a7, a8] r M) : Z ip [some (mi z), a1, a2, a3, a4, a5, a6, a7, a8] r M := w_iinc hZ ip np hc hn rfl h2 h3 rfl k
theorem w_st9_1 (hZ : Sim code Z Ret) (ip np : Nat) {a0 a1 a2 a3 a4 a5 a6 a7 a8 : Option MV} {z : Int} (hc : code[ip]? = some (I_istore 1)) (hn : ip + 1 = np) (h2 : noL [a0, a1, a2, a3, a4, a5, a6, a7, a8] = true) (k : Z np [a0, some (mi z), a2, a3, a4, a5, a6, a7, a8] r M) : Z ip [a0, a1, a2, a3, a4, a5, a6, a7, a8] (mi z :: r) M := w_istore hZ ip np hc hn (Nat.le_of_ble_eq_true rfl) h2 rfl k
theorem w_in9_1 (hZ : Sim code Z Ret) (ip np : Nat) {a0 a2 a3 a4 a5 a6 a7 a8 : Option MV} {z n : Int} (hc : code[ip]? = some (I_iinc 1 n)) (hn : ip + 1 = np) (h2 : noL [a0, some (mi z), a2, a3, a4, a5, a6, a7, a8] = true) (h3 : InR (z + n)) (k : Z np [a0, some (mi (z + n)), a2, a3, a4, a5, a6, a7, a8] r M) : Z ip [a0, some (mi z), a2, a3, a4, a5, a6, a7, a8] r M := w_iinc hZ ip np hc hn rfl h2 h3 rfl k
theorem w_st9_2 (hZ : Sim code Z Ret) (ip np : Nat) {a0 a1 a2 a3 a4 a5 a6 a7 a8 : Option MV} {z : Int} (hc : code[ip]? = some (I_istore 2)) (hn : ip + 1 = np) (h2 : noL [a0, a1, a2, a3, a4, a5, a6, a7, a8] = true) (k : Z np [a0, a1, some (mi z), a3, a4, a5, a6, a7, a8] r M) : Z ip [a0, a1, a2, a3, a4, a5, a6, a7, a8] (mi z :: r) M := w_istore hZ ip np hc hn (Nat.le_of_ble_eq_true rfl) h2 rfl k
theorem w_in9_2 (hZ : Sim code Z Ret) (ip np : Nat) {a0 a1 a3 a4 a5 a6 a7 a8 : Option MV} {z n : Int} (hc : code[ip]? = some (I_iinc 2 n)) (hn : ip + 1 = np) (h2 : noL [a0, a1, some (mi z), a3, a4, a5, a6, a7, a8] = true) (h3 : InR (z + n)) (k : Z np [a0, a1, some (mi (z + n)), a3, a4, a5, a6, a7, a8] r M) : Z ip [a0, a1, some (mi z), a3, a4, a5, a6, a7, a8] r M := w_iinc hZ ip np hc hn rfl h2 h3 rfl k
theorem w_st9_3 (hZ : Sim code Z Ret) (ip np : Nat) {a0 a1 a2 a3 a4 a5 a6 a7 a8 : Option MV} {z : Int} (hc : code[ip]? = some (I_istore 3)) (hn : ip + 1 = np) (h2 : noL [a0, a1, a2, a3, a4, a5, a6, a7, a8] = true) (k : Z np [a0, a1, a2, some (mi z), a4, a5, a6, a7, a8] r M) : Z ip [a0, a1, a2, a3, a4, a5, a6, a7, a8] (mi z :: r) M := w_istore hZ ip np hc hn (Nat.le_of_ble_eq_true rfl) h2 rfl k
theorem w_in9_3 (hZ : Sim code Z Ret) (ip np : Nat) {a0 a1 a2 a4 a5 a6 a7 a8 : Option MV} {z n : Int} (hc : code[ip]? = some (I_iinc 3 n)) (hn : ip + 1 = np) (h2 : noL [a0, a1, a2, some (mi z), a4, a5, a6, a7, a8] = true) (h3 : InR (z + n)) (k : Z np [a0, a1, a2, some (mi (z + n)), a4, a5, a6, a7, a8] r M) : Z ip [a0, a1, a2, some (mi z), a4, a5, a6, a7, a8] r M := w_iinc hZ ip np hc hn rfl h2 h3 rfl k
theorem w_st9_4 (hZ : Sim code Z Ret) (ip np : Nat) {a0 a1 a2 a3 a4 a5 a6 a7 a8 : Option MV} {z : Int} (hc : code[ip]? = some (I_istore 4)) (hn : ip + 1 = np) (h2 : noL [a0, a1, a2, a3, a4, a5, a6, a7, a8] = true) (k : Z np [a0, a1, a2, a3, some (mi z), a5, a6, a7, a8] r M) : Z ip [a0, a1, a2, a3, a4, a5, a6, a7, a8] (mi z :: r) M := w_istore hZ ip np hc hn (Nat.le_of_ble_eq_true rfl) h2 rfl k
theorem w_in9_4 (hZ : Sim code Z Ret) (ip np : Nat) {a0 a1 a2 a3 a5 a6 a7 a8 : Option MV} {z n : Int} (hc : code[ip]? = some (I_iinc 4 n)) (hn : ip + 1 = np) (h2 : noL [a0, a1, a2, a3, some (mi z), a5, a6, a7, a8] = true) (h3 : InR (z + n)) (k : Z np [a0, a1, a2, a3, some (mi (z + n)), a5, a6, a7, a8] r M) : Z ip [a0, a1, a2, a3, some (mi z), a5, a6, a7, a8] r M := w_iinc hZ ip np hc hn rfl h2 h3 rfl k
theorem w_st9_5 (hZ : Sim code Z Ret) (ip np : Nat) {a0 a1 a2 a3 a4 a5 a6 a7 a8 : Option MV} {z : Int} (hc : code[ip]? = some (I_istore 5)) (hn : ip + 1 = np) (h2 : noL [a0, a1, a2, a3, a4, a5, a6, a7, a8] = true) (k : Z np [a0, a1, a2, a3, a4, some (mi z), a6, a7, a8] r M) : Z ip [a0, a1, a2, a3, a4, a5, a6, a7, a8] (mi z :: r) M := w_istore hZ ip np hc hn (Nat.le_of_ble_eq_true rfl) h2 rfl k
theorem w_in9_5 (hZ : Sim code Z Ret) (ip np : Nat) {a0 a1 a2 a3 a4 a6 a7 a8 : Option MV} {z n : Int} (hc : code[ip]? = some (I_iinc 5 n)) (hn : ip + 1 = np) (h2 : noL [a0, a1, a2, a3, a4, some (mi z), a6, a7, a8] = true) (h3 : InR (z + n)) (k : Z np [a0, a1, a2, a3, a4, some (mi (z + n)), a6, a7, a8] r M) : Z ip [a0, a1, a2, a3, a4, some (mi z), a6, a7, a8] r M := w_iinc hZ ip np hc hn rfl h2 h3 rfl k
theorem w_st9_6 (hZ : Sim code Z Ret) (ip np : Nat) {a0 a1 a2 a3 a4 a5 a6 a7 a8 : Option MV} {z : Int} (hc : code[ip]? = some (I_istore 6)) (hn : ip + 1 = np) (h2 : noL [a0, a1, a2, a3, a4, a5, a6, a7, a8] = true) (k : Z np [a0, a1, a2, a3, a4, a5, some (mi z), a7, a8] r M) : Z ip [a0, a1, a2, a3, a4, a5, a6, a7, a8] (mi z :: r) M := w_istore hZ ip np hc hn (Nat.le_of_ble_eq_true rfl) h2 rfl k
theorem w_in9_6 (hZ : Sim code Z Ret) (ip np : Nat) {a0 a1 a2 a3 a4 a5 a7 a8 : Option MV} {z n : Int} (hc : code[ip]? = some (I_iinc 6 n)) (hn : ip + 1 = np) (h2 : noL [a0, a1, a2, a3, a4, a5, some (mi z), a7, a8] = true) (h3 : InR (z + n)) (k : Z np [a0, a1, a2, a3, a4, a5, some (mi (z + n)), a7, a8] r M) : Z ip [a0, a1, a2, a3, a4, a5, some (mi z), a7, a8] r M := w_iinc hZ ip np hc hn rfl h2 h3 rfl k
theorem w_st9_7 (hZ : Sim code Z Ret) (ip np : Nat) {a0 a1 a2 a3 a4 a5 a6 a7 a8 : Option MV} {z : Int} (hc : code[ip]? = some (I_istore 7)) (hn : ip + 1 = np) (h2 : noL [a0, a1, a2, a3, a4, a5, a6, a7, a8] = true) (k : Z np [a0, a1, a2, a3, a4, a5, a6, some (mi z), a8] r M) : Z ip [a0, a1, a2, a3, a4, a5, a6, a7, a8] (mi z :: r) M := w_istore hZ ip np hc hn (Nat.le_of_ble_eq_true rfl) h2 rfl k
theorem w_in9_7 (hZ : Sim code Z Ret) (ip np : Nat) {a0 a1 a2 a3 a4 a5 a6 a8 : Option MV} {z n : Int} (hc : code[ip]? = some (I_iinc 7 n)) (hn : ip + 1 = np) (h2 : noL [a0, a1, a2, a3, a4, a5, a6, some (mi z), a8] = true) (h3 : InR (z + n)) (k : Z np [a0, a1, a2, a3, a4, a5, a6, some (mi (z + n)), a8] r M) : Z ip [a0, a1, a2, a3, a4, a5, a6, some (mi z), a8] r M := w_iinc hZ ip np hc hn rfl h2 h3 rfl k
theorem w_st9_8 (hZ : Sim code Z Ret) (ip np : Nat) {a0 a1 a2 a3 a4 a5 a6 a7 a8 : Option MV} {z : Int} (hc : code[ip]? = some (I_istore 8)) (hn : ip + 1 = np) (h2 : noL [a0, a1, a2, a3, a4, a5, a6, a7, a8] = true) (k : Z np [a0, a1, a2, a3, a4, a5, a6, a7, some (mi z)] r M) : Z ip [a0, a1, a2, a3, a4, a5, a6, a7, a8] (mi z :: r) M := w_istore hZ ip np hc hn (Nat.le_of_ble_eq_true rfl) h2 rfl k
theorem w_in9_8 (hZ : Sim code Z Ret) (ip np : Nat) {a0 a1 a2 a3 a4 a5 a6 a7 : Option MV} {z n : Int} (hc : code[ip]? = some (I_iinc 8 n)) (hn : ip + 1 = np) (h2 : noL [a0, a1, a2, a3, a4, a5, a6, a7, some (mi z)] = true) (h3 : InR (z + n)) (k : Z np [a0, a1, a2, a3, a4, a5, a6, a7, some (mi (z + n))] r M) : Z ip [a0, a1, a2, a3, a4, a5, a6, a7, some (mi z)] r M := w_iinc hZ ip np hc hn rfl h2 h3 rfl k
theorem w_st10_0 (hZ : Sim code Z Ret) (ip np : Nat) {a0 a1 a2 a3 a4 a5 a6 a7 a8 a9 : Option MV} {z : Int} (hc : code[ip]? = some (I_istore 0)) (hn : ip + 1 = np) (h2 : noL [a0, a1, a2, a3, a4, a5, a6, a7, a8, a9] = true) (k : Z np [some (mi z), a1, a2, a3, a4, a5, a6, a7, a8, a9] r M) : Z ip [a0, a1, a2, a3, a4, a5, a6, a7, a8, a9] (mi z :: r) M := w_istore hZ ip np hc hn (Nat.le_of_ble_eq_true rfl) h2 rfl k
theorem w_in10_0 (hZ : Sim code Z Ret) (ip np : Nat) {a1 a2 a3 a4 a5 a6 a7 a8 a9 : Option MV} {z n : Int} (hc : code[ip]? = some (I_iinc 0 n)) (hn : ip + 1 = np) (h2 : noL [some (mi z), a1, a2, a3, a4, a5, a6, a7, a8, a9] = true) (h3 : InR (z + n)) (k : Z np [some (mi (z + n)), a1, a2, a3, a4, a5, a6, a7, a8, a9] r M) : Z ip [some (mi z), a1, a2, a3, a4, a5, a6, a7, a8, a9] r M := w_iinc hZ ip np hc hn rfl h2 h3 rfl k
theorem w_st10_1 (hZ : Sim code Z Ret) (ip np : Nat) {a0 a1 a2 a3 a4 a5 a6 a7 a8 a9 : Option MV} {z : Int} (hc : code[ip]? = some (I_istore 1)) (hn : ip + 1 = np) (h2 : noL [a0, a1, a2, a3, a4, a5, a6, a7, a8, a9] = true) (k : Z np [a0, some (mi z), a2, a3, a4, a5, a6, a7, a8, a9] r M) : Z ip [a0, a1, a2, a3, a4, a5, a6, a7, a8, a9] (mi z :: r) M := w_istore hZ ip np hc hn (Nat.le_of_ble_eq_true rfl) h2 rfl k
theorem w_in10_1 (hZ : Sim code Z Ret) (ip np : Nat) {a0 a2 a3 a4 a5 a6 a7 a8 a9 : Option MV} {z n : Int} (hc : code[ip]? = some (I_iinc 1 n)) (hn : ip + 1 = np) (h2 : noL [a0, some (mi z), a2, a3, a4, a5, a6, a7, a8, a9] = true) (h3 : InR (z + n)) (k : Z np [a0, some (mi (z + n)), a2, a3, a4, a5, a6, a7, a8, a9] r M) : Z ip [a0, some (mi z), a2, a3, a4, a5, a6, a7, a8, a9] r M := w_iinc hZ ip np hc hn rfl h2 h3 rfl k
theorem w_st10_2 (hZ : Sim code Z Ret) (ip np : Nat) {a0 a1 a2 a3 a4 a5 a6 a7 a8 a9 : Option MV} {z : Int} (hc : code[ip]? = some (I_istore 2)) (hn : ip + 1 = np) (h2 : noL [a0, a1, a2, a3, a4, a5, a6, a7, a8, a9] = true) (k : Z np [a0, a1, some (mi z), a3, a4, a5, a6, a7, a8, a9] r M) : Z ip [a0, a1, a2, a3, a4, a5, a6, a7, a8, a9] (mi z :: r) M := w_istore hZ ip np hc hn (Nat.le_of_ble_eq_true rfl) h2 rfl k
theorem w_in10_2 (hZ : Sim code Z Ret) (ip np : Nat) {a0 a1 a3 a4 a5 a6 a7 a8 a9 : Option MV} {z n : Int} (hc : code[ip]? = some (I_iinc 2 n)) (hn : ip + 1 = np) (h2 : noL [a0, a1, some (mi z), a3, a4, a5, a6, a7, a8, a9] = true) (h3 : InR (z + n)) (k : Z np [a0, a1, some (mi (z + n)), a3, a4, a5, a6, a7, a8, a9] r M) : Z ip [a0, a1, some (mi z), a3, a4, a5, a6, a7, a8, a9] r M := w_iinc hZ ip np hc hn rfl h2 h3 rfl k
theorem w_st10_3 (hZ : Sim code Z Ret) (ip np : Nat) {a0 a1 a2 a3 a4 a5 a6 a7 a8 a9 : Option MV} {z : Int} (hc : code[ip]? = some (I_istore 3)) (hn : ip + 1 = np) (h2 : noL [a0, a1, a2, a3, a4, a5, a6, a7, a8, a9] = true) (k : Z np [a0, a1, a2, some (mi z), a4, a5, a6, a7, a8, a9] r M) : Z ip [a0, a1, a2, a3, a4, a5, a6, a7, a8, a9] (mi z :: r) M := w_istore hZ ip np hc hn (Nat.le_of_ble_eq_true rfl) h2 rfl k
theorem w_in10_3 (hZ : Sim code Z Ret) (ip np : Nat) {a0 a1 a2 a4 a5 a6 a7 a8 a9 : Option MV} {z n : Int} (hc : code[ip]? = some (I_iinc 3 n)) (hn : ip + 1 = np) (h2 : noL [a0, a1, a2, some (mi z), a4, a5, a6, a7, a8, a9] = true) (h3 : InR (z + n)) (k : Z np [a0, a1, a2, some (mi (z + n)), a4, a5, a6, a7, a8, a9] r M) : Z ip [a0, a1, a2, some (mi z), a4, a5, a6, a7, a8, a9] r M := w_iinc hZ ip np hc hn rfl h2 h3 rfl k
theorem w_st10_4 (hZ : Sim code Z Ret) (ip np : Nat) {a0 a1 a2 a3 a4 a5 a6 a7 a8 a9 : Option MV} {z : Int} (hc : code[ip]? = some (I_istore 4)) (hn : ip + 1 = np) (h2 : noL [a0, a1, a2, a3, a4, a5, a6, a7, a8, a9] = true) (k : Z np [a0, a1, a2, a3, some (mi z), a5, a6, a7, a8, a9] r M) : Z ip [a0, a1, a2, a3, a4, a5, a6, a7, a8, a9] (mi z :: r) M := w_istore hZ ip np hc hn (Nat.le_of_ble_eq_true rfl) h2 rfl k
theorem w_in10_4 (hZ : Sim code Z Ret) (ip np : Nat) {a0 a1 a2 a3 a5 a6 a7 a8 a9 : Option MV} {z n : Int} (hc : code[ip]? = some (I_iinc 4 n)) (hn : ip + 1 = np) (h2 : noL [a0, a1, a2, a3, some (mi z), a5, a6, a7, a8, a9] = true) (h3 : InR (z + n)) (k : Z np [a0, a1, a2, a3, some (mi (z + n)), a5, a6, a7, a8, a9] r M) : Z ip [a0, a1, a2, a3, some (mi z), a5, a6, a7, a8, a9] r M := w_iinc hZ ip np hc hn rfl h2 h3 rfl k
theorem w_st10_5 (hZ : Sim code Z Ret) (ip np : Nat) {a0 a1 a2 a3 a4 a5 a6 a7 a8 a9 : Option MV} {z : Int} (hc : code[ip]? = some (I_istore 5)) (hn : ip + 1 = np) (h2 : noL [a0, a1, a2, a3, a4, a5, a6, a7, a8, a9] = true) (k : Z np [a0, a1, a2, a3, a4, some (mi z), a6, a7, a8, a9] r M) : Z ip [a0, a1, a2, a3, a4, a5, a6, a7, a8, a9] (mi z :: r) M := w_istore hZ ip np hc hn (Nat.le_of_ble_eq_true rfl) h2 rfl k
theorem w_in10_5 (hZ : Sim code Z Ret) (ip np : Nat) {a0 a1 a2 a3 a4 a6 a7 a8 a9 : Option MV} {z n : Int} (hc : code[ip]? = some (I_iinc 5 n)) (hn : ip + 1 = np) (h2 : noL [a0, a1, a2, a3, a4, some (mi z), a6, a7, a8, a9] = true) (h3 : InR (z + n)) (k : Z np [a0, a1, a2, a3, a4, some (mi (z + n)), a6, a7, a8, a9] r M) : Z ip [a0, a1, a2, a3, a4, some (mi z), a6, a7, a8, a9] r M := w_iinc hZ ip np hc hn rfl h2 h3 rfl k
theorem w_st10_6 (hZ : Sim code Z Ret) (ip np : Nat) {a0 a1 a2 a3 a4 a5 a6 a7 a8 a9 : Option MV} {z : Int} (hc : code[ip]? = some (I_istore 6)) (hn : ip + 1 = np) (h2 : noL [a0, a1, a2, a3, a4, a5, a6, a7, a8, a9] = true) (k : Z np [a0, a1, a2, a3, a4, a5, some (mi z), a7, a8, a9] r M) : Z ip [a0, a1, a2, a3, a4, a5, a6, a7, a8, a9] (mi z :: r) M := w_istore hZ ip np hc hn (Nat.le_of_ble_eq_true rfl) h2 rfl k
theorem w_in10_6 (hZ : Sim code Z Ret) (ip np : Nat) {a0 a1 a2 a3 a4 a5 a7 a8 a9 : Option MV} {z n : Int} (hc : code[ip]? = some (I_iinc 6 n)) (hn : ip + 1 = np) (h2 : noL [a0, a1, a2, a3, a4, a5, some (mi z), a7, a8, a9] = true) (h3 : InR (z + n)) (k : Z np [a0, a1, a2, a3, a4, a5, some (mi (z + n)), a7, a8, a9] r M) : Z ip [a0, a1, a2, a3, a4, a5, some (mi z), a7, a8, a9] r M := w_iinc hZ ip np hc hn rfl h2 h3 rfl k
theorem w_st10_7 (hZ : Sim code Z Ret) (ip np : Nat) {a0 a1 a2 a3 a4 a5 a6 a7 a8 a9 : Option MV} {z : Int} (hc : code[ip]? = some (I_istore 7)) (hn : ip + 1 = np) (h2 : noL [a0, a1, a2, a3, a4, a5, a6, a7, a8, a9] = true) (k : Z np [a0, a1, a2, a3, a4, a5, a6, some (mi z), a8, a9] r M) : Z ip [a0, a1, a2, a3, a4, a5, a6, a7, a8, a9] (mi z :: r) M := w_istore hZ ip np hc hn (Nat.le_of_ble_eq_true rfl) h2 rfl k
theorem w_in10_7 (hZ : Sim code Z Ret) (ip np : Nat) {a0 a1 a2 a3 a4 a5 a6 a8 a9 : Option MV} {z n : Int} (hc : code[ip]? = some (I_iinc 7 n)) (hn : ip + 1 = np) (h2 : noL [a0, a1, a2, a3, a4, a5, a6, some (mi z), a8, a9] = true) (h3 : InR (z + n)) (k : Z np [a0, a1, a2, a3, a4, a5, a6, some (mi (z + n)), a8, a9] r M) : Z ip [a0, a1, a2, a3, a4, a5, a6, some (mi z), a8, a9] r M := w_iinc hZ ip np hc hn rfl h2 h3 rfl k
theorem w_st10_8 (hZ : Sim code Z Ret) (ip np : Nat) {a0 a1 a2 a3 a4 a5 a6 a7 a8 a9 : Option MV} {z : Int} (hc : code[ip]? = some (I_istore 8)) (hn : ip + 1 = np) (h2 : noL [a0, a1, a2, a3, a4, a5, a6, a7, a8, a9] = true) (k : Z np [a0, a1, a2, a3, a4, a5, a6, a7, some (mi z), a9] r M) : Z ip [a0, a1, a2, a3, a4, a5, a6, a7, a8, a9] (mi z :: r) M := w_istore hZ ip np hc hn (Nat.le_of_ble_eq_true rfl) h2 rfl k
theorem w_in10_8 (hZ : Sim code Z Ret) (ip np : Nat) {a0 a1 a2 a3 a4 a5 a6 a7 a9 : Option MV} {z n : Int} (hc : code[ip]? = some (I_iinc 8 n)) (hn : ip + 1 = np) (h2 : noL [a0, a1, a2, a3, a4, a5, a6, a7, some (mi z), a9] = true) (h3 : InR (z + n)) (k : Z np [a0, a1, a2, a3, a4, a5, a6, a7, some (mi (z + n)), a9] r M) : Z ip [a0, a1, a2, a3, a4, a5, a6, a7, some (mi z), a9] r M := w_iinc hZ ip np hc hn rfl h2 h3 rfl k
theorem w_st10_9 (hZ : Sim code Z Ret) (ip np : Nat) {a0 a1 a2 a3 a4 a5 a6 a7 a8 a9 : Option MV} {z : Int} (hc : code[ip]? = some (I_istore 9)) (hn : ip + 1 = np) (h2 : noL [a0, a1, a2, a3, a4, a5, a6, a7, a8, a9] = true) (k : Z np [a0, a1, a2, a3, a4, a5, a6, a7, a8, some (mi z)] r M) : Z ip [a0, a1, a2, a3, a4, a5, a6, a7, a8, a9] (mi z :: r) M := w_istore hZ ip np hc hn (Nat.le_of_ble_eq_true rfl) h2 rfl k
theorem w_in10_9 (hZ : Sim code Z Ret) (ip np : Nat) {a0 a1 a2 a3 a4 a5 a6 a7 a8 : Option MV} {z n : Int} (hc : code[ip]? = some (I_iinc 9 n)) (hn : ip + 1 = np) (h2 : noL [a0, a1, a2, a3, a4, a5, a6, a7, a8, some (mi z)] = true) (h3 : InR (z + n)) (k : Z np [a0, a1, a2, a3, a4, a5, a6, a7, a8, some (mi (z + n))] r M) : Z ip [a0, a1, a2, a3, a4, a5, a6, a7, a8, some (mi z)] r M := w_iinc hZ ip np hc hn rfl h2 h3 rfl k
theorem w_fg2_0 (hZ : Sim code Z Ret) {ip : Nat} {a0 a1 : Option MV} (k : Z ip [none, a1] r M) : Z ip [a0, a1] r M := hZ.2 ip _ _ M 0 k
theorem w_fg2_1 (hZ : Sim code Z Ret) {ip : Nat} {a0 a1 : Option MV} (k : Z ip [a0, none] r M) : Z ip [a0, a1] r M := hZ.2 ip _ _ M 1 k
theorem w_fg3_0 (hZ : Sim code Z Ret) {ip : Nat} {a0 a1 a2 : Option MV} (k : Z ip [none, a1, a2] r M) : Z ip [a0, a1, a2] r M := hZ.2 ip _ _ M 0 k
theorem w_fg3_1 (hZ : Sim code Z Ret) {ip : Nat} {a0 a1 a2 : Option MV} (k : Z ip [a0, none, a2] r M) : Z ip [a0, a1, a2] r M := hZ.2 ip _ _ M 1 k
theorem w_fg3_2 (hZ : Sim code Z Ret) {ip : Nat} {a0 a1 a2 : Option MV} (k : Z ip [a0, a1, none] r M) : Z ip [a0, a1, a2] r M := hZ.2 ip _ _ M 2 k
theorem w_fg4_0 (hZ : Sim code Z Ret) {ip : Nat} {a0 a1 a2 a3 : Option MV} (k : Z ip [none, a1, a2, a3] r M) : Z ip [a0, a1, a2, a3] r M := hZ.2 ip _ _ M 0 k
theorem w_fg4_1 (hZ : Sim code Z Ret) {ip : Nat} {a0 a1 a2 a3 : Option MV} (k : Z ip [a0, none, a2, a3] r M) : Z ip [a0, a1, a2, a3] r M := hZ.2 ip _ _ M 1 k
theorem w_fg4_2 (hZ : Sim code Z Ret) {ip : Nat} {a0 a1 a2 a3 : Option MV} (k : Z ip [a0, a1, none, a3] r M) : Z ip [a0, a1, a2, a3] r M := hZ.2 ip _ _ M 2 k
theorem w_fg4_3 (hZ : Sim code Z Ret) {ip : Nat} {a0 a1 a2 a3 : Option MV} (k : Z ip [a0, a1, a2, none] r M) : Z ip [a0, a1, a2, a3] r M := hZ.2 ip _ _ M 3 k
theorem w_fg5_0 (hZ : Sim code Z Ret) {ip : Nat} {a0 a1 a2 a3 a4 : Option MV} (k : Z ip [none, a1, a2, a3, a4] r M) : Z ip [a0, a1, a2, a3, a4] r M := hZ.2 ip _ _ M 0 k
theorem w_fg5_1 (hZ : Sim code Z Ret) {ip : Nat} {a0 a1 a2 a3 a4 : Option MV} (k : Z ip [a0, none, a2, a3, a4] r M) : Z ip [a0, a1, a2, a3, a4] r M := hZ.2 ip _ _ M 1 k
theorem w_fg5_2 (hZ : Sim code Z Ret) {ip : Nat} {a0 a1 a2 a3 a4 : Option MV} (k : Z ip [a0, a1, none, a3, a4] r M) : Z ip [a0, a1, a2, a3, a4] r M := hZ.2 ip _ _ M 2 k
theorem w_fg5_3 (hZ : Sim code Z Ret) {ip : Nat} {a0 a1 a2 a3 a4 : Option MV} (k : Z ip [a0, a1, a2, none, a4] r M) : Z ip [a0, a1, a2, a3, a4] r M := hZ.2 ip _ _ M 3 k
theorem w_fg5_4 (hZ : Sim code Z Ret) {ip : Nat} {a0 a1 a2 a3 a4 : Option MV} (k : Z ip [a0, a1, a2, a3, none] r M) : Z ip [a0, a1, a2, a3, a4] r M := hZ.2 ip _ _ M 4 k
theorem w_fg6_0 (hZ : Sim code Z Ret) {ip : Nat} {a0 a1 a2 a3 a4 a5 : Option MV} (k : Z ip [none, a1, a2, a3, a4, a5] r M) : Z ip [a0, a1, a2, a3, a4, a5] r M := hZ.2 ip _ _ M 0 k
theorem w_fg6_1 (hZ : Sim code Z Ret) {ip : Nat} {a0 a1 a2 a3 a4 a5 : Option MV} (k : Z ip [a0, none, a2, a3, a4, a5] r M) : Z ip [a0, a1, a2, a3, a4, a5] r M := hZ.2 ip _ _ M 1 k
theorem w_fg6_2 (hZ : Sim code Z Ret) {ip : Nat} {a0 a1 a2 a3 a4 a5 : Option MV} (k : Z ip [a0, a1, none, a3, a4, a5] r M) : Z ip [a0, a1, a2, a3, a4, a5] r M := hZ.2 ip _ _ M 2 k
theorem w_fg6_3 (hZ : Sim code Z Ret) {ip : Nat} {a0 a1 a2 a3 a4 a5 : Option MV} (k : Z ip [a0, a1, a2, none, a4, a5] r M) : Z ip [a0, a1, a2, a3, a4, a5] r M := hZ.2 ip _ _ M 3 k
theorem w_fg6_4 (hZ : Sim code Z Ret) {ip : Nat} {a0 a1 a2 a3 a4 a5 : Option MV} (k : Z ip [a0, a1, a2, a3, none, a5] r M) : Z ip [a0, a1, a2, a3, a4, a5] r M := hZ.2 ip _ _ M 4 k
theorem w_fg6_5 (hZ : Sim code Z Ret) {ip : Nat} {a0 a1 a2 a3 a4 a5 : Option MV} (k : Z ip [a0, a1, a2, a3, a4, none] r M) : Z ip [a0, a1, a2, a3, a4, a5] r M := hZ.2 ip _ _ M 5 k
theorem w_fg7_0 (hZ : Sim code Z Ret) {ip : Nat} {a0 a1 a2 a3 a4 a5 a6 : Option MV} (k : Z ip [none, a1, a2, a3, a4, a5, a6] r M) : Z ip [a0, a1, a2, a3, a4, a5, a6] r M := hZ.2 ip _ _ M 0 k
theorem w_fg7_1 (hZ : Sim code Z Ret) {ip : Nat} {a0 a1 a2 a3 a4 a5 a6 : Option MV} (k : Z ip [a0, none, a2, a3, a4, a5, a6] r M) : Z ip [a0, a1, a2, a3, a4, a5, a6] r M := hZ.2 ip _ _ M 1 k
theorem w_fg7_2 (hZ : Sim code Z Ret) {ip : Nat} {a0 a1 a2 a3 a4 a5 a6 : Option MV} (k : Z ip [a0, a1, none, a3, a4, a5, a6] r M) : Z ip [a0, a1, a2, a3, a4, a5, a6] r M := hZ.2 ip _ _ M 2 k
theorem w_fg7_3 (hZ : Sim code Z Ret) {ip : Nat} {a0 a1 a2 a3 a4 a5 a6 : Option MV} (k : Z ip [a0, a1, a2, none, a4, a5, a6] r M) : Z ip [a0, a1, a2, a3, a4, a5, a6] r M := hZ.2 ip _ _ M 3 k
theorem w_fg7_4 (hZ : Sim code Z Ret) {ip : Nat} {a0 a1 a2 a3 a4 a5 a6 : Option MV} (k : Z ip [a0, a1, a2, a3, none, a5, a6] r M) : Z ip [a0, a1, a2, a3, a4, a5, a6] r M := hZ.2 ip _ _ M 4 k
theorem w_fg7_5 (hZ : Sim code Z Ret) {ip : Nat} {a0 a1 a2 a3 a4 a5 a6 : Option MV} (k : Z ip [a0, a1, a2, a3, a4, none, a6] r M) : Z ip [a0, a1, a2, a3, a4, a5, a6] r M := hZ.2 ip _ _ M 5 k
theorem w_fg7_6 (hZ : Sim code Z Ret) {ip : Nat} {a0 a1 a2 a3 a4 a5 a6 : Option MV} (k : Z ip [a0, a1, a2, a3, a4, a5, none] r M) : Z ip [a0, a1, a2, a3, a4, a5, a6] r M := hZ.2 ip _ _ M 6 k
theorem w_fg8_0 (hZ : Sim code Z Ret) {ip : Nat} {a0 a1 a2 a3 a4 a5 a6 a7 : Option MV} (k : Z ip [none, a1, a2, a3, a4, a5, a6, a7] r M) : Z ip [a0, a1, a2, a3, a4, a5, a6, a7] r M := hZ.2 ip _ _ M 0 k
theorem w_fg8_1 (hZ : Sim code Z Ret) {ip : Nat} {a0 a1 a2 a3 a4 a5 a6 a7 : Option MV} (k : Z ip [a0, none, a2, a3, a4, a5, a6, a7] r M) : Z ip [a0, a1, a2, a3, a4, a5, a6, a7] r M := hZ.2 ip _ _ M 1 k
theorem w_fg8_2 (hZ : Sim code Z Ret) {ip : Nat} {a0 a1 a2 a3 a4 a5 a6 a7 : Option MV} (k : Z ip [a0, a1, none, a3, a4, a5, a6, a7] r M) : Z ip [a0, a1, a2, a3, a4, a5, a6, a7] r M := hZ.2 ip _ _ M 2 k
theorem w_fg8_3 (hZ : Sim code Z Ret) {ip : Nat} {a0 a1 a2 a3 a4 a5 a6 a7 : Option MV} (k : Z ip [a0, a1, a2, none, a4, a5, a6, a7] r M) : Z ip [a0, a1, a2, a3, a4, a5, a6, a7] r M := hZ.2 ip _ _ M 3 k
theorem w_fg8_4 (hZ : Sim code Z Ret) {ip : Nat} {a0 a1 a2 a3 a4 a5 a6 a7 : Option MV} (k : Z ip [a0, a1, a2, a3, none, a5, a6, a7] r M) : Z ip [a0, a1, a2, a3, a4, a5, a6, a7] r M := hZ.2 ip _ _ M 4 k
theorem w_fg8_5 (hZ : Sim code Z Ret) {ip : Nat} {a0 a1 a2 a3 a4 a5 a6 a7 : Option MV} (k : Z ip [a0, a1, a2, a3, a4, none, a6, a7] r M) : Z ip [a0, a1, a2, a3, a4, a5, a6, a7] r M := hZ.2 ip _ _ M 5 k
theorem w_fg8_6 (hZ : Sim code Z Ret) {ip : Nat} {a0 a1 a2 a3 a4 a5 a6 a7 : Option MV} (k : Z ip [a0, a1, a2, a3, a4, a5, none, a7] r M) : Z ip [a0, a1, a2, a3, a4, a5, a6, a7] r M := hZ.2 ip _ _ M 6 k
theorem w_fg8_7 (hZ : Sim code Z Ret) {ip : Nat} {a0 a1 a2 a3 a4 a5 a6 a7 : Option MV} (k : Z ip [a0, a1, a2, a3, a4, a5, a6, none] r M) : Z ip [a0, a1, a2, a3, a4, a5, a6, a7] r M := hZ.2 ip _ _ M 7 k
theorem w_fg9_0 (hZ : Sim code Z Ret) {ip : Nat} {a0 a1 a2 a3 a4 a5 a6 a7 a8 : Option MV} (k : Z ip [none, a1, a2, a3, a4, a5, a6, a7, a8] r M) : Z ip [a0, a1, a2, a3, a4, a5, a6, a7, a8] r M := hZ.2 ip _ _ M 0 k
theorem w_fg9_1 (hZ : Sim code Z Ret) {ip : Nat} {a0 a1 a2 a3 a4 a5 a6 a7 a8 : Option MV} (k : Z ip [a0, none, a2, a3, a4, a5, a6, a7, a8] r M) : Z ip [a0, a1, a2, a3, a4, a5, a6, a7, a8] r M := hZ.2 ip _ _ M 1 k
theorem w_fg9_2 (hZ : Sim code Z Ret) {ip : Nat} {a0 a1 a2 a3 a4 a5 a6 a7 a8 : Option MV} (k : Z ip [a0, a1, none, a3, a4, a5, a6, a7, a8] r M) : Z ip [a0, a1, a2, a3, a4, a5, a6, a7, a8] r M := hZ.2 ip _ _ M 2 k
theorem w_fg9_3 (hZ : Sim code Z Ret) {ip : Nat} {a0 a1 a2 a3 a4 a5 a6 a7 a8 : Option MV} (k : Z ip [a0, a1, a2, none, a4, a5, a6, a7, a8] r M) : Z ip [a0, a1, a2, a3, a4, a5, a6, a7, a8] r M := hZ.2 ip _ _ M 3 k
theorem w_fg9_4 (hZ : Sim code Z Ret) {ip : Nat} {a0 a1 a2 a3 a4 a5 a6 a7 a8 : Option MV} (k : Z ip [a0, a1, a2, a3, none, a5, a6, a7, a8] r M) : Z ip [a0, a1, a2, a3, a4, a5, a6, a7, a8] r M := hZ.2 ip _ _ M 4 k
theorem w_fg9_5 (hZ : Sim code Z Ret) {ip : Nat} {a0 a1 a2 a3 a4 a5 a6 a7 a8 : Option MV} (k : Z ip [a0, a1, a2, a3, a4, none, a6, a7, a8] r M) : Z ip [a0, a1, a2, a3, a4, a5, a6, a7, a8] r M := hZ.2 ip _ _ M 5 k
theorem w_fg9_6 (hZ : Sim code Z Ret) {ip : Nat} {a0 a1 a2 a3 a4 a5 a6 a7 a8 : Option MV} (k : Z ip [a0, a1, a2, a3, a4, a5, none, a7, a8] r M) : Z ip [a0, a1, a2, a3, a4, a5, a6, a7, a8] r M := hZ.2 ip _ _ M 6 k
theorem w_fg9_7 (hZ : Sim code Z Ret) {ip : Nat} {a0 a1 a2 a3 a4 a5 a6 a7 a8 : Option MV} (k : Z ip [a0, a1, a2, a3, a4, a5, a6, none, a8] r M) : Z ip [a0, a1, a2, a3, a4, a5, a6, a7, a8] r M := hZ.2 ip _ _ M 7 k
theorem w_fg9_8 (hZ : Sim code Z Ret) {ip : Nat} {a0 a1 a2 a3 a4 a5 a6 a7 a8 : Option MV} (k : Z ip [a0, a1, a2, a3, a4, a5, a6, a7, none] r M) : Z ip [a0, a1, a2, a3, a4, a5, a6, a7, a8] r M := hZ.2 ip _ _ M 8 k
theorem w_fg10_0 (hZ : Sim code Z Ret) {ip : Nat} {a0 a1 a2 a3 a4 a5 a6 a7 a8 a9 : Option MV} (k : Z ip [none, a1, a2, a3, a4, a5, a6, a7, a8, a9] r M) : Z ip [a0, a1, a2, a3, a4, a5, a6, a7, a8, a9] r M := hZ.2 ip _ _ M 0 k
theorem w_fg10_1 (hZ : Sim code Z Ret) {ip : Nat} {a0 a1 a2 a3 a4 a5 a6 a7 a8 a9 : Option MV} (k : Z ip [a0, none, a2, a3, a4, a5, a6, a7, a8, a9] r M) : Z ip [a0, a1, a2, a3, a4, a5, a6, a7, a8, a9] r M := hZ.2 ip _ _ M 1 k
theorem w_fg10_2 (hZ : Sim code Z Ret) {ip : Nat} {a0 a1 a2 a3 a4 a5 a6 a7 a8 a9 : Option MV} (k : Z ip [a0, a1, none, a3, a4, a5, a6, a7, a8, a9] r M) : Z ip [a0, a1, a2, a3, a4, a5, a6, a7, a8, a9] r M := hZ.2 ip _ _ M 2 k
theorem w_fg10_3 (hZ : Sim code Z Ret) {ip : Nat} {a0 a1 a2 a3 a4 a5 a6 a7 a8 a9 : Option MV} (k : Z ip [a0, a1, a2, none, a4, a5, a6, a7, a8, a9] r M) : Z ip [a0, a1, a2, a3, a4, a5, a6, a7, a8, a9] r M := hZ.2 ip _ _ M 3 k
theorem w_fg10_4 (hZ : Sim code Z Ret) {ip : Nat} {a0 a1 a2 a3 a4 a5 a6 a7 a8 a9 : Option MV} (k : Z ip [a0, a1, a2, a3, none, a5, a6, a7, a8, a9] r M) : Z ip [a0, a1, a2, a3, a4, a5, a6, a7, a8, a9] r M := hZ.2 ip _ _ M 4 k
theorem w_fg10_5 (hZ : Sim code Z Ret) {ip : Nat} {a0 a1 a2 a3 a4 a5 a6 a7 a8 a9 : Option MV} (k : Z ip [a0, a1, a2, a3, a4, none, a6, a7, a8, a9] r M) : Z ip [a0, a1, a2, a3, a4, a5, a6, a7, a8, a9] r M := hZ.2 ip _ _ M 5 k
theorem w_fg10_6 (hZ : Sim code Z Ret) {ip : Nat} {a0 a1 a2 a3 a4 a5 a6 a7 a8 a9 : Option MV} (k : Z ip [a0, a1, a2, a3, a4, a5, none, a7, a8, a9] r M) : Z ip [a0, a1, a2, a3, a4, a5, a6, a7, a8, a9] r M := hZ.2 ip _ _ M 6 k
theorem w_fg10_7 (hZ : Sim code Z Ret) {ip : Nat} {a0 a1 a2 a3 a4 a5 a6 a7 a8 a9 : Option MV} (k : Z ip [a0, a1, a2, a3, a4, a5, a6, none, a8, a9] r M) : Z ip [a0, a1, a2, a3, a4, a5, a6, a7, a8, a9] r M := hZ.2 ip _ _ M 7 k
theorem w_fg10_8 (hZ : Sim code Z Ret) {ip : Nat} {a0 a1 a2 a3 a4 a5 a6 a7 a8 a9 : Option MV} (k : Z ip [a0, a1, a2, a3, a4, a5, a6, a7, none, a9] r M) : Z ip [a0, a1, a2, a3, a4, a5, a6, a7, a8, a9] r M := hZ.2 ip _ _ M 8 k
theorem w_fg10_9 (hZ : Sim code Z Ret) {ip : Nat} {a0 a1 a2 a3 a4 a5 a6 a7 a8 a9 : Option MV} (k : Z ip [a0, a1, a2, a3, a4, a5, a6, a7, a8, none] r M) : Z ip [a0, a1, a2, a3, a4, a5, a6, a7, a8, a9] r M := hZ.2 ip _ _ M 9 k
theorem w_tsw3 (hZ : Sim code Z Ret) (ip : Nat) {ls : List (Option MV)} {lo x : Int} {t0 t1 t2 d : Nat} (hc : code[ip]? = some (I_tsw lo [t0, t1, t2] d)) (k0 : x = lo + 0 → Z t0 ls r M) (k1 : x = lo + 1 → Z t1 ls r M) (k2 : x = lo + 2 → Z t2 ls r M) (kf : x < lo ∨ lo + 3 ≤ x → Z d ls r M) : Z ip ls (mi x :: r) M := by
  refine w_tsw hZ ip hc (fun j t hj hx => ?_) (fun h => kf h)
  match j, hj with
  | 0, hj => cases hj; exact k0 hx
  | 1, hj => cases hj; exact k1 hx
  | 2, hj => cases hj; exact k2 hx
  | j + 3, hj => simp at hj
theorem w_tsw4 (hZ : Sim code Z Ret) (ip : Nat) {ls : List (Option MV)} {lo x : Int} {t0 t1 t2 t3 d : Nat} (hc : code[ip]? = some (I_tsw lo [t0, t1, t2, t3] d)) (k0 : x = lo + 0 → Z t0 ls r M) (k1 : x = lo + 1 → Z t1 ls r M) (k2 : x = lo + 2 → Z t2 ls r M) (k3 : x = lo + 3 → Z t3 ls r M) (kf : x < lo ∨ lo + 4 ≤ x → Z d ls r M) : Z ip ls (mi x :: r) M := by
  refine w_tsw hZ ip hc (fun j t hj hx => ?_) (fun h => kf h)
  match j, hj with
  | 0, hj => cases hj; exact k0 hx
  | 1, hj => cases hj; exact k1 hx
  | 2, hj => cases hj; exact k2 hx
  | 3, hj => cases hj; exact k3 hx
  | j + 4, hj => simp at hj
theorem w_tsw6 (hZ : Sim code Z Ret) (ip : Nat) {ls : List (Option MV)} {lo x : Int} {t0 t1 t2 t3 t4 t5 d : Nat} (hc : code[ip]? = some (I_tsw lo [t0, t1, t2, t3, t4, t5] d)) (k0 : x = lo + 0 → Z t0 ls r M) (k1 : x = lo + 1 → Z t1 ls r M) (k2 : x = lo + 2 → Z t2 ls r M) (k3 : x = lo + 3 → Z t3 ls r M) (k4 : x = lo + 4 → Z t4 ls r M) (k5 : x = lo + 5 → Z t5 ls r M) (kf : x < lo ∨ lo + 6 ≤ x → Z d ls r M) : Z ip ls (mi x :: r) M := by
  refine w_tsw hZ ip hc (fun j t hj hx => ?_) (fun h => kf h)
  match j, hj with
  | 0, hj => cases hj; exact k0 hx
  | 1, hj => cases hj; exact k1 hx
  | 2, hj => cases hj; exact k2 hx
  | 3, hj => cases hj; exact k3 hx
  | 4, hj => cases hj; exact k4 hx
  | 5, hj => cases hj; exact k5 hx
  | j + 6, hj => simp at hj
theorem w_tsw11 (hZ : Sim code Z Ret) (ip : Nat) {ls : List (Option MV)} {lo x : Int} {t0 t1 t2 t3 t4 t5 t6 t7 t8 t9 t10 d : Nat} (hc : code[ip]? = some (I_tsw lo [t0, t1, t2, t3, t4, t5, t6, t7, t8, t9, t10] d)) (k0 : x = lo + 0 → Z t0 ls r M) (k1 : x = lo + 1 → Z t1 ls r M) (k2 : x = lo + 2 → Z t2 ls r M) (k3 : x = lo + 3 → Z t3 ls r M) (k4 : x = lo + 4 → Z t4 ls r M) (k5 : x = lo + 5 → Z t5 ls r M) (k6 : x = lo + 6 → Z t6 ls r M) (k7 : x = lo + 7 → Z t7 ls r M) (k8 : x = lo + 8 → Z t8 ls r M) (k9 : x = lo + 9 → Z t9 ls r M) (k10 : x = lo + 10 → Z t10 ls r M) (kf : x < lo ∨ lo + 11 ≤ x → Z d ls r M) : Z ip ls (mi x :: r) M := by
  refine w_tsw hZ ip hc (fun j t hj hx => ?_) (fun h => kf h)
  match j, hj with
  | 0, hj => cases hj; exact k0 hx
  | 1, hj => cases hj; exact k1 hx
  | 2, hj => cases hj; exact k2 hx
  | 3, hj => cases hj; exact k3 hx
  | 4, hj => cases hj; exact k4 hx
  | 5, hj => cases hj; exact k5 hx
  | 6, hj => cases hj; exact k6 hx
  | 7, hj => cases hj; exact k7 hx
  | 8, hj => cases hj; exact k8 hx
  | 9, hj => cases hj; exact k9 hx
  | 10, hj => cases hj; exact k10 hx
  | j + 11, hj => simp at hj
theorem w_tsw20 (hZ : Sim code Z Ret) (ip : Nat) {ls : List (Option MV)} {lo x : Int} {t0 t1 t2 t3 t4 t5 t6 t7 t8 t9 t10 t11 t12 t13 t14 t15 t16 t17 t18 t19 d : Nat} (hc : code[ip]? = some (I_tsw lo [t0, t1, t2, t3, t4, t5, t6, t7, t8, t9, t10, t11, t12, t13, t14, t15, t16, t17, t18, t19] d)) (k0 : x = lo + 0 → Z t0 ls r M) (k1 : x = lo + 1 → Z t1 ls r M) (k2 : x = lo + 2 → Z t2 ls r M) (k3 : x = lo + 3 → Z t3 ls r M) (k4 : x = lo + 4 → Z t4 ls r M) (k5 : x = lo + 5 → Z t5 ls r M) (k6 : x = lo + 6 → Z t6 ls r M) (k7 : x = lo + 7 → Z t7 ls r M) (k8 : x = lo + 8 → Z t8 ls r M) (k9 : x = lo + 9 → Z t9 ls r M) (k10 : x = lo + 10 → Z t10 ls r M) (k11 : x = lo + 11 → Z t11 ls r M) (k12 : x = lo + 12 → Z t12 ls r M) (k13 : x = lo + 13 → Z t13 ls r M) (k14 : x = lo + 14 → Z t14 ls r M) (k15 : x = lo + 15 → Z t15 ls r M) (k16 : x = lo + 16 → Z t16 ls r M) (k17 : x = lo + 17 → Z t17 ls r M) (k18 : x = lo + 18 → Z t18 ls r M) (k19 : x = lo + 19 → Z t19 ls r M) (kf : x < lo ∨ lo + 20 ≤ x → Z d ls r M) : Z ip ls (mi x :: r) M := by
  refine w_tsw hZ ip hc (fun j t hj hx => ?_) (fun h => kf h)
  match j, hj with
  | 0, hj => cases hj; exact k0 hx
  | 1, hj => cases hj; exact k1 hx
  | 2, hj => cases hj; exact k2 hx
  | 3, hj => cases hj; exact k3 hx
  | 4, hj => cases hj; exact k4 hx
  | 5, hj => cases hj; exact k5 hx
  | 6, hj => cases hj; exact k6 hx
  | 7, hj => cases hj; exact k7 hx
  | 8, hj => cases hj; exact k8 hx
  | 9, hj => cases hj; exact k9 hx
  | 10, hj => cases hj; exact k10 hx
  | 11, hj => cases hj; exact k11 hx
  | 12, hj => cases hj; exact k12 hx
  | 13, hj => cases hj; exact k13 hx
  | 14, hj => cases hj; exact k14 hx
  | 15, hj => cases hj; exact k15 hx
  | 16, hj => cases hj; exact k16 hx
  | 17, hj => cases hj; exact k17 hx
  | 18, hj => cases hj; exact k18 hx
  | 19, hj => cases hj; exact k19 hx
  | j + 20, hj => simp at hj
theorem w_aald2 (hZ : Sim code Z Ret) (ip np : Nat) {ls : List (Option MV)} {o : Nat} {i : Int} {t0 t1 : Nat} (hc : code[ip]? = some I_aald) (hn : ip + 1 = np) (h1 : shp[o]? = some (.inr (.inr [t0, t1]))) (h2 : 0 ≤ i) (h3 : i < 2) (k0 : i = 0 → Z np ls (mr t0 :: r) M) (k1 : i = 1 → Z np ls (mr t1 :: r) M) : Z ip ls (mi i :: mr o :: r) M := by
  refine w_aald hZ ip np hc hn h1 h2 h3 (fun j t hj hx => ?_)
  match j, hj with
  | 0, hj => cases hj; exact k0 hx
  | 1, hj => cases hj; exact k1 hx
  | j + 2, hj => simp at hj
theorem w_aald8 (hZ : Sim code Z Ret) (ip np : Nat) {ls : List (Option MV)} {o : Nat} {i : Int} {t0 t1 t2 t3 t4 t5 t6 t7 : Nat} (hc : code[ip]? = some I_aald) (hn : ip + 1 = np) (h1 : shp[o]? = some (.inr (.inr [t0, t1, t2, t3, t4, t5, t6, t7]))) (h2 : 0 ≤ i) (h3 : i < 8) (k0 : i = 0 → Z np ls (mr t0 :: r) M) (k1 : i = 1 → Z np ls (mr t1 :: r) M) (k2 : i = 2 → Z np ls (mr t2 :: r) M) (k3 : i = 3 → Z np ls (mr t3 :: r) M) (k4 : i = 4 → Z np ls (mr t4 :: r) M) (k5 : i = 5 → Z np ls (mr t5 :: r) M) (k6 : i = 6 → Z np ls (mr t6 :: r) M) (k7 : i = 7 → Z np ls (mr t7 :: r) M) : Z ip ls (mi i :: mr o :: r) M := by
  refine w_aald hZ ip np hc hn h1 h2 h3 (fun j t hj hx => ?_)
  match j, hj with
  | 0, hj => cases hj; exact k0 hx
  | 1, hj => cases hj; exact k1 hx
  | 2, hj => cases hj; exact k2 hx
  | 3, hj => cases hj; exact k3 hx
  | 4, hj => cases hj; exact k4 hx
  | 5, hj => cases hj; exact k5 hx
  | 6, hj => cases hj; exact k6 hx
  | 7, hj => cases hj; exact k7 hx
  | j + 8, hj => simp at hj
theorem w_getiv (hZ : Sim code Z Ret) (ip np : Nat) {ls : List (Option MV)} {o ci f : Nat} {q : Nat × List Nat} (hc : code[ip]? = some (I_get ci f)) (hn : ip + 1 = np) (h1 : shp[o]? = some (.inl q)) (h2 : q.1 = ci) (h3 : q.2[f]? = some 0) {v : Int} (hv : M o f = v) (k : Z np ls (mi v :: r) M) : Z ip ls (mr o :: r) M := by subst hv; exact w_geti hZ ip np hc hn h1 h2 h3 k
theorem w_getzv (hZ : Sim code Z Ret) (ip np : Nat) {ls : List (Option MV)} {o ci f : Nat} {q : Nat × List Nat} (hc : code[ip]? = some (I_get ci f)) (hn : ip + 1 = np) (h1 : shp[o]? = some (.inl q)) (h2 : q.1 = ci) (h3 : q.2[f]? = some 1) {v : Int} (hv : M o f = v) (k : Z np ls (mi v :: r) M) : Z ip ls (mr o :: r) M := by subst hv; exact w_getz hZ ip np hc hn h1 h2 h3 k
theorem w_ialdv (hZ : Sim code Z Ret) (ip np : Nat) {ls : List (Option MV)} {o n : Nat} {i : Int} (hc : code[ip]? = some I_iald) (hn : ip + 1 = np) (h1 : shp[o]? = some (.inr (.inl (0, n)))) (h2 : 0 ≤ i) (h3 : i < n) {v : Int} (hv : M o i.toNat = v) (k : Z np ls (mi v :: r) M) : Z ip ls (mi i :: mr o :: r) M := by subst hv; exact w_iald hZ ip np hc hn h1 h2 h3 k
theorem w_zaldv (hZ : Sim code Z Ret) (ip np : Nat) {ls : List (Option MV)} {o n : Nat} {i : Int} (hc : code[ip]? = some I_zald) (hn : ip + 1 = np) (h1 : shp[o]? = some (.inr (.inl (1, n)))) (h2 : 0 ≤ i) (h3 : i < n) {v : Int} (hv : M o i.toNat = v) (k : Z np ls (mi v :: r) M) : Z ip ls (mi i :: mr o :: r) M := by subst hv; exact w_zald hZ ip np hc hn h1 h2 h3 k
end ROWS2
