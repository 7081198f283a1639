/-! THE ABSTRACT STATE: the book, the past (newest first), the images, the felt CELLS -/
abbrev St : Type := BV × List BV × (Int → Option BV) × Int × (Int → Int)
abbrev sB (s : St) : BV := s.1
abbrev sH (s : St) : List BV := s.2.1
abbrev sI (s : St) : Int → Option BV := s.2.2.1
abbrev sC (s : St) : Int := s.2.2.2.1
abbrev sL (s : St) : Int → Int := s.2.2.2.2
def stOk (s : St) : Prop := vOk (sB s) ∧ (sH s).length ≤ 8 ∧ (∀ V ∈ sH s, vOk V) ∧ (∀ j V, sI s j = some V → vOk V) ∧ 0 ≤ sC s ∧ sC s ≤ 240 ∧ (∀ i, i < 0 ∨ sC s ≤ i → sL s i = -1) ∧ (∀ i, 0 ≤ i → i < sC s → isCl (sL s i))
/-- the class holds s -/
def XR (s : St) (M : Mem) : Prop := bX M 1 = (sB s) ∧ Hx M ∧ M 6 2 = (sH s).length ∧ (∀ j : Nat, j < (sH s).length → bX M (pb ((M 6 1 + 7 - j) % 8)) = (sH s).getD j (sB s)) ∧ (∀ j : Nat, j < 2 → (M 9 j = 0 ∧ sI s j = none) ∨ (M 9 j = 1 ∧ sI s j = some (bX M (63 + 5 * j)))) ∧ M 0 7 = sC s ∧ sgn (sC s) (M 19) = sL s
/-! what happens to a book -/
def aR (V : BV) (c e k : Int) : BV := (vN V, vS V, vR V + 1, (fun j => if j = (vR V).toNat then c else vC' V j), (fun j => if j = (vR V).toNat then e else vE V j), (fun j => if j = (vR V).toNat then k else vK V j), vW V, vP V)
def aS (V : BV) (g : Int) : BV := (vN V + 1, (fun i => if i = vN V then g else vS V i), vR V, vC' V, vE V, vK V, vW V, vP V)
def shf (f : Nat → Int) (k n : Int) : Nat → Int := cut (n - 1) (fun j => if k ≤ (j : Int) then f (j + 1) else f j)
def dR (V : BV) (k : Int) : BV := (vN V, vS V, vR V - 1, shf (vC' V) k (vR V), shf (vE V) k (vR V), shf (vK V) k (vR V), vW V, vP V)
def sW (V : BV) (w : Int) : BV := (vN V, vS V, vR V, vC' V, vE V, vK V, w, vP V)
def sP (V : BV) (p : Int) : BV := (vN V, vS V, vR V, vC' V, vE V, vK V, vW V, p)
def wp (V : BV) : BV := (0, (fun _ => -1), vR V, vC' V, vE V, vK V, vW V, vP V)
abbrev tkn (V : BV) (c e : Int) : Prop := ¬ fIx (vC' V) c (vR V) = -1 ∨ ¬ fIx (vE V) e (vR V) = -1
theorem fIx_no {f : Nat → Int} {c n : Int} (hn : 0 ≤ n) (h : fIx f c n = -1) (j : Nat) (hj : (j : Int) < n) : ¬ f j = c := by
  rcases fIx_is f c hn with ⟨_, q⟩ | ⟨q, _⟩
  · exact q j (by omega) hj
  · omega
theorem fIx_yes {f : Nat → Int} {c n : Int} (hn : 0 ≤ n) (h : ¬ fIx f c n = -1) : 0 ≤ fIx f c n ∧ fIx f c n < n ∧ f (fIx f c n).toNat = c := by
  rcases fIx_is f c hn with ⟨q, _⟩ | ⟨q, q2, q3, _⟩
  · exact absurd q h
  · exact ⟨q, q2, q3⟩
theorem aR_ok {V : BV} (h : vOk V) {c e k : Int} (hc : vC c) (he : isRC e) (k0 : 0 ≤ k) (k1 : k ≤ 4) (ht : ¬ tkn V c e) (hr : vR V < 12) : vOk (aR V c e k) := by
  obtain ⟨a1, a2, a3, a4, a5, a6, a7, a8, a9, a10⟩ := h
  have t1 : fIx (vC' V) c (vR V) = -1 := Decidable.byContradiction fun q => ht (Or.inl q)
  have t2 : fIx (vE V) e (vR V) = -1 := Decidable.byContradiction fun q => ht (Or.inr q)
  refine ⟨a1, a2, by show 0 ≤ vR V + 1; omega, by show vR V + 1 ≤ 12; omega, a5, a6, ?_, ?_, ?_, a10⟩
  · intro j hj
    replace hj : (j : Int) < vR V + 1 := hj
    show vC (if j = (vR V).toNat then c else vC' V j) ∧ isRC (if j = (vR V).toNat then e else vE V j) ∧ 0 ≤ (if j = (vR V).toNat then k else vK V j) ∧ (if j = (vR V).toNat then k else vK V j) ≤ 4
    by_cases q : j = (vR V).toNat
    · rw [if_pos q, if_pos q, if_pos q]; exact ⟨hc, he, k0, k1⟩
    · rw [if_neg q, if_neg q, if_neg q]; exact a7 j (by omega)
  · intro i j hi hj
    replace hi : (i : Int) < vR V + 1 := hi
    replace hj : (j : Int) < vR V + 1 := hj
    show (if i = (vR V).toNat then c else vC' V i) = (if j = (vR V).toNat then c else vC' V j) → i = j
    by_cases q : i = (vR V).toNat <;> by_cases p : j = (vR V).toNat
    · intro _; rw [q, p]
    · rw [if_pos q, if_neg p]; intro e'; exact absurd e'.symm (fIx_no a3 t1 j (by omega))
    · rw [if_neg q, if_pos p]; intro e'; exact absurd e' (fIx_no a3 t1 i (by omega))
    · rw [if_neg q, if_neg p]; exact a8 i j (by omega) (by omega)
  · intro i j hi hj
    replace hi : (i : Int) < vR V + 1 := hi
    replace hj : (j : Int) < vR V + 1 := hj
    show (if i = (vR V).toNat then e else vE V i) = (if j = (vR V).toNat then e else vE V j) → i = j
    by_cases q : i = (vR V).toNat <;> by_cases p : j = (vR V).toNat
    · intro _; rw [q, p]
    · rw [if_pos q, if_neg p]; intro e'; exact absurd e'.symm (fIx_no a3 t2 j (by omega))
    · rw [if_neg q, if_pos p]; intro e'; exact absurd e' (fIx_no a3 t2 i (by omega))
    · rw [if_neg q, if_neg p]; exact a9 i j (by omega) (by omega)
theorem aS_ok {V : BV} (h : vOk V) {g : Int} (hg : isSg g) (hn : vN V < 120) : vOk (aS V g) := by
  obtain ⟨a1, a2, a3, a4, a5, a6, a7⟩ := h
  refine ⟨by show 0 ≤ vN V + 1; omega, by show vN V + 1 ≤ 120; omega, a3, a4, ?_, ?_, a7⟩
  · intro i i0 i1
    replace i1 : i < vN V + 1 := i1
    show isSg (if i = vN V then g else vS V i)
    by_cases q : i = vN V
    · rw [if_pos q]; exact hg
    · rw [if_neg q]; exact a5 i i0 (by omega)
  · intro i hi
    replace hi : i < 0 ∨ vN V + 1 ≤ i := hi
    show (if i = vN V then g else vS V i) = -1
    rw [if_neg (by omega)]; exact a6 i (by omega)
theorem shf_in {f : Nat → Int} {k n : Int} {j : Nat} (h : (j : Int) < n - 1) : shf f k n j = if k ≤ (j : Int) then f (j + 1) else f j := cut_in h
theorem shf_inj {f : Nat → Int} {k n : Int} (hi : ∀ i j : Nat, (i : Int) < n → (j : Int) < n → f i = f j → i = j) (i j : Nat) (h1 : (i : Int) < n - 1) (h2 : (j : Int) < n - 1) (e : shf f k n i = shf f k n j) : i = j := by
  rw [shf_in h1, shf_in h2] at e
  by_cases q : k ≤ (i : Int) <;> by_cases p : k ≤ (j : Int)
  · rw [if_pos q, if_pos p] at e; have := hi _ _ (by omega) (by omega) e; omega
  · rw [if_pos q, if_neg p] at e; have := hi _ _ (by omega) (by omega) e; omega
  · rw [if_neg q, if_pos p] at e; have := hi _ _ (by omega) (by omega) e; omega
  · rw [if_neg q, if_neg p] at e; exact hi _ _ (by omega) (by omega) e
theorem dR_ok {V : BV} (h : vOk V) {k : Int} (k0 : 0 ≤ k) (k1 : k < vR V) : vOk (dR V k) := by
  obtain ⟨a1, a2, a3, a4, a5, a6, a7, a8, a9, a10⟩ := h
  refine ⟨a1, a2, by show 0 ≤ vR V - 1; omega, by show vR V - 1 ≤ 12; omega, a5, a6, ?_, fun i j hi hj e => shf_inj a8 i j hi hj e, fun i j hi hj e => shf_inj a9 i j hi hj e, a10⟩
  intro j hj
  replace hj : (j : Int) < vR V - 1 := hj
  show vC (shf (vC' V) k (vR V) j) ∧ isRC (shf (vE V) k (vR V) j) ∧ 0 ≤ shf (vK V) k (vR V) j ∧ shf (vK V) k (vR V) j ≤ 4
  rw [shf_in hj, shf_in hj, shf_in hj]
  by_cases q : k ≤ (j : Int)
  · rw [if_pos q, if_pos q, if_pos q]; exact a7 (j + 1) (by omega)
  · rw [if_neg q, if_neg q, if_neg q]; exact a7 j (by omega)
theorem sW_ok {V : BV} (h : vOk V) {w : Int} (h0 : 4 ≤ w) (h1 : w ≤ 40) : vOk (sW V w) := by
  obtain ⟨a1, a2, a3, a4, a5, a6, a7, a8, a9, a10, a11, a12⟩ := h
  exact ⟨a1, a2, a3, a4, a5, a6, a7, a8, a9, h0, h1, a12⟩
theorem sP_ok {V : BV} (h : vOk V) {p : Int} (h0 : 1 ≤ p) (h1 : p ≤ 20) : vOk (sP V p) := by
  obtain ⟨a1, a2, a3, a4, a5, a6, a7, a8, a9, a10, a11, a12⟩ := h
  exact ⟨a1, a2, a3, a4, a5, a6, a7, a8, a9, a10, a11, h0, h1⟩
theorem wp_ok {V : BV} (h : vOk V) : vOk (wp V) := by
  obtain ⟨a1, a2, a3, a4, a5, a6, a7⟩ := h
  exact ⟨Int.le_refl _, show (0 : Int) ≤ 120 by omega, a3, a4, fun i i0 i1 => absurd i1 (by show ¬ i < 0; omega), fun i _ => rfl, a7⟩
/-! the LOTS -/
def lt1 (x : Int) : Int := x * 16807 % 2147483647
def lotC : Nat → Int → Int → Int × Int
  | 0, c, x => (c, x)
  | k + 1, c, x => lotC k (c * 27 + 1 + lt1 x % 5) (lt1 x)
/-- one RULE by LOTS: the book, the next lot -/
def lotR (V : BV) (x : Int) : BV × Int :=
  let p := lotC (2 + lt1 x % 3).toNat 0 (lt1 x)
  (if tkn V p.1 (30 + lt1 p.2 % 30) ∨ 12 ≤ vR V then V else aR V p.1 (30 + lt1 p.2 % 30) (lt1 (lt1 p.2) % 5), lt1 (lt1 p.2))
def dft : Nat → BV → Int → BV
  | 0, V, _ => V
  | k + 1, V, x => dft k (lotR V x).1 (lotR V x).2
theorem lt1_ok {x : Int} (h0 : 0 < x) (h1 : x < 2147483647) : 0 < lt1 x ∧ lt1 x < 2147483647 := by
  unfold lt1
  have hp : ¬ x * 16807 % 2147483647 = 0 := by
    intro h
    have : (2147483647 : Int) ∣ x * 16807 := Int.dvd_of_emod_eq_zero h
    obtain ⟨q, hq⟩ := this
    have hc : (2147483647 : Int) ∣ x := ⟨q * 1407677000 - x * 11017, by omega⟩
    have := Int.le_of_dvd h0 hc
    omega
  omega
theorem lotC_ok : ∀ (k : Nat) (c x : Int), 0 < x → x < 2147483647 → 0 < (lotC k c x).2 ∧ (lotC k c x).2 < 2147483647
  | 0, c, x, h0, h1 => ⟨h0, h1⟩
  | k + 1, c, x, h0, h1 => by
    unfold lotC
    exact lotC_ok k _ _ (lt1_ok h0 h1).1 (lt1_ok h0 h1).2
theorem lotC_vC (n x : Int) (h0 : 0 ≤ n) (h1 : n ≤ 2) : vC (lotC (2 + n).toNat 0 x).1 := by
  have d : ∀ y : Int, 0 ≤ lt1 y % 5 ∧ lt1 y % 5 ≤ 4 := fun y => by omega
  have hn : n = 0 ∨ n = 1 ∨ n = 2 := by omega
  rcases hn with rfl | rfl | rfl
  · show vC ((0 * 27 + 1 + lt1 x % 5) * 27 + 1 + lt1 (lt1 x) % 5)
    have := d x; have := d (lt1 x)
    generalize lt1 x % 5 = a at *; generalize lt1 (lt1 x) % 5 = b at *
    unfold vC; omega
  · show vC (((0 * 27 + 1 + lt1 x % 5) * 27 + 1 + lt1 (lt1 x) % 5) * 27 + 1 + lt1 (lt1 (lt1 x)) % 5)
    have := d x; have := d (lt1 x); have := d (lt1 (lt1 x))
    generalize lt1 x % 5 = a at *; generalize lt1 (lt1 x) % 5 = b at *; generalize lt1 (lt1 (lt1 x)) % 5 = c at *
    unfold vC; omega
  · show vC ((((0 * 27 + 1 + lt1 x % 5) * 27 + 1 + lt1 (lt1 x) % 5) * 27 + 1 + lt1 (lt1 (lt1 x)) % 5) * 27 + 1 + lt1 (lt1 (lt1 (lt1 x))) % 5)
    have := d x; have := d (lt1 x); have := d (lt1 (lt1 x)); have := d (lt1 (lt1 (lt1 x)))
    generalize lt1 x % 5 = a at *; generalize lt1 (lt1 x) % 5 = b at *; generalize lt1 (lt1 (lt1 x)) % 5 = c at *; generalize lt1 (lt1 (lt1 (lt1 x))) % 5 = e at *
    unfold vC; omega
theorem lotR_ok {V : BV} (h : vOk V) {x : Int} (h0 : 0 < x) (h1 : x < 2147483647) : vOk (lotR V x).1 ∧ 0 < (lotR V x).2 ∧ (lotR V x).2 < 2147483647 := by
  have a := lt1_ok h0 h1
  have b := lotC_ok (2 + lt1 x % 3).toNat 0 (lt1 x) a.1 a.2
  have c := lt1_ok b.1 b.2
  have d := lt1_ok c.1 c.2
  have hv := lotC_vC (lt1 x % 3) (lt1 x) (by omega) (by omega)
  unfold lotR
  refine ⟨?_, d⟩
  show vOk (if _ then _ else _)
  split
  · exact h
  · rename_i q
    have q2 := fun z => q (Or.inl z)
    exact aR_ok h hv (by constructor <;> omega) (by omega) (by omega) q2 (Decidable.byContradiction fun z => q (Or.inr (by omega)))
theorem dft_ok : ∀ (k : Nat) {V : BV} {x : Int}, vOk V → 0 < x → x < 2147483647 → vOk (dft k V x)
  | 0, _, _, h, _, _ => h
  | k + 1, V, x, h, h0, h1 => by
    have := lotR_ok h h0 h1
    exact dft_ok k this.1 this.2.1 this.2.2
/-! the class holds s: what keeps it -/
theorem gD_in {α : Type} (l : List α) (d : α) {j : Nat} (h : j < l.length) : l.getD j d = l[j] := by
  rw [List.getD_eq_getElem?_getD, List.getElem?_eq_getElem h]; rfl
theorem cpB_bX {t o : Nat} {M N : Mem} (h : cpB t o M N) (h4 : M o 4 ≤ 12) (h5 : M o 5 ≤ 120) : bX N t = bX M o := by
  obtain ⟨a1, a2, a3, a4, a5, a6, a7, a8, _⟩ := h
  unfold bX
  rw [a1, a2, a3, a4, sgn_congr (f := N (t + 4)) (h := M (o + 4)) (fun i hi => a8 i (by omega)), cut_congr (f := N (t + 1)) (h := M (o + 1)) (fun i hi => a5 i (by omega)), cut_congr (f := N (t + 2)) (h := M (o + 2)) (fun i hi => a6 i (by omega)), cut_congr (f := N (t + 3)) (h := M (o + 3)) (fun i hi => a7 i (by omega))]
theorem vOk.lim {M : Mem} {k : Nat} (h : vOk (bX M k)) : M k 4 ≤ 12 ∧ M k 5 ≤ 120 := ⟨h.2.2.2.1, h.2.1⟩
theorem XR.same {s : St} {M M2 : Mem} (h : XR s M) (e : ∀ k, k < 10 ∨ k = 19 ∨ (23 ≤ k ∧ k < 73) → M2 k = M k) : XR s M2 := by
  obtain ⟨a1, a2, a3, a4, a5, a6, a7⟩ := h
  have e6 := e 6 (by omega)
  refine ⟨(bX_same 1 (fun j p q => e j (by omega))).trans a1, by unfold Hx; rw [e6]; exact a2, by rw [e6]; exact a3, fun j hj => ?_, fun j hj => ?_, by rw [e 0 (by omega)]; exact a6, by rw [e 19 (by omega)]; exact a7⟩
  · rw [e6, bX_same (M := M) _ (fun q p1 p2 => e q (by unfold pb at p1 p2; omega))]; exact a4 j hj
  · rw [e 9 (by omega), bX_same (M := M) (63 + 5 * j) (fun q p1 p2 => e q (by omega))]; exact a5 j hj
/-- only the book changed -/
theorem XR.book {s : St} {M M2 : Mem} (h : XR s M) (e : ∀ k, k = 0 ∨ 6 ≤ k → M2 k = M k) {V : BV} (hV : bX M2 1 = V) : XR (V, sH s, sI s, sC s, sL s) M2 := by
  obtain ⟨a1, a2, a3, a4, a5, a6, a7⟩ := h
  have e6 := e 6 (by omega)
  refine ⟨hV, by unfold Hx; rw [e6]; exact a2, by rw [e6]; exact a3, fun j hj => ?_, fun j hj => ?_, by rw [e 0 (by omega)]; exact a6, by rw [e 19 (by omega)]; exact a7⟩
  · rw [e6, bX_same (M := M) _ (fun q p1 p2 => e q (by unfold pb at p1 p2; omega)), a4 j hj]
    rw [gD_in _ _ hj, gD_in _ _ hj]
  · rw [e 9 (by omega), bX_same (M := M) (63 + 5 * j) (fun q p1 p2 => e q (by omega))]; exact a5 j hj
theorem XR.rem {s : St} {M M2 : Mem} (h : XR s M) (hv : stOk s) (hr : remB M M2) : XR (sB s, (sB s :: sH s).take 8, sI s, sC s, sL s) M2 := by
  obtain ⟨a1, a2, a3, a4, a5, a6, a7⟩ := h
  obtain ⟨N, hc, rfl⟩ := hr
  have hl : vOk (bX M 1) := by rw [a1]; exact hv.1
  have h8 := hv.2.1
  have hb := cpB_bX hc hl.lim.1 hl.lim.2
  have hx0 := a2.1
  have hx1 := a2.2.1
  have e := hc.2.2.2.2.2.2.2.2
  have p0 : pb (M 6 1) = 23 + 5 * (M 6 1).toNat := rfl
  have eN : ∀ k, ¬ k = 6 → mup (mup N 6 1 ((M 6 1 + 1) % 8)) 6 2 (if 8 < M 6 2 + 1 then 8 else M 6 2 + 1) k = N k := fun k hk => by funext j; simp [mup_at, hk]
  generalize hM2 : mup (mup N 6 1 ((M 6 1 + 1) % 8)) 6 2 (if 8 < M 6 2 + 1 then 8 else M 6 2 + 1) = M2 at *
  have m1 : M2 6 1 = (M 6 1 + 1) % 8 := by rw [← hM2]; simp [mup_at]
  have m2 : M2 6 2 = if 8 < M 6 2 + 1 then 8 else M 6 2 + 1 := by rw [← hM2]; simp [mup_at]
  have hlen : (((sB s :: sH s).take 8).length : Int) = if 8 < M 6 2 + 1 then 8 else M 6 2 + 1 := by
    rw [List.length_take, List.length_cons, a3]; split <;> omega
  refine ⟨?_, ⟨by omega, by omega, by omega, by rw [m2]; split <;> omega⟩, by rw [m2]; exact hlen.symm, fun j hj => ?_, fun j hj => ?_, ?_, ?_⟩
  · rw [bX_same (M := M) 1 (fun q p1 p2 => by rw [eN q (by omega), e q (by omega)])]; exact a1
  · have hj8 : j < 8 ∧ j < (sH s).length + 1 := by
      rw [List.length_take, List.length_cons] at hj; omega
    show bX M2 (pb ((M2 6 1 + 7 - j) % 8)) = ((sB s :: sH s).take 8).getD j (sB s)
    rw [gD_in _ _ hj, List.getElem_take, m1]
    cases j with
    | zero =>
      rw [show ((M 6 1 + 1) % 8 + 7 - ((0 : Nat) : Int)) % 8 = M 6 1 by omega, bX_same (M := N) _ (fun q p1 p2 => eN q (by unfold pb at p1 p2; omega)), hb]
      exact a1
    | succ i =>
      have hi : i < (sH s).length := by omega
      rw [show ((M 6 1 + 1) % 8 + 7 - ((i + 1 : Nat) : Int)) % 8 = (M 6 1 + 7 - i) % 8 by omega]
      have ne : ¬ (M 6 1 + 7 - i) % 8 = M 6 1 := by omega
      rw [bX_same (M := M) _ (fun q p1 p2 => by rw [eN q (by unfold pb at p1 p2; omega), e q (by rw [p0]; unfold pb at p1 p2; omega)]), a4 i hi, gD_in _ _ hi]
      rfl
  · rw [eN 9 (by omega), e 9 (by omega), bX_same (M := M) (63 + 5 * j) (fun q p1 p2 => by rw [eN q (by omega), e q (by omega)])]; exact a5 j hj
  · rw [eN 0 (by omega), e 0 (by omega)]; exact a6
  · rw [eN 19 (by omega), e 19 (by omega)]; exact a7
theorem XR.undo {s : St} {M M2 : Mem} (h : XR s M) (hv : stOk s) {V : BV} {t : List BV} (hh : sH s = V :: t) (ht : tkB M M2) : XR (V, t, sI s, sC s, sL s) M2 := by
  obtain ⟨a1, a2, a3, a4, a5, a6, a7⟩ := h
  have hx0 := a2.1
  have hx1 := a2.2.1
  have hlen : (sH s).length = t.length + 1 := by rw [hh]; rfl
  have h8 := hv.2.1
  unfold tkB at ht
  rw [if_neg (by omega)] at ht
  generalize hx : (M 6 1 + 8 - 1) % 8 = x at *
  have eN : ∀ k, ¬ k = 6 → mup (mup M 6 1 x) 6 2 (M 6 2 - 1) k = M k := fun k hk => by funext j; simp [mup_at, hk]
  have n1 : mup (mup M 6 1 x) 6 2 (M 6 2 - 1) 6 1 = x := by simp [mup_at]
  have n2 : mup (mup M 6 1 x) 6 2 (M 6 2 - 1) 6 2 = M 6 2 - 1 := by simp [mup_at]
  generalize mup (mup M 6 1 x) 6 2 (M 6 2 - 1) = N at *
  have hp : pb x = 23 + 5 * x.toNat := rfl
  have hV : bX N (pb x) = V := by
    rw [bX_same (M := M) _ (fun q p1 p2 => eN q (by omega))]
    have := a4 0 (by omega)
    rw [show (M 6 1 + 7 - ((0 : Nat) : Int)) % 8 = x by omega, hh] at this
    exact this
  have hl : vOk (bX N (pb x)) := by rw [hV]; exact hv.2.2.1 V (by rw [hh]; exact List.mem_cons_self)
  have hb := (cpB_bX ht hl.lim.1 hl.lim.2).trans hV
  have e := ht.2.2.2.2.2.2.2.2
  have e6 := e 6 (by omega)
  refine ⟨hb, ⟨by rw [e6, n1]; omega, by rw [e6, n1]; omega, by rw [e6, n2]; omega, by rw [e6, n2]; omega⟩, by rw [e6, n2]; show M 6 2 - 1 = (t.length : Int); omega, fun j hj => ?_, fun j hj => ?_, ?_, ?_⟩
  · replace hj : j < t.length := hj
    show bX M2 (pb ((M2 6 1 + 7 - j) % 8)) = t.getD j V
    rw [e6, n1, show (x + 7 - (j : Int)) % 8 = (M 6 1 + 7 - ((j + 1 : Nat) : Int)) % 8 by omega, bX_same (M := M) _ (fun q p1 p2 => by rw [e q (by unfold pb at p1 p2; omega), eN q (by unfold pb at p1 p2; omega)]), a4 (j + 1) (by omega), hh]
    rw [List.getD_cons_succ, gD_in _ _ hj, gD_in _ _ hj]
  · rw [e 9 (by omega), eN 9 (by omega), bX_same (M := M) (63 + 5 * j) (fun q p1 p2 => by rw [e q (by omega), eN q (by omega)])]; exact a5 j hj
  · rw [e 0 (by omega), eN 0 (by omega)]; exact a6
  · rw [e 19 (by omega), eN 19 (by omega)]; exact a7
theorem XR.forget {s : St} {M : Mem} (h : XR s M) : XR (sB s, [], sI s, sC s, sL s) (mup M 6 2 0) := by
  obtain ⟨a1, a2, a3, a4, a5, a6, a7⟩ := h
  have eN : ∀ k, ¬ k = 6 → mup M 6 2 0 k = M k := fun k hk => by funext j; simp [mup_at, hk]
  have n1 : mup M 6 2 0 6 1 = M 6 1 := by simp [mup_at]
  have n2 : mup M 6 2 0 6 2 = 0 := by simp [mup_at]
  generalize mup M 6 2 0 = N at *
  refine ⟨(bX_same 1 (fun j p q => eN j (by omega))).trans a1, ⟨by rw [n1]; exact a2.1, by rw [n1]; exact a2.2.1, by rw [n2]; omega, by rw [n2]; omega⟩, by rw [n2]; rfl, fun j hj => absurd hj (Nat.not_lt_zero j), fun j hj => ?_, ?_, ?_⟩
  · rw [eN 9 (by omega), bX_same (M := M) (63 + 5 * j) (fun q p1 p2 => eN q (by omega))]; exact a5 j hj
  · rw [eN 0 (by omega)]; exact a6
  · rw [eN 19 (by omega)]; exact a7
def upI (f : Int → Option BV) (k : Int) (V : BV) : Int → Option BV := fun j => if j = k then some V else f j
theorem XR.keep {s : St} {M N : Mem} (h : XR s M) (hv : stOk s) {k : Nat} (hk : k < 2) (hc : cpB (63 + 5 * k) 1 M N) : XR (sB s, sH s, upI (sI s) k (sB s), sC s, sL s) (mup N 9 k 1) := by
  obtain ⟨a1, a2, a3, a4, a5, a6, a7⟩ := h
  have hl : vOk (bX M 1) := by rw [a1]; exact hv.1
  have hb := (cpB_bX hc hl.lim.1 hl.lim.2).trans a1
  have e := hc.2.2.2.2.2.2.2.2
  have eN : ∀ q, ¬ q = 9 → mup N 9 k 1 q = N q := fun q hq => by funext j; simp [mup_at, hq]
  have n1 : mup N 9 k 1 9 k = 1 := by simp [mup_at]
  have n2 : ∀ j, ¬ j = k → mup N 9 k 1 9 j = M 9 j := fun j hj => by rw [← e 9 (by omega)]; simp [mup_at, hj]
  generalize mup N 9 k 1 = M2 at *
  have e2 : ∀ q, ¬ q = 9 → (q < 63 + 5 * k ∨ 63 + 5 * k + 5 ≤ q) → M2 q = M q := fun q h1 h2 => by rw [eN q h1, e q h2]
  have e6 := e2 6 (by omega) (by omega)
  refine ⟨(bX_same 1 (fun j p q => e2 j (by omega) (by omega))).trans a1, by unfold Hx; rw [e6]; exact a2, by rw [e6]; exact a3, fun j hj => ?_, fun j hj => ?_, by rw [e2 0 (by omega) (by omega)]; exact a6, by rw [e2 19 (by omega) (by omega)]; exact a7⟩
  · have hx0 := a2.1
    rw [e6, bX_same (M := M) _ (fun q p1 p2 => e2 q (by unfold pb at p1 p2; omega) (by unfold pb at p1 p2; omega))]; exact a4 j hj
  · by_cases q : j = k
    · subst q
      refine Or.inr ⟨n1, ?_⟩
      show upI (sI s) j (sB s) j = _
      unfold upI
      rw [if_pos rfl, bX_same (M := N) (63 + 5 * j) (fun q p1 p2 => eN q (by omega)), hb]
    · rw [n2 j q, bX_same (M := M) (63 + 5 * j) (fun q p1 p2 => e2 q (by omega) (by omega))]
      show (M 9 j = 0 ∧ upI (sI s) k (sB s) j = none) ∨ (M 9 j = 1 ∧ upI (sI s) k (sB s) j = _)
      unfold upI
      rw [if_neg (by omega)]
      exact a5 j hj
