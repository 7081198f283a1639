/-! the cells one behind the other -/
theorem vOk.ln {V : BV} (h : vOk V) {k : Int} (h0 : 0 ≤ k) (h1 : k < vR V) : 2 ≤ lnC (vC' V k.toNat) ∧ lnC (vC' V k.toNat) ≤ 4 := by
  have := (h.2.2.2.2.2.2.1 k.toNat (by omega)).1
  exact ⟨lnC_2.mpr this.1, (lnC_le _).2⟩
theorem vOk.sv_ln {V : BV} (h : vOk V) {w a b : Int} {g : Bool} {i : Int} (hs : ¬ sv V w a b g i = -1) : 0 ≤ sv V w a b g i ∧ sv V w a b g i < vR V ∧ 2 ≤ lnC (vC' V (sv V w a b g i).toNat) ∧ lnC (vC' V (sv V w a b g i).toNat) ≤ 4 := by
  rcases sv_rng V w a b g i h.2.2.1 with q | ⟨q1, q2⟩
  · exact absurd q hs
  · exact ⟨q1, q2, (h.ln q1 q2).1, (h.ln q1 q2).2⟩
/-- a RULE that serves stands within the word -/
theorem sv_in {V : BV} (h : vOk V) {w a b : Int} {g : Bool} {i : Int} (hl : ∀ j, i ≤ j → j < b → isLt (vS V j)) (hs : ¬ sv V w a b g i = -1) : i + lnC (vC' V (sv V w a b g i).toNat) ≤ b := by
  rcases sv_cases V w a b g i h.2.2.1 with q | ⟨L, l2, l4, e, q⟩
  · exact absurd q hs
  · rcases rA_cases V w a b g i L h.2.2.1 with z | ⟨z1, z2, z3, z4, z5, z6, z7⟩
    · exact absurd z q
    · rw [e, z5, (cd_ln l2 l4 (fun j j0 j1 => smV_rng V g (hl j j0 (by omega))) z6).1]
      exact z3
theorem wF_fuel {V : BV} (h : vOk V) (w a b : Int) (g : Bool) : ∀ (f f2 : Nat) (i : Int), (b - i).toNat ≤ f → (b - i).toNat ≤ f2 → wF V w a b g f i = wF V w a b g f2 i
  | 0, 0, i, _, _ => rfl
  | 0, f2 + 1, i, h1, _ => by unfold wF; rw [if_pos (by omega)]
  | f + 1, 0, i, _, h2 => by unfold wF; rw [if_pos (by omega)]
  | f + 1, f2 + 1, i, h1, h2 => by
    unfold wF
    by_cases hb : b ≤ i
    · rw [if_pos hb, if_pos hb]
    · rw [if_neg hb, if_neg hb]
      by_cases hs : sv V w a b g i = -1
      · rw [if_pos hs, if_pos hs, wF_fuel h w a b g f f2 (i + 1) (by omega) (by omega)]
      · obtain ⟨q1, q2, q3, q4⟩ := h.sv_ln hs
        rw [if_neg hs, if_neg hs, wF_fuel h w a b g f f2 _ (by omega) (by omega)]
theorem wEv_end {V : BV} {w a b : Int} {g : Bool} {i : Int} (hb : b ≤ i) : wEv V w a b g i = [] := by
  unfold wEv
  rw [show (b - i).toNat = 0 by omega]
  rfl
theorem wEv_let {V : BV} (h : vOk V) {w a b : Int} {g : Bool} {i : Int} (hb : i < b) (hs : sv V w a b g i = -1) : wEv V w a b g i = leE V g i ++ wEv V w a b g (i + 1) := by
  unfold wEv
  rw [show (b - i).toNat = (b - (i + 1)).toNat + 1 by omega]
  conv => lhs; unfold wF
  rw [if_neg (by omega), if_pos hs]
theorem wEv_rule {V : BV} (h : vOk V) {w a b : Int} {g : Bool} {i : Int} (hb : i < b) (hs : ¬ sv V w a b g i = -1) : wEv V w a b g i = (vE V (sv V w a b g i).toNat, sv V w a b g i, i, 1) :: wEv V w a b g (i + lnC (vC' V (sv V w a b g i).toNat)) := by
  obtain ⟨q1, q2, q3, q4⟩ := h.sv_ln hs
  unfold wEv
  rw [show (b - i).toNat = (b - (i + 1)).toNat + 1 by omega]
  conv => lhs; unfold wF
  rw [if_neg (by omega), if_neg hs, wF_fuel h w a b g _ (b - (i + lnC (vC' V (sv V w a b g i).toNat))).toNat _ (by omega) (by omega)]
theorem vOk.nl {V : BV} (h : vOk V) : ¬ isLt (vS V (vN V)) := by rw [h.2.2.2.2.2.1 _ (Or.inr (Int.le_refl _))]; exact isLt_m1
theorem we_gt {V : BV} (h : vOk V) {i : Int} (h1 : i < vN V) (hl : isLt (vS V i)) : i < we (vN V) (vS V) i ∧ we (vN V) (vS V) i ≤ vN V := by
  obtain ⟨a, b, c, d⟩ := we_spec (Int.le_of_lt h1) h.nl
  refine ⟨?_, b⟩
  rcases Int.lt_or_eq_of_le a with q | q
  · exact q
  · rw [← q] at d; exact absurd hl d
theorem aF_fuel {V : BV} (h : vOk V) (w : Int) : ∀ (f f2 : Nat) (i : Int), (vN V - i).toNat ≤ f → (vN V - i).toNat ≤ f2 → aF V w f i = aF V w f2 i
  | 0, 0, i, _, _ => rfl
  | 0, f2 + 1, i, h1, _ => by unfold aF; rw [if_pos (by omega)]
  | f + 1, 0, i, _, h2 => by unfold aF; rw [if_pos (by omega)]
  | f + 1, f2 + 1, i, h1, h2 => by
    unfold aF
    by_cases hb : vN V ≤ i
    · rw [if_pos hb, if_pos hb]
    · rw [if_neg hb, if_neg hb]
      by_cases hs : isLt (vS V i)
      · have := we_gt h (by omega) hs
        rw [if_pos hs, if_pos hs, aF_fuel h w f f2 _ (by omega) (by omega)]
      · rw [if_neg hs, if_neg hs, aF_fuel h w f f2 _ (by omega) (by omega)]
theorem aEv_end {V : BV} {w i : Int} (hb : vN V ≤ i) : aEv V w i = [] := by
  unfold aEv
  rw [show (vN V - i).toNat = 0 by omega]
  rfl
theorem aEv_word {V : BV} (h : vOk V) {w i : Int} (hb : i < vN V) (hl : isLt (vS V i)) : aEv V w i = wdE V w i (we (vN V) (vS V) i) ++ aEv V w (we (vN V) (vS V) i) := by
  have := we_gt h hb hl
  unfold aEv
  rw [show (vN V - i).toNat = (vN V - (i + 1)).toNat + 1 by omega]
  conv => lhs; unfold aF
  rw [if_neg (by omega), if_pos hl, aF_fuel h w _ (vN V - we (vN V) (vS V) i).toNat _ (by omega) (by omega)]
theorem aEv_sign {V : BV} (_h : vOk V) {w i : Int} (hb : i < vN V) (hl : ¬ isLt (vS V i)) : aEv V w i = sgE V i ++ aEv V w (i + 1) := by
  unfold aEv
  rw [show (vN V - i).toNat = (vN V - (i + 1)).toNat + 1 by omega]
  conv => lhs; unfold aF
  rw [if_neg (by omega), if_neg hl]
/-! how many -/
theorem leE_len (V : BV) (g : Bool) (i : Int) : 1 ≤ (leE V g i).length ∧ (leE V g i).length ≤ 2 ∧ (¬ smV V g i = 0 → (leE V g i).length = 1) := by
  unfold leE; split <;> simp_all
theorem wEv_len {V : BV} (h : vOk V) (w a b : Int) (g : Bool) : ∀ (d : Nat) (i : Int), d = (b - i).toNat → ((wEv V w a b g i).length : Int) ≤ 2 * d ∧ ((g = true → ∀ j, i ≤ j → j < b → isLt (vS V j)) → g = true → ((wEv V w a b g i).length : Int) ≤ d) := by
  intro d
  induction d using Nat.strongRecOn with
  | ind d ih =>
    intro i hd
    by_cases hb : b ≤ i
    · rw [wEv_end hb]; simp; omega
    · by_cases hs : sv V w a b g i = -1
      · obtain ⟨h1, h2⟩ := ih (b - (i + 1)).toNat (by omega) (i + 1) rfl
        have hl := leE_len V g i
        rw [wEv_let h (by omega) hs, List.length_append]
        refine ⟨by omega, fun hw hg => ?_⟩
        have hlt := hw hg i (Int.le_refl _) (by omega)
        have hne : ¬ smV V g i = 0 := by
          have := ltN_rng hlt
          unfold smV; rw [if_pos (Or.inl hg)]; omega
        have := h2 (fun _ j a1 a2 => hw hg j (by omega) a2) hg
        have := hl.2.2 hne
        omega
      · obtain ⟨q1, q2, q3, q4⟩ := h.sv_ln hs
        obtain ⟨h1, h2⟩ := ih (b - (i + lnC (vC' V (sv V w a b g i).toNat))).toNat (by omega) _ rfl
        rw [wEv_rule h (by omega) hs, List.length_cons]
        refine ⟨by omega, fun hw hg => ?_⟩
        have := h2 (fun _ j a1 a2 => hw hg j (by omega) a2) hg
        omega
theorem wEv_len1 {V : BV} (h : vOk V) (w a b : Int) (g : Bool) {i : Int} (hb : i < b) (hsm : isSm (vS V i)) : ((wEv V w a b g i).length : Int) ≤ 2 * (b - i) - 1 := by
  by_cases hs : sv V w a b g i = -1
  · have h1 := (wEv_len h w a b g (b - (i + 1)).toNat (i + 1) rfl).1
    have hl := leE_len V g i
    have hne : ¬ smV V g i = 0 := by
      have := ltN_rng (Or.inl hsm : isLt (vS V i))
      unfold smV; rw [if_pos (Or.inr hsm)]; omega
    have := hl.2.2 hne
    rw [wEv_let h hb hs, List.length_append]
    omega
  · obtain ⟨q1, q2, q3, q4⟩ := h.sv_ln hs
    have h1 := (wEv_len h w a b g (b - (i + lnC (vC' V (sv V w a b g i).toNat))).toNat _ rfl).1
    rw [wEv_rule h hb hs, List.length_cons]
    omega
theorem alC_iff (V : BV) (a b : Int) : alC V a b = true ↔ 2 ≤ b - a ∧ ∀ j, a ≤ j → j < b → isCp (vS V j) := by
  unfold alC
  rw [Bool.and_eq_true, decide_eq_true_eq, acF_iff]
  constructor
  · rintro ⟨x, y⟩; exact ⟨x, fun j j0 j1 => y j j0 (by omega)⟩
  · rintro ⟨x, y⟩; exact ⟨x, fun j j0 j1 => y j j0 (by omega)⟩
theorem wdE_len {V : BV} (h : vOk V) (w : Int) {a b : Int} (hab : a < b) : ((wdE V w a b).length : Int) ≤ 2 * (b - a) := by
  unfold wdE hdE
  have hw := wEv_len h w a b (alC V a b) (b - a).toNat a rfl
  by_cases hg : alC V a b = true
  · have hc := (alC_iff V a b).mp hg
    have hca := hc.2 a (Int.le_refl _) hab
    have hnw : ¬ wnt V a := by simp only [wnt, isCp] at *; omega
    have := hw.2 (fun _ j j0 j1 => Or.inr (hc.2 j j0 j1)) hg
    rw [if_neg hnw, if_pos hg]
    simp only [List.length_append, List.length_nil, List.length_cons]
    omega
  · rw [if_neg hg]
    by_cases hn : wnt V a
    · have := wEv_len1 h w a b (alC V a b) hab (show isSm (vS V a) by simp only [wnt, isSm] at *; omega)
      rw [if_pos hn]
      simp only [List.length_append, List.length_nil, List.length_cons]
      omega
    · rw [if_neg hn]
      simp only [List.length_append, List.length_nil]
      omega
theorem sgE_len (V : BV) (i : Int) : (sgE V i).length ≤ 2 := by
  unfold sgE; split
  · split <;> simp
  · simp
theorem aEv_len {V : BV} (h : vOk V) (w : Int) : ∀ (d : Nat) (i : Int), d = (vN V - i).toNat → ((aEv V w i).length : Int) ≤ 2 * d := by
  intro d
  induction d using Nat.strongRecOn with
  | ind d ih =>
    intro i hd
    by_cases hb : vN V ≤ i
    · rw [aEv_end hb]; simp; omega
    · by_cases hl : isLt (vS V i)
      · have hg := we_gt h (by omega) hl
        have := ih (vN V - we (vN V) (vS V) i).toNat (by omega) _ rfl
        have := wdE_len h w hg.1
        rw [aEv_word h (by omega) hl, List.length_append]
        omega
      · have := ih (vN V - (i + 1)).toNat (by omega) _ rfl
        have := sgE_len V i
        rw [aEv_sign h (by omega) hl, List.length_append]
        omega
theorem aEv_240 {V : BV} (h : vOk V) (w : Int) {i : Int} (h0 : 0 ≤ i) : (aEv V w i).length ≤ 240 := by
  have := aEv_len h w (vN V - i).toNat i rfl
  have := h.1
  have := h.2.1
  omega
/-! which RULES serve -/
def cntE (D : List Ev) (k : Int) : Int := ((D.filter fun e => e.2.1 == k).length : Int)
def fstE (D : List Ev) (k : Int) : Int := match D.find? fun e => e.2.1 == k with
  | some e => e.2.2.1
  | none => -1
def wcE (D : List Ev) : Int := ((D.filter fun e => e.2.2.2 == 1).length : Int)
theorem cntE_app (A B : List Ev) (k : Int) : cntE (A ++ B) k = cntE A k + cntE B k := by simp [cntE, List.filter_append]
theorem wcE_app (A B : List Ev) : wcE (A ++ B) = wcE A + wcE B := by simp [wcE, List.filter_append]
theorem cntE_nn (A : List Ev) (k : Int) : 0 ≤ cntE A k := by unfold cntE; omega
theorem cntE_le (A : List Ev) (k : Int) : cntE A k ≤ A.length := by unfold cntE; have := List.length_filter_le (fun e : Ev => e.2.1 == k) A; omega
theorem cntE_1 (e : Ev) (k : Int) : cntE [e] k = if e.2.1 = k then 1 else 0 := by
  unfold cntE
  by_cases h : e.2.1 = k
  · simp [h]
  · simp [h]
theorem fstE_app (A B : List Ev) (k : Int) : fstE (A ++ B) k = if cntE A k = 0 then fstE B k else fstE A k := by
  unfold fstE cntE
  rw [List.find?_append]
  cases hf : A.find? (fun e => e.2.1 == k) with
  | none =>
    have : A.filter (fun e => e.2.1 == k) = [] := by
      rw [List.filter_eq_nil_iff]
      exact List.find?_eq_none.mp hf
    rw [this]; simp
  | some e =>
    have hm : e ∈ A.filter (fun e => e.2.1 == k) := by
      have h2 := List.find?_some hf
      exact List.mem_filter.mpr ⟨List.mem_of_find?_eq_some hf, h2⟩
    have hl : 0 < (A.filter (fun e => e.2.1 == k)).length := List.length_pos_of_mem hm
    rw [if_neg (by omega)]
    rfl
theorem fstE_1 (e : Ev) (k : Int) : fstE [e] k = if e.2.1 = k then e.2.2.1 else -1 := by
  unfold fstE
  by_cases h : e.2.1 = k
  · simp [h]
  · simp [h]
theorem cntE_none {A : List Ev} {k : Int} (h : ∀ e ∈ A, ¬ e.2.1 = k) : cntE A k = 0 := by
  unfold cntE
  have : A.filter (fun e => e.2.1 == k) = [] := by
    rw [List.filter_eq_nil_iff]
    intro e he; simpa using h e he
  rw [this]; rfl
theorem fstE_none {A : List Ev} {k : Int} (h : ∀ e ∈ A, ¬ e.2.1 = k) : fstE A k = -1 := by
  unfold fstE
  have : A.find? (fun e => e.2.1 == k) = none := by
    rw [List.find?_eq_none]
    intro e he; simpa using h e he
  rw [this]
