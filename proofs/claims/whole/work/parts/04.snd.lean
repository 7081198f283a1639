section SND2
variable {own : String} {cc : ByteArray} {nL fr lo : Nat} {ret : Option FieldType} {sx : Option (Nat × (Nat → Int))} {pcs : List Nat} {ip : Nat}
theorem in_div {x y : Int} (hx : InR x) (h0 : 0 ≤ x) (h1 : 0 < y) : InR (x / y) ∧ InR (x % y) := by
  have a := Int.ediv_nonneg h0 (Int.le_of_lt h1)
  have b := Int.ediv_le_self y h0
  have c := Int.emod_nonneg x (by omega : y ≠ 0)
  have d : x % y ≤ x := by
    have e := Int.mul_ediv_add_emod x y
    have f := Int.mul_nonneg (Int.le_of_lt h1) a
    omega
  exact ⟨⟨by omega, by have := hx.2; omega⟩, ⟨by omega, by have := hx.2; omega⟩⟩
theorem in_divL {x y : Int} (hx : InL x) (h0 : 0 ≤ x) (h1 : 0 < y) : InL (x % y) := by
  have a := Int.ediv_nonneg h0 (Int.le_of_lt h1)
  have c := Int.emod_nonneg x (by omega : y ≠ 0)
  have d : x % y ≤ x := by
    have e := Int.mul_ediv_add_emod x y
    have f := Int.mul_nonneg (Int.le_of_lt h1) a
    omega
  exact ⟨by omega, by have := hx.2; omega⟩
theorem i32_div {x y : Int} (hx : InR x) (hy : InR y) (h0 : 0 ≤ x) (h1 : 0 < y) : Int32.ofInt x / Int32.ofInt y = Int32.ofInt (x / y) := by
  rw [← Int32.toInt_inj, i32_of (in_div hx h0 h1).1, Int32.toInt_div_of_ne_right, i32_of hx, i32_of hy, Int.tdiv_eq_ediv_of_nonneg h0]
  intro q
  have := congrArg Int32.toInt q
  rw [i32_of hy] at this
  have e : (-1 : Int32).toInt = -1 := by decide
  omega
theorem i32_rem {x y : Int} (hx : InR x) (hy : InR y) (h0 : 0 ≤ x) (h1 : 0 < y) : Int32.ofInt x - Int32.ofInt x / Int32.ofInt y * Int32.ofInt y = Int32.ofInt (x % y) := by
  rw [i32_div hx hy h0 h1, ← Int32.ofInt_mul, ← Int32.ofInt_sub]
  congr 1
  have e := Int.mul_ediv_add_emod x y
  rw [Int.mul_comm] at e
  omega
theorem i64_rem {x y : Int} (hx : InL x) (hy : InL y) (h0 : 0 ≤ x) (h1 : 0 < y) : Int64.ofInt x - Int64.ofInt x / Int64.ofInt y * Int64.ofInt y = Int64.ofInt (x % y) := by
  have hd : InL (x / y) := by
    have a := Int.ediv_nonneg h0 (Int.le_of_lt h1)
    have b := Int.ediv_le_self y h0
    exact ⟨by omega, by have := hx.2; omega⟩
  have hdv : Int64.ofInt x / Int64.ofInt y = Int64.ofInt (x / y) := by
    rw [← Int64.toInt_inj, i64_of hd, Int64.toInt_div_of_ne_right, i64_of hx, i64_of hy, Int.tdiv_eq_ediv_of_nonneg h0]
    intro q
    have := congrArg Int64.toInt q
    rw [i64_of hy] at this
    have e : (-1 : Int64).toInt = -1 := by decide
    omega
  rw [hdv, ← Int64.ofInt_mul, ← Int64.ofInt_sub]
  congr 1
  have e := Int.mul_ediv_add_emod x y
  rw [Int.mul_comm] at e
  omega
theorem s_div (hd : decode cc (pcs.getD ip 0) = .ok (.idiv, 1)) (hn : pcs.getD (ip + 1) 0 = pcs.getD ip 0 + 1) : Snd own cc nL fr lo ret sx pcs ip I_div := by
  intro p l e R s m args below meth c Q nC nS g Ret hC hRm hSx hHR ls st M h H locs lsA hR hS hL hok
  obtain ⟨x, y, r, rfl, h0, h1, h⟩ := h
  have hy : InR y := ok_h hok
  have hx : InR x := ok_h (ok_t hok)
  have h' := h H locs lsA hR hS hL (ok_c (in_div hx h0 h1).1 (ok_t (ok_t hok)))
  rw [hn] at h'
  refine lv_idiv hC.1 hC.2.1 hd (fun q => ?_) ?_
  · rw [i32_eq0 hy] at q; omega
  · rw [i32_div hx hy h0 h1]; exact h'
theorem s_rem (hd : decode cc (pcs.getD ip 0) = .ok (.irem, 1)) (hn : pcs.getD (ip + 1) 0 = pcs.getD ip 0 + 1) : Snd own cc nL fr lo ret sx pcs ip I_rem := by
  intro p l e R s m args below meth c Q nC nS g Ret hC hRm hSx hHR ls st M h H locs lsA hR hS hL hok
  obtain ⟨x, y, r, rfl, h0, h1, h⟩ := h
  have hy : InR y := ok_h hok
  have hx : InR x := ok_h (ok_t hok)
  have h' := h H locs lsA hR hS hL (ok_c (in_div hx h0 h1).2 (ok_t (ok_t hok)))
  rw [hn] at h'
  refine lv_irem hC.1 hC.2.1 hd (fun q => ?_) ?_
  · rw [i32_eq0 hy] at q; omega
  · rw [i32_rem hx hy h0 h1]; exact h'
theorem s_lmul (hd : decode cc (pcs.getD ip 0) = .ok (.lmul, 1)) (hn : pcs.getD (ip + 1) 0 = pcs.getD ip 0 + 1) : Snd own cc nL fr lo ret sx pcs ip I_lmul := by
  intro p l e R s m args below meth c Q nC nS g Ret hC hRm hSx hHR ls st M h H locs lsA hR hS hL hok
  obtain ⟨x, y, r, rfl, h1, h⟩ := h
  have h' := h H locs lsA hR hS hL (ok_c h1 (ok_t (ok_t hok)))
  rw [hn] at h'
  refine lv_lmul hC.1 hC.2.1 hd ?_
  rw [← Int64.ofInt_mul]
  exact h'
theorem s_lrem (hd : decode cc (pcs.getD ip 0) = .ok (.lrem, 1)) (hn : pcs.getD (ip + 1) 0 = pcs.getD ip 0 + 1) : Snd own cc nL fr lo ret sx pcs ip I_lrem := by
  intro p l e R s m args below meth c Q nC nS g Ret hC hRm hSx hHR ls st M h H locs lsA hR hS hL hok
  obtain ⟨x, y, r, rfl, h0, h1, h⟩ := h
  have hy : InL y := ok_h hok
  have hx : InL x := ok_h (ok_t hok)
  have h' := h H locs lsA hR hS hL (ok_c (in_divL hx h0 h1) (ok_t (ok_t hok)))
  rw [hn] at h'
  refine lv_lrem hC.1 hC.2.1 hd (fun q => ?_) ?_
  · have : Int64.ofInt y = Int64.ofInt 0 := q
    rw [i64_eq hy ⟨by omega, by omega⟩] at this; omega
  · rw [i64_rem hx hy h0 h1]; exact h'
theorem s_i2l (hd : decode cc (pcs.getD ip 0) = .ok (.i2l, 1)) (hn : pcs.getD (ip + 1) 0 = pcs.getD ip 0 + 1) : Snd own cc nL fr lo ret sx pcs ip I_i2l := by
  intro p l e R s m args below meth c Q nC nS g Ret hC hRm hSx hHR ls st M h H locs lsA hR hS hL hok
  obtain ⟨x, r, rfl, h⟩ := h
  have hx : InR x := ok_h hok
  have h' := h H locs lsA hR hS hL (ok_c (show InL x from ⟨by have := hx.1; omega, by have := hx.2; omega⟩) (ok_t hok))
  rw [hn] at h'
  refine lv_i2l hC.1 hC.2.1 hd ?_ h'
  rw [← Int64.toInt_inj, Int32.toInt_toInt64, i32_of hx, i64_of ⟨by have := hx.1; omega, by have := hx.2; omega⟩]
theorem s_l2i (hd : decode cc (pcs.getD ip 0) = .ok (.l2i, 1)) (hn : pcs.getD (ip + 1) 0 = pcs.getD ip 0 + 1) : Snd own cc nL fr lo ret sx pcs ip I_l2i := by
  intro p l e R s m args below meth c Q nC nS g Ret hC hRm hSx hHR ls st M h H locs lsA hR hS hL hok
  obtain ⟨x, r, rfl, h1, h⟩ := h
  have h' := h H locs lsA hR hS hL (ok_c h1 (ok_t hok))
  rw [hn] at h'
  exact lv_l2i hC.1 hC.2.1 hd (by simp) h'
theorem s_lcmp (hd : decode cc (pcs.getD ip 0) = .ok (.lcmp, 1)) (hn : pcs.getD (ip + 1) 0 = pcs.getD ip 0 + 1) : Snd own cc nL fr lo ret sx pcs ip I_lcmp := by
  intro p l e R s m args below meth c Q nC nS g Ret hC hRm hSx hHR ls st M h H locs lsA hR hS hL hok
  obtain ⟨x, y, r, rfl, h⟩ := h
  have hy : InL y := ok_h hok
  have hx : InL x := ok_h (ok_t hok)
  have hc : InR (cmp3 x y) := by
    unfold cmp3; split
    · exact ⟨by omega, by omega⟩
    · split
      · exact ⟨by omega, by omega⟩
      · exact ⟨by omega, by omega⟩
  have h' := h H locs lsA hR hS hL (ok_c hc (ok_t (ok_t hok)))
  rw [hn] at h'
  refine W.lcmp hC.1 hC.2.1 hd ?_
  have e : lg_cmp (Int64.ofInt x) (Int64.ofInt y) = Int32.ofInt (cmp3 x y) := by
    unfold lg_cmp cmp3
    by_cases a : y < x
    · rw [if_pos a, if_pos ((i64_lt hy hx).mpr a)]; rfl
    · rw [if_neg a, if_neg (fun q => a ((i64_lt hy hx).mp q))]
      by_cases b : x = y
      · rw [if_pos b, if_pos ((i64_eq hx hy).mpr b)]; rfl
      · rw [if_neg b, if_neg (fun q => b ((i64_eq hx hy).mp q))]; rfl
  rw [e]
  exact h'
theorem i32_and31 {x : Int} (hx : InR x) : Int32.ofInt x &&& Int32.ofInt 31 = Int32.ofInt (x % 32) := by
  have e := pk_and (Int32.ofInt x) (m := Int32.ofInt 31) 5 (by decide)
  rw [e]
  have h2 : (Int32.ofInt x).toBitVec.toNat = (x % 4294967296).toNat := by
    show (BitVec.ofInt 32 x).toNat = _
    rw [BitVec.toNat_ofInt]; rfl
  have h3 : (Int32.ofInt x).toBitVec.toNat % 2 ^ 5 = (x % 32).toNat := by
    rw [h2]
    have : (2 : Nat) ^ 5 = 32 := rfl
    omega
  rw [h3, ← Int32.toInt_inj, i32_of ⟨by omega, by omega⟩, nI_toInt (by omega)]
  omega
theorem s_and31 (hd : decode cc (pcs.getD ip 0) = .ok (.iand, 1)) (hn : pcs.getD (ip + 1) 0 = pcs.getD ip 0 + 1) : Snd own cc nL fr lo ret sx pcs ip I_and31 := by
  intro p l e R s m args below meth c Q nC nS g Ret hC hRm hSx hHR ls st M h H locs lsA hR hS hL hok
  obtain ⟨x, r, rfl, h⟩ := h
  have hx : InR x := ok_h (ok_t hok)
  have h' := h H locs lsA hR hS hL (ok_c (show InR (x % 32) from ⟨by omega, by omega⟩) (ok_t (ok_t hok)))
  rw [hn] at h'
  refine lv_iand hC.1 hC.2.1 hd ?_
  rw [i32_and31 hx]
  exact h'
theorem s_dup (hd : decode cc (pcs.getD ip 0) = .ok (.dup, 1)) (hn : pcs.getD (ip + 1) 0 = pcs.getD ip 0 + 1) : Snd own cc nL fr lo ret sx pcs ip I_dup := by
  intro p l e R s m args below meth c Q nC nS g Ret hC hRm hSx hHR ls st M h H locs lsA hR hS hL hok
  obtain ⟨v, r, rfl, h1, h⟩ := h
  have h' := h H locs lsA hR hS hL (ok_c (ok_h hok) hok)
  rw [hn] at h'
  exact lv_dup hC.1 hC.2.1 hd (by rw [cat_toV]; exact h1) h'
theorem s_dup2 (hd : decode cc (pcs.getD ip 0) = .ok (.dup2, 1)) (hn : pcs.getD (ip + 1) 0 = pcs.getD ip 0 + 1) : Snd own cc nL fr lo ret sx pcs ip I_dup2 := by
  intro p l e R s m args below meth c Q nC nS g Ret hC hRm hSx hHR ls st M h H locs lsA hR hS hL hok
  obtain ⟨v, w, r, rfl, h1, h2, h⟩ := h
  have h' := h H locs lsA hR hS hL (ok_c (ok_h hok) (ok_c (ok_h (ok_t hok)) hok))
  rw [hn] at h'
  exact lv_dup2_11 hC.1 hC.2.1 hd (by rw [cat_toV]; exact h1) (by rw [cat_toV]; exact h2) h'
theorem s_pop (hd : decode cc (pcs.getD ip 0) = .ok (.pop, 1)) (hn : pcs.getD (ip + 1) 0 = pcs.getD ip 0 + 1) : Snd own cc nL fr lo ret sx pcs ip I_pop := by
  intro p l e R s m args below meth c Q nC nS g Ret hC hRm hSx hHR ls st M h H locs lsA hR hS hL hok
  obtain ⟨v, r, rfl, h1, h⟩ := h
  have h' := h H locs lsA hR hS hL (ok_t hok)
  rw [hn] at h'
  exact lv_pop hC.1 hC.2.1 hd (by rw [cat_toV]; exact h1) h'
theorem s_goto {t : Nat} {off : Int} (hd : decode cc (pcs.getD ip 0) = .ok (.goto off, 3)) (ht : (pcs.getD ip 0 : Int) + off = (pcs.getD t 0 : Int)) : Snd own cc nL fr lo ret sx pcs ip (I_goto t) := by
  intro p l e R s m args below meth c Q nC nS g Ret hC hRm hSx hHR ls st M h H locs lsA hR hS hL hok
  exact lv_goto hC.1 hC.2.1 hd ht (h H locs lsA hR hS hL hok)
theorem s_ifeq {t : Nat} {off : Int} (hd : decode cc (pcs.getD ip 0) = .ok (.ifCond .eq off, 3)) (hn : pcs.getD (ip + 1) 0 = pcs.getD ip 0 + 3) (ht : (pcs.getD ip 0 : Int) + off = (pcs.getD t 0 : Int)) : Snd own cc nL fr lo ret sx pcs ip (I_ifeq t) := by
  intro p l e R s m args below meth c Q nC nS g Ret hC hRm hSx hHR ls st M h H locs lsA hR hS hL hok
  obtain ⟨x, r, rfl, kt, kf⟩ := h
  have hx : InR x := ok_h hok
  have ht' := fun q => kt q H locs lsA hR hS hL (ok_t hok)
  have hf' := fun q => kf q H locs lsA hR hS hL (ok_t hok)
  rw [hn] at hf'
  exact lv_if_eq hC.1 hC.2.1 hd ht (fun q => ht' ((i32_eq0 hx).mp q)) (fun q => hf' (fun z => q ((i32_eq0 hx).mpr z)))
theorem s_ifne {t : Nat} {off : Int} (hd : decode cc (pcs.getD ip 0) = .ok (.ifCond .ne off, 3)) (hn : pcs.getD (ip + 1) 0 = pcs.getD ip 0 + 3) (ht : (pcs.getD ip 0 : Int) + off = (pcs.getD t 0 : Int)) : Snd own cc nL fr lo ret sx pcs ip (I_ifne t) := by
  intro p l e R s m args below meth c Q nC nS g Ret hC hRm hSx hHR ls st M h H locs lsA hR hS hL hok
  obtain ⟨x, r, rfl, kt, kf⟩ := h
  have hx : InR x := ok_h hok
  have ht' := fun q => kt q H locs lsA hR hS hL (ok_t hok)
  have hf' := fun q => kf q H locs lsA hR hS hL (ok_t hok)
  rw [hn] at hf'
  exact lv_if_ne hC.1 hC.2.1 hd ht (fun q => ht' (fun z => q ((i32_eq0 hx).mpr z))) (fun q => hf' ((i32_eq0 hx).mp q))
theorem s_iflt {t : Nat} {off : Int} (hd : decode cc (pcs.getD ip 0) = .ok (.ifCond .lt off, 3)) (hn : pcs.getD (ip + 1) 0 = pcs.getD ip 0 + 3) (ht : (pcs.getD ip 0 : Int) + off = (pcs.getD t 0 : Int)) : Snd own cc nL fr lo ret sx pcs ip (I_iflt t) := by
  intro p l e R s m args below meth c Q nC nS g Ret hC hRm hSx hHR ls st M h H locs lsA hR hS hL hok
  obtain ⟨x, r, rfl, kt, kf⟩ := h
  have hx : InR x := ok_h hok
  have ht' := fun q => kt q H locs lsA hR hS hL (ok_t hok)
  have hf' := fun q => kf q H locs lsA hR hS hL (ok_t hok)
  rw [hn] at hf'
  exact lv_if_lt hC.1 hC.2.1 hd ht (fun q => ht' ((i32_lt0 hx).mp q)) (fun q => hf' (Int.not_lt.mp fun z => q ((i32_lt0 hx).mpr z)))
theorem s_ifge {t : Nat} {off : Int} (hd : decode cc (pcs.getD ip 0) = .ok (.ifCond .ge off, 3)) (hn : pcs.getD (ip + 1) 0 = pcs.getD ip 0 + 3) (ht : (pcs.getD ip 0 : Int) + off = (pcs.getD t 0 : Int)) : Snd own cc nL fr lo ret sx pcs ip (I_ifge t) := by
  intro p l e R s m args below meth c Q nC nS g Ret hC hRm hSx hHR ls st M h H locs lsA hR hS hL hok
  obtain ⟨x, r, rfl, kt, kf⟩ := h
  have hx : InR x := ok_h hok
  have ht' := fun q => kt q H locs lsA hR hS hL (ok_t hok)
  have hf' := fun q => kf q H locs lsA hR hS hL (ok_t hok)
  rw [hn] at hf'
  exact lv_if_ge hC.1 hC.2.1 hd ht (fun q => ht' ((i32_ge0 hx).mp q)) (fun q => hf' (Int.not_le.mp fun z => q ((i32_ge0 hx).mpr z)))
theorem s_ifle {t : Nat} {off : Int} (hd : decode cc (pcs.getD ip 0) = .ok (.ifCond .le off, 3)) (hn : pcs.getD (ip + 1) 0 = pcs.getD ip 0 + 3) (ht : (pcs.getD ip 0 : Int) + off = (pcs.getD t 0 : Int)) : Snd own cc nL fr lo ret sx pcs ip (I_ifle t) := by
  intro p l e R s m args below meth c Q nC nS g Ret hC hRm hSx hHR ls st M h H locs lsA hR hS hL hok
  obtain ⟨x, r, rfl, kt, kf⟩ := h
  have hx : InR x := ok_h hok
  have ht' := fun q => kt q H locs lsA hR hS hL (ok_t hok)
  have hf' := fun q => kf q H locs lsA hR hS hL (ok_t hok)
  rw [hn] at hf'
  exact lv_if_le hC.1 hC.2.1 hd ht (fun q => ht' ((i32_le0 hx).mp q)) (fun q => hf' (Int.not_le.mp fun z => q ((i32_le0 hx).mpr z)))
theorem s_ifgt {t : Nat} {off : Int} (hd : decode cc (pcs.getD ip 0) = .ok (.ifCond .gt off, 3)) (hn : pcs.getD (ip + 1) 0 = pcs.getD ip 0 + 3) (ht : (pcs.getD ip 0 : Int) + off = (pcs.getD t 0 : Int)) : Snd own cc nL fr lo ret sx pcs ip (I_ifgt t) := by
  intro p l e R s m args below meth c Q nC nS g Ret hC hRm hSx hHR ls st M h H locs lsA hR hS hL hok
  obtain ⟨x, r, rfl, kt, kf⟩ := h
  have hx : InR x := ok_h hok
  have ht' := fun q => kt q H locs lsA hR hS hL (ok_t hok)
  have hf' := fun q => kf q H locs lsA hR hS hL (ok_t hok)
  rw [hn] at hf'
  exact lv_if_gt hC.1 hC.2.1 hd ht (fun q => ht' ((i32_gt0 hx).mp q)) (fun q => hf' (Int.not_lt.mp fun z => q ((i32_gt0 hx).mpr z)))
theorem s_ceq {t : Nat} {off : Int} (hd : decode cc (pcs.getD ip 0) = .ok (.if_icmp .eq off, 3)) (hn : pcs.getD (ip + 1) 0 = pcs.getD ip 0 + 3) (ht : (pcs.getD ip 0 : Int) + off = (pcs.getD t 0 : Int)) : Snd own cc nL fr lo ret sx pcs ip (I_ceq t) := by
  intro p l e R s m args below meth c Q nC nS g Ret hC hRm hSx hHR ls st M h H locs lsA hR hS hL hok
  obtain ⟨x, y, r, rfl, kt, kf⟩ := h
  have hy : InR y := ok_h hok
  have hx : InR x := ok_h (ok_t hok)
  have ht' := fun q => kt q H locs lsA hR hS hL (ok_t (ok_t hok))
  have hf' := fun q => kf q H locs lsA hR hS hL (ok_t (ok_t hok))
  rw [hn] at hf'
  exact lv_icmp_eq hC.1 hC.2.1 hd ht (fun q => ht' ((i32_eq hx hy).mp q)) (fun q => hf' (fun z => q ((i32_eq hx hy).mpr z)))
theorem s_cne {t : Nat} {off : Int} (hd : decode cc (pcs.getD ip 0) = .ok (.if_icmp .ne off, 3)) (hn : pcs.getD (ip + 1) 0 = pcs.getD ip 0 + 3) (ht : (pcs.getD ip 0 : Int) + off = (pcs.getD t 0 : Int)) : Snd own cc nL fr lo ret sx pcs ip (I_cne t) := by
  intro p l e R s m args below meth c Q nC nS g Ret hC hRm hSx hHR ls st M h H locs lsA hR hS hL hok
  obtain ⟨x, y, r, rfl, kt, kf⟩ := h
  have hy : InR y := ok_h hok
  have hx : InR x := ok_h (ok_t hok)
  have ht' := fun q => kt q H locs lsA hR hS hL (ok_t (ok_t hok))
  have hf' := fun q => kf q H locs lsA hR hS hL (ok_t (ok_t hok))
  rw [hn] at hf'
  exact lv_icmp_ne hC.1 hC.2.1 hd ht (fun q => ht' (fun z => q ((i32_eq hx hy).mpr z))) (fun q => hf' ((i32_eq hx hy).mp q))
theorem s_clt {t : Nat} {off : Int} (hd : decode cc (pcs.getD ip 0) = .ok (.if_icmp .lt off, 3)) (hn : pcs.getD (ip + 1) 0 = pcs.getD ip 0 + 3) (ht : (pcs.getD ip 0 : Int) + off = (pcs.getD t 0 : Int)) : Snd own cc nL fr lo ret sx pcs ip (I_clt t) := by
  intro p l e R s m args below meth c Q nC nS g Ret hC hRm hSx hHR ls st M h H locs lsA hR hS hL hok
  obtain ⟨x, y, r, rfl, kt, kf⟩ := h
  have hy : InR y := ok_h hok
  have hx : InR x := ok_h (ok_t hok)
  have ht' := fun q => kt q H locs lsA hR hS hL (ok_t (ok_t hok))
  have hf' := fun q => kf q H locs lsA hR hS hL (ok_t (ok_t hok))
  rw [hn] at hf'
  exact lv_icmp_lt hC.1 hC.2.1 hd ht (fun q => ht' ((i32_lt hx hy).mp q)) (fun q => hf' (Int.not_lt.mp fun z => q ((i32_lt hx hy).mpr z)))
theorem s_cge {t : Nat} {off : Int} (hd : decode cc (pcs.getD ip 0) = .ok (.if_icmp .ge off, 3)) (hn : pcs.getD (ip + 1) 0 = pcs.getD ip 0 + 3) (ht : (pcs.getD ip 0 : Int) + off = (pcs.getD t 0 : Int)) : Snd own cc nL fr lo ret sx pcs ip (I_cge t) := by
  intro p l e R s m args below meth c Q nC nS g Ret hC hRm hSx hHR ls st M h H locs lsA hR hS hL hok
  obtain ⟨x, y, r, rfl, kt, kf⟩ := h
  have hy : InR y := ok_h hok
  have hx : InR x := ok_h (ok_t hok)
  have ht' := fun q => kt q H locs lsA hR hS hL (ok_t (ok_t hok))
  have hf' := fun q => kf q H locs lsA hR hS hL (ok_t (ok_t hok))
  rw [hn] at hf'
  exact lv_icmp_ge hC.1 hC.2.1 hd ht (fun q => ht' ((i32_le hy hx).mp q)) (fun q => hf' (Int.not_le.mp fun z => q ((i32_le hy hx).mpr z)))
theorem s_cle {t : Nat} {off : Int} (hd : decode cc (pcs.getD ip 0) = .ok (.if_icmp .le off, 3)) (hn : pcs.getD (ip + 1) 0 = pcs.getD ip 0 + 3) (ht : (pcs.getD ip 0 : Int) + off = (pcs.getD t 0 : Int)) : Snd own cc nL fr lo ret sx pcs ip (I_cle t) := by
  intro p l e R s m args below meth c Q nC nS g Ret hC hRm hSx hHR ls st M h H locs lsA hR hS hL hok
  obtain ⟨x, y, r, rfl, kt, kf⟩ := h
  have hy : InR y := ok_h hok
  have hx : InR x := ok_h (ok_t hok)
  have ht' := fun q => kt q H locs lsA hR hS hL (ok_t (ok_t hok))
  have hf' := fun q => kf q H locs lsA hR hS hL (ok_t (ok_t hok))
  rw [hn] at hf'
  exact lv_icmp_le hC.1 hC.2.1 hd ht (fun q => ht' ((i32_le hx hy).mp q)) (fun q => hf' (Int.not_le.mp fun z => q ((i32_le hx hy).mpr z)))
theorem s_cgt {t : Nat} {off : Int} (hd : decode cc (pcs.getD ip 0) = .ok (.if_icmp .gt off, 3)) (hn : pcs.getD (ip + 1) 0 = pcs.getD ip 0 + 3) (ht : (pcs.getD ip 0 : Int) + off = (pcs.getD t 0 : Int)) : Snd own cc nL fr lo ret sx pcs ip (I_cgt t) := by
  intro p l e R s m args below meth c Q nC nS g Ret hC hRm hSx hHR ls st M h H locs lsA hR hS hL hok
  obtain ⟨x, y, r, rfl, kt, kf⟩ := h
  have hy : InR y := ok_h hok
  have hx : InR x := ok_h (ok_t hok)
  have ht' := fun q => kt q H locs lsA hR hS hL (ok_t (ok_t hok))
  have hf' := fun q => kf q H locs lsA hR hS hL (ok_t (ok_t hok))
  rw [hn] at hf'
  exact lv_icmp_gt hC.1 hC.2.1 hd ht (fun q => ht' ((i32_lt hy hx).mp q)) (fun q => hf' (Int.not_lt.mp fun z => q ((i32_lt hy hx).mpr z)))
theorem s_tsw {lo0 dfl hi0 : Int} {offs : Array Int} {len : Nat} {ts : List Nat} {d : Nat} (hd : decode cc (pcs.getD ip 0) = .ok (.tableswitch dfl lo0 hi0 offs, len)) (hh : hi0 = lo0 + ts.length - 1) (hts : offs.toList.map (fun off => (pcs.getD ip 0 : Int) + off) = ts.map (fun t => (pcs.getD t 0 : Int))) (ht : (pcs.getD ip 0 : Int) + dfl = (pcs.getD d 0 : Int)) : Snd own cc nL fr lo ret sx pcs ip (I_tsw lo0 ts d) := by
  intro p l e R s m args below meth c Q nC nS g Ret hC hRm hSx hHR ls st M h H locs lsA hR hS hL hok
  obtain ⟨x, r, rfl, kt, kf⟩ := h
  have hx : InR x := ok_h hok
  by_cases hb : x < lo0 ∨ lo0 + ts.length ≤ x
  · refine lv_tableOut hC.1 hC.2.1 hd ?_ ht (kf hb H locs lsA hR hS hL (ok_t hok))
    rw [i32_of hx]; omega
  · have hj : (x - lo0).toNat < ts.length := by omega
    have hlen : offs.toList.length = ts.length := by
      have := congrArg List.length hts
      simpa using this
    have e1 : ts[(x - lo0).toNat]? = some (ts[(x - lo0).toNat]) := List.getElem?_eq_getElem hj
    have e2 : offs.toList[(x - lo0).toNat]? = some (offs.toList[(x - lo0).toNat]'(by omega)) := List.getElem?_eq_getElem _
    have e3 := congrArg (fun l => l[(x - lo0).toNat]?) hts
    simp only [List.getElem?_map, e1, e2, Option.map_some, Option.some.injEq] at e3
    refine lv_tableIn hC.1 hC.2.1 hd (by rw [i32_of hx]; omega) (by rw [i32_of hx]; omega) (off := offs.toList[(x - lo0).toNat]'(by omega)) ?_ e3 (kt _ _ e1 (by omega) H locs lsA hR hS hL (ok_t hok))
    rw [i32_of hx, ← Array.getElem?_toList]
    exact e2
end SND2
