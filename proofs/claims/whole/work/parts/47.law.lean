/-! THE LAW -/
def I_non : Sem := fun _ _ _ _ _ _ => False
theorem s_non {own : String} {cc : ByteArray} {nL fr lo : Nat} {ret : Option FieldType} {sx : Option (Nat × (Nat → Int))} {pcs : List Nat} {ip : Nat} : Snd own cc nL fr lo ret sx pcs ip I_non := by
  intro p l e R s m args below meth c Q nC nS g Ret hC hRm hSx hHR ls st M h
  exact absurd h id
theorem XR.lo {s : St} {M M2 : Mem} (h : XR s M) (e : ∀ k, k < 73 → M2 k = M k) : XR s M2 := h.same (fun k hk => e k (by omega))
theorem YR.hi {s : St} {M M2 : Mem} (h : YR s M) (e : ∀ k, 73 ≤ k → M2 k = M k) : YR s M2 := h.same (fun k hk => e k (by omega)) (by rw [e 73 (by omega)]) (by rw [e 73 (by omega)])
def cd_law (L : Nat) (xs : Nat → Int) : List Sem := [I_non, I_dup, I_non, I_non, I_non, I_dup, I_non, I_non, I_const (0), I_istore 3, I_iload 3, I_aload 0, I_slen L, I_const (4), I_sub, I_cgt 364, I_aload 0, I_iload 3, I_siald L xs, I_const (31), I_and31, I_tsw (0) [22, 59, 76, 103, 130, 147, 154, 161, 178, 195, 222, 249, 266, 283, 290, 297, 304, 321, 328, 345] 362, I_aload 1, I_aload 0, I_iload 3, I_const (1), I_add, I_siald L xs, I_aload 0, I_iload 3, I_const (2), I_add, I_siald L xs, I_aload 0, I_iload 3, I_const (3), I_add, I_siald L xs, I_callV 6 3 sp_X6_rule, I_aload 2, I_aload 0, I_iload 3, I_const (1), I_add, I_siald L xs, I_aload 0, I_iload 3, I_const (2), I_add, I_siald L xs, I_aload 0, I_iload 3, I_const (3), I_add, I_siald L xs, I_callV 7 3 sp_X7_rule, I_ceq 362, I_const (0), I_zret, I_aload 1, I_aload 0, I_iload 3, I_const (1), I_add, I_siald L xs, I_callV 6 1 sp_X6_drop, I_aload 2, I_aload 0, I_iload 3, I_const (1), I_add, I_siald L xs, I_callV 7 1 sp_X7_drop, I_ceq 362, I_const (0), I_zret, I_aload 1, I_aload 0, I_iload 3, I_const (1), I_add, I_siald L xs, I_aload 0, I_iload 3, I_const (2), I_add, I_siald L xs, I_callV 6 2 sp_X6_set, I_aload 2, I_aload 0, I_iload 3, I_const (1), I_add, I_siald L xs, I_aload 0, I_iload 3, I_const (2), I_add, I_siald L xs, I_callV 7 2 sp_X7_set, I_ceq 362, I_const (0), I_zret, I_aload 1, I_aload 0, I_iload 3, I_const (1), I_add, I_siald L xs, I_aload 0, I_iload 3, I_const (2), I_add, I_siald L xs, I_callV 6 2 sp_X6_drift, I_aload 2, I_aload 0, I_iload 3, I_const (1), I_add, I_siald L xs, I_aload 0, I_iload 3, I_const (2), I_add, I_siald L xs, I_callV 7 2 sp_X7_drift, I_ceq 362, I_const (0), I_zret, I_aload 1, I_aload 0, I_iload 3, I_const (1), I_add, I_siald L xs, I_callV 6 1 sp_X6_text, I_aload 2, I_aload 0, I_iload 3, I_const (1), I_add, I_siald L xs, I_callV 7 1 sp_X7_text, I_ceq 362, I_const (0), I_zret, I_aload 1, I_callV 6 0 sp_X6_wipe, I_aload 2, I_callV 7 0 sp_X7_wipe, I_ceq 362, I_const (0), I_zret, I_aload 1, I_callV 6 0 sp_X6_undo, I_aload 2, I_callV 7 0 sp_X7_undo, I_ceq 362, I_const (0), I_zret, I_aload 1, I_aload 0, I_iload 3, I_const (1), I_add, I_siald L xs, I_callV 6 1 sp_X6_told, I_aload 2, I_aload 0, I_iload 3, I_const (1), I_add, I_siald L xs, I_callV 7 1 sp_X7_told, I_ceq 362, I_const (0), I_zret, I_aload 1, I_aload 0, I_iload 3, I_const (1), I_add, I_siald L xs, I_callV 6 1 sp_X6_cell, I_aload 2, I_aload 0, I_iload 3, I_const (1), I_add, I_siald L xs, I_callV 7 1 sp_X7_cell, I_ceq 362, I_const (0), I_zret, I_aload 1, I_aload 0, I_iload 3, I_const (1), I_add, I_siald L xs, I_aload 0, I_iload 3, I_const (2), I_add, I_siald L xs, I_callV 6 2 sp_X6_line, I_aload 2, I_aload 0, I_iload 3, I_const (1), I_add, I_siald L xs, I_aload 0, I_iload 3, I_const (2), I_add, I_siald L xs, I_callV 7 2 sp_X7_line, I_ceq 362, I_const (0), I_zret, I_aload 1, I_aload 0, I_iload 3, I_const (1), I_add, I_siald L xs, I_aload 0, I_iload 3, I_const (2), I_add, I_siald L xs, I_callV 6 2 sp_X6_ofRule, I_aload 2, I_aload 0, I_iload 3, I_const (1), I_add, I_siald L xs, I_aload 0, I_iload 3, I_const (2), I_add, I_siald L xs, I_callV 7 2 sp_X7_ofRule, I_ceq 362, I_const (0), I_zret, I_aload 1, I_aload 0, I_iload 3, I_const (1), I_add, I_siald L xs, I_callV 6 1 sp_X6_by, I_aload 2, I_aload 0, I_iload 3, I_const (1), I_add, I_siald L xs, I_callV 7 1 sp_X7_by, I_ceq 362, I_const (0), I_zret, I_aload 1, I_aload 0, I_iload 3, I_const (1), I_add, I_siald L xs, I_callV 6 1 sp_X6_feel, I_aload 2, I_aload 0, I_iload 3, I_const (1), I_add, I_siald L xs, I_callV 7 1 sp_X7_feel, I_ceq 362, I_const (0), I_zret, I_aload 1, I_callV 6 0 sp_X6_feelAll, I_aload 2, I_callV 7 0 sp_X7_feelAll, I_ceq 362, I_const (0), I_zret, I_aload 1, I_callV 6 0 sp_X6_read, I_aload 2, I_callV 7 0 sp_X7_read, I_ceq 362, I_const (0), I_zret, I_aload 1, I_callV 6 0 sp_X6_fault, I_aload 2, I_callV 7 0 sp_X7_fault, I_ceq 362, I_const (0), I_zret, I_aload 1, I_aload 0, I_iload 3, I_const (1), I_add, I_siald L xs, I_callV 6 1 sp_X6_sign, I_aload 2, I_aload 0, I_iload 3, I_const (1), I_add, I_siald L xs, I_callV 7 1 sp_X7_sign, I_ceq 362, I_const (0), I_zret, I_aload 1, I_callV 6 0 sp_X6_rest, I_aload 2, I_callV 7 0 sp_X7_rest, I_ceq 362, I_const (0), I_zret, I_aload 1, I_aload 0, I_iload 3, I_const (1), I_add, I_siald L xs, I_callV 6 1 sp_X6_keep, I_aload 2, I_aload 0, I_iload 3, I_const (1), I_add, I_siald L xs, I_callV 7 1 sp_X7_keep, I_ceq 362, I_const (0), I_zret, I_aload 1, I_aload 0, I_iload 3, I_const (1), I_add, I_siald L xs, I_callV 6 1 sp_X6_goBack, I_aload 2, I_aload 0, I_iload 3, I_const (1), I_add, I_siald L xs, I_callV 7 1 sp_X7_goBack, I_ceq 362, I_const (0), I_zret, I_iinc 3 (4), I_goto 10, I_const (1), I_zret]
def pc_law : List Nat := [0, 3, 4, 7, 8, 11, 12, 15, 16, 17, 18, 19, 20, 21, 22, 23, 26, 27, 28, 29, 31, 32, 128, 129, 130, 131, 132, 133, 134, 135, 136, 137, 138, 139, 140, 141, 142, 143, 144, 147, 148, 149, 150, 151, 152, 153, 154, 155, 156, 157, 158, 159, 160, 161, 162, 163, 166, 169, 170, 171, 172, 173, 174, 175, 176, 177, 180, 181, 182, 183, 184, 185, 186, 189, 192, 193, 194, 195, 196, 197, 198, 199, 200, 201, 202, 203, 204, 205, 208, 209, 210, 211, 212, 213, 214, 215, 216, 217, 218, 219, 222, 225, 226, 227, 228, 229, 230, 231, 232, 233, 234, 235, 236, 237, 238, 241, 242, 243, 244, 245, 246, 247, 248, 249, 250, 251, 252, 255, 258, 259, 260, 261, 262, 263, 264, 265, 266, 269, 270, 271, 272, 273, 274, 275, 278, 281, 282, 283, 284, 287, 288, 291, 294, 295, 296, 297, 300, 301, 304, 307, 308, 309, 310, 311, 312, 313, 314, 315, 318, 319, 320, 321, 322, 323, 324, 327, 330, 331, 332, 333, 334, 335, 336, 337, 338, 341, 342, 343, 344, 345, 346, 347, 350, 353, 354, 355, 356, 357, 358, 359, 360, 361, 362, 363, 364, 365, 366, 369, 370, 371, 372, 373, 374, 375, 376, 377, 378, 379, 380, 383, 386, 387, 388, 389, 390, 391, 392, 393, 394, 395, 396, 397, 398, 399, 402, 403, 404, 405, 406, 407, 408, 409, 410, 411, 412, 413, 416, 419, 420, 421, 422, 423, 424, 425, 426, 427, 430, 431, 432, 433, 434, 435, 436, 439, 442, 443, 444, 445, 446, 447, 448, 449, 450, 453, 454, 455, 456, 457, 458, 459, 462, 465, 466, 467, 468, 471, 472, 475, 478, 479, 480, 481, 484, 485, 488, 491, 492, 493, 494, 497, 498, 501, 504, 505, 506, 507, 508, 509, 510, 511, 512, 515, 516, 517, 518, 519, 520, 521, 524, 527, 528, 529, 530, 533, 534, 537, 540, 541, 542, 543, 544, 545, 546, 547, 548, 551, 552, 553, 554, 555, 556, 557, 560, 563, 564, 565, 566, 567, 568, 569, 570, 571, 574, 575, 576, 577, 578, 579, 580, 583, 586, 587, 588, 591, 594, 595]
set_option maxRecDepth 100000 in
set_option maxHeartbeats 8000000 in
theorem law_walk {L : Nat} (hL : L ≤ 2048) {xs : Nat → Int} {Ret : KR} (hR : ∀ M : Mem, Ret (some (mi 1)) M) {Z : KZ} (hZ : Sim (cd_law L xs) Z Ret) : ∀ (s : St) (M : Mem), XR s M → YR s M → stOk s → Z 8 [some (mr 999), some (mr 0), some (mr 73), none] [] M := by
  have loop : ∀ (d : Nat) (i : Int) (s : St) (M : Mem), d = (L - i).toNat → 0 ≤ i → i ≤ 4096 → XR s M → YR s M → stOk s → Z 10 [some (mr 999), some (mr 0), some (mr 73), some (mi i)] [] M := by
    intro d
    induction d using Nat.strongRecOn with
    | ind d ih =>
      intro i s M hd i0 i1 hx hy hv
      have nxt : i ≤ (L : Int) - 4 → ∀ (s2 : St) (M2 : Mem), XR s2 M2 → YR s2 M2 → stOk s2 → Z 362 [some (mr 999), some (mr 0), some (mr 73), some (mi i)] [] M2 := by
        intro hi s2 M2 h1 h2 h3
        refine w_in4_3 hZ 362 363 rfl rfl rfl (by unfold InR; omega) ?_
        refine w_goto hZ 363 10 rfl ?_
        exact ih _ (by omega) (i + 4) s2 M2 rfl (by omega) (by omega) h1 h2 h3
      refine w_iload hZ 10 11 rfl rfl rfl ?_
      refine w_aload hZ 11 12 rfl rfl rfl ?_
      refine w_slen hZ 12 13 rfl rfl (by omega) ?_
      refine w_const hZ 13 14 rfl rfl  ?_
      refine w_sub hZ 14 15 rfl rfl (by unfold InR; omega) ?_
      refine w_cgt hZ 15 16 rfl rfl (fun c15 => ?_) (fun c15 => ?_)
      · refine w_const hZ 364 365 rfl rfl  ?_
        refine w_zret hZ 365 rfl (Or.inr rfl) ?_
        exact hR M
      · have hxi : True := trivial
        refine w_aload hZ 16 17 rfl rfl rfl ?_
        refine w_iload hZ 17 18 rfl rfl rfl ?_
        refine w_siald hZ 18 19 rfl rfl (by omega) (by omega) ?_
        refine w_const hZ 19 20 rfl rfl  ?_
        refine w_and31 hZ 20 21 rfl rfl  ?_
        refine w_tsw20 hZ 21 rfl (fun c21 => ?_) (fun c21 => ?_) (fun c21 => ?_) (fun c21 => ?_) (fun c21 => ?_) (fun c21 => ?_) (fun c21 => ?_) (fun c21 => ?_) (fun c21 => ?_) (fun c21 => ?_) (fun c21 => ?_) (fun c21 => ?_) (fun c21 => ?_) (fun c21 => ?_) (fun c21 => ?_) (fun c21 => ?_) (fun c21 => ?_) (fun c21 => ?_) (fun c21 => ?_) (fun c21 => ?_) (fun c21 => ?_)
        · refine w_aload hZ 22 23 rfl rfl rfl ?_
          refine w_aload hZ 23 24 rfl rfl rfl ?_
          refine w_iload hZ 24 25 rfl rfl rfl ?_
          refine w_const hZ 25 26 rfl rfl  ?_
          refine w_add hZ 26 27 rfl rfl (by unfold InR; omega) ?_
          refine w_siald hZ 27 28 rfl rfl (by omega) (by omega) ?_
          refine w_aload hZ 28 29 rfl rfl rfl ?_
          refine w_iload hZ 29 30 rfl rfl rfl ?_
          refine w_const hZ 30 31 rfl rfl  ?_
          refine w_add hZ 31 32 rfl rfl (by unfold InR; omega) ?_
          refine w_siald hZ 32 33 rfl rfl (by omega) (by omega) ?_
          refine w_aload hZ 33 34 rfl rfl rfl ?_
          refine w_iload hZ 34 35 rfl rfl rfl ?_
          refine w_const hZ 35 36 rfl rfl  ?_
          refine w_add hZ 36 37 rfl rfl (by unfold InR; omega) ?_
          refine w_siald hZ 37 38 rfl rfl (by omega) (by omega) ?_
          refine k_X6_rule hZ 38 39 rfl rfl (Nat.le_of_ble_eq_true rfl) (s := s) ⟨hx, hv⟩ (fun M38 p38 => ?_)
          refine w_aload hZ 39 40 rfl rfl rfl ?_
          refine w_aload hZ 40 41 rfl rfl rfl ?_
          refine w_iload hZ 41 42 rfl rfl rfl ?_
          refine w_const hZ 42 43 rfl rfl  ?_
          refine w_add hZ 43 44 rfl rfl (by unfold InR; omega) ?_
          refine w_siald hZ 44 45 rfl rfl (by omega) (by omega) ?_
          refine w_aload hZ 45 46 rfl rfl rfl ?_
          refine w_iload hZ 46 47 rfl rfl rfl ?_
          refine w_const hZ 47 48 rfl rfl  ?_
          refine w_add hZ 48 49 rfl rfl (by unfold InR; omega) ?_
          refine w_siald hZ 49 50 rfl rfl (by omega) (by omega) ?_
          refine w_aload hZ 50 51 rfl rfl rfl ?_
          refine w_iload hZ 51 52 rfl rfl rfl ?_
          refine w_const hZ 52 53 rfl rfl  ?_
          refine w_add hZ 53 54 rfl rfl (by unfold InR; omega) ?_
          refine w_siald hZ 54 55 rfl rfl (by omega) (by omega) ?_
          refine k_X7_rule hZ 55 56 rfl rfl (Nat.le_of_ble_eq_true rfl) (s := s) ⟨hy.hi p38.2, hv⟩ (fun M55 p55 => ?_)
          refine w_ceq hZ 56 57 rfl rfl (fun c56 => ?_) (fun c56 => absurd c56 (fun h => h rfl))
          exact nxt (by omega) _ M55 (p38.1.lo p55.2) p55.1 (oRule_ok hv _ _ _)
        · refine w_aload hZ 59 60 rfl rfl rfl ?_
          refine w_aload hZ 60 61 rfl rfl rfl ?_
          refine w_iload hZ 61 62 rfl rfl rfl ?_
          refine w_const hZ 62 63 rfl rfl  ?_
          refine w_add hZ 63 64 rfl rfl (by unfold InR; omega) ?_
          refine w_siald hZ 64 65 rfl rfl (by omega) (by omega) ?_
          refine k_X6_drop hZ 65 66 rfl rfl (Nat.le_of_ble_eq_true rfl) (s := s) ⟨hx, hv⟩ (fun M65 p65 => ?_)
          refine w_aload hZ 66 67 rfl rfl rfl ?_
          refine w_aload hZ 67 68 rfl rfl rfl ?_
          refine w_iload hZ 68 69 rfl rfl rfl ?_
          refine w_const hZ 69 70 rfl rfl  ?_
          refine w_add hZ 70 71 rfl rfl (by unfold InR; omega) ?_
          refine w_siald hZ 71 72 rfl rfl (by omega) (by omega) ?_
          refine k_X7_drop hZ 72 73 rfl rfl (Nat.le_of_ble_eq_true rfl) (s := s) ⟨hy.hi p65.2, hv⟩ (fun M72 p72 => ?_)
          refine w_ceq hZ 73 74 rfl rfl (fun c73 => ?_) (fun c73 => absurd c73 (fun h => h rfl))
          exact nxt (by omega) _ M72 (p65.1.lo p72.2) p72.1 (oDrop_ok hv _)
        · refine w_aload hZ 76 77 rfl rfl rfl ?_
          refine w_aload hZ 77 78 rfl rfl rfl ?_
          refine w_iload hZ 78 79 rfl rfl rfl ?_
          refine w_const hZ 79 80 rfl rfl  ?_
          refine w_add hZ 80 81 rfl rfl (by unfold InR; omega) ?_
          refine w_siald hZ 81 82 rfl rfl (by omega) (by omega) ?_
          refine w_aload hZ 82 83 rfl rfl rfl ?_
          refine w_iload hZ 83 84 rfl rfl rfl ?_
          refine w_const hZ 84 85 rfl rfl  ?_
          refine w_add hZ 85 86 rfl rfl (by unfold InR; omega) ?_
          refine w_siald hZ 86 87 rfl rfl (by omega) (by omega) ?_
          refine k_X6_set hZ 87 88 rfl rfl (Nat.le_of_ble_eq_true rfl) (s := s) ⟨hx, hv⟩ (fun M87 p87 => ?_)
          refine w_aload hZ 88 89 rfl rfl rfl ?_
          refine w_aload hZ 89 90 rfl rfl rfl ?_
          refine w_iload hZ 90 91 rfl rfl rfl ?_
          refine w_const hZ 91 92 rfl rfl  ?_
          refine w_add hZ 92 93 rfl rfl (by unfold InR; omega) ?_
          refine w_siald hZ 93 94 rfl rfl (by omega) (by omega) ?_
          refine w_aload hZ 94 95 rfl rfl rfl ?_
          refine w_iload hZ 95 96 rfl rfl rfl ?_
          refine w_const hZ 96 97 rfl rfl  ?_
          refine w_add hZ 97 98 rfl rfl (by unfold InR; omega) ?_
          refine w_siald hZ 98 99 rfl rfl (by omega) (by omega) ?_
          refine k_X7_set hZ 99 100 rfl rfl (Nat.le_of_ble_eq_true rfl) (s := s) ⟨hy.hi p87.2, hv⟩ (fun M99 p99 => ?_)
          refine w_ceq hZ 100 101 rfl rfl (fun c100 => ?_) (fun c100 => absurd c100 (fun h => h rfl))
          exact nxt (by omega) _ M99 (p87.1.lo p99.2) p99.1 (oSet_ok hv _ _)
        · refine w_aload hZ 103 104 rfl rfl rfl ?_
          refine w_aload hZ 104 105 rfl rfl rfl ?_
          refine w_iload hZ 105 106 rfl rfl rfl ?_
          refine w_const hZ 106 107 rfl rfl  ?_
          refine w_add hZ 107 108 rfl rfl (by unfold InR; omega) ?_
          refine w_siald hZ 108 109 rfl rfl (by omega) (by omega) ?_
          refine w_aload hZ 109 110 rfl rfl rfl ?_
          refine w_iload hZ 110 111 rfl rfl rfl ?_
          refine w_const hZ 111 112 rfl rfl  ?_
          refine w_add hZ 112 113 rfl rfl (by unfold InR; omega) ?_
          refine w_siald hZ 113 114 rfl rfl (by omega) (by omega) ?_
          refine k_X6_drift hZ 114 115 rfl rfl (Nat.le_of_ble_eq_true rfl) (s := s) ⟨hx, hv⟩ (fun M114 p114 => ?_)
          refine w_aload hZ 115 116 rfl rfl rfl ?_
          refine w_aload hZ 116 117 rfl rfl rfl ?_
          refine w_iload hZ 117 118 rfl rfl rfl ?_
          refine w_const hZ 118 119 rfl rfl  ?_
          refine w_add hZ 119 120 rfl rfl (by unfold InR; omega) ?_
          refine w_siald hZ 120 121 rfl rfl (by omega) (by omega) ?_
          refine w_aload hZ 121 122 rfl rfl rfl ?_
          refine w_iload hZ 122 123 rfl rfl rfl ?_
          refine w_const hZ 123 124 rfl rfl  ?_
          refine w_add hZ 124 125 rfl rfl (by unfold InR; omega) ?_
          refine w_siald hZ 125 126 rfl rfl (by omega) (by omega) ?_
          refine k_X7_drift hZ 126 127 rfl rfl (Nat.le_of_ble_eq_true rfl) (s := s) ⟨hy.hi p114.2, hv⟩ (fun M126 p126 => ?_)
          refine w_ceq hZ 127 128 rfl rfl (fun c127 => ?_) (fun c127 => absurd c127 (fun h => h rfl))
          exact nxt (by omega) _ M126 (p114.1.lo p126.2) p126.1 (oDrift_ok hv _ _)
        · refine w_aload hZ 130 131 rfl rfl rfl ?_
          refine w_aload hZ 131 132 rfl rfl rfl ?_
          refine w_iload hZ 132 133 rfl rfl rfl ?_
          refine w_const hZ 133 134 rfl rfl  ?_
          refine w_add hZ 134 135 rfl rfl (by unfold InR; omega) ?_
          refine w_siald hZ 135 136 rfl rfl (by omega) (by omega) ?_
          refine k_X6_text hZ 136 137 rfl rfl (Nat.le_of_ble_eq_true rfl) (s := s) ⟨hx, hv⟩ (fun M136 p136 => ?_)
          refine w_aload hZ 137 138 rfl rfl rfl ?_
          refine w_aload hZ 138 139 rfl rfl rfl ?_
          refine w_iload hZ 139 140 rfl rfl rfl ?_
          refine w_const hZ 140 141 rfl rfl  ?_
          refine w_add hZ 141 142 rfl rfl (by unfold InR; omega) ?_
          refine w_siald hZ 142 143 rfl rfl (by omega) (by omega) ?_
          refine k_X7_text hZ 143 144 rfl rfl (Nat.le_of_ble_eq_true rfl) (s := s) ⟨hy.hi p136.2, hv⟩ (fun M143 p143 => ?_)
          refine w_ceq hZ 144 145 rfl rfl (fun c144 => ?_) (fun c144 => absurd c144 (fun h => h rfl))
          exact nxt (by omega) _ M143 (p136.1.lo p143.2) p143.1 (oText_ok hv _)
        · refine w_aload hZ 147 148 rfl rfl rfl ?_
          refine k_X6_wipe hZ 148 149 rfl rfl (Nat.le_of_ble_eq_true rfl) (s := s) ⟨hx, hv⟩ (fun M148 p148 => ?_)
          refine w_aload hZ 149 150 rfl rfl rfl ?_
          refine k_X7_wipe hZ 150 151 rfl rfl (Nat.le_of_ble_eq_true rfl) (s := s) ⟨hy.hi p148.2, hv⟩ (fun M150 p150 => ?_)
          refine w_ceq hZ 151 152 rfl rfl (fun c151 => ?_) (fun c151 => absurd c151 (fun h => h rfl))
          exact nxt (by omega) _ M150 (p148.1.lo p150.2) p150.1 (oWipe_ok hv)
        · refine w_aload hZ 154 155 rfl rfl rfl ?_
          refine k_X6_undo hZ 155 156 rfl rfl (Nat.le_of_ble_eq_true rfl) (s := s) ⟨hx, hv⟩ (fun M155 p155 => ?_)
          refine w_aload hZ 156 157 rfl rfl rfl ?_
          refine k_X7_undo hZ 157 158 rfl rfl (Nat.le_of_ble_eq_true rfl) (s := s) ⟨hy.hi p155.2, hv⟩ (fun M157 p157 => ?_)
          refine w_ceq hZ 158 159 rfl rfl (fun c158 => ?_) (fun c158 => absurd c158 (fun h => h rfl))
          exact nxt (by omega) _ M157 (p155.1.lo p157.2) p157.1 (oUndo_ok hv)
        · refine w_aload hZ 161 162 rfl rfl rfl ?_
          refine w_aload hZ 162 163 rfl rfl rfl ?_
          refine w_iload hZ 163 164 rfl rfl rfl ?_
          refine w_const hZ 164 165 rfl rfl  ?_
          refine w_add hZ 165 166 rfl rfl (by unfold InR; omega) ?_
          refine w_siald hZ 166 167 rfl rfl (by omega) (by omega) ?_
          refine k_X6_told hZ 167 168 rfl rfl (Nat.le_of_ble_eq_true rfl) (s := s) ⟨hx, hv⟩ (fun M167 p167 => ?_)
          refine w_aload hZ 168 169 rfl rfl rfl ?_
          refine w_aload hZ 169 170 rfl rfl rfl ?_
          refine w_iload hZ 170 171 rfl rfl rfl ?_
          refine w_const hZ 171 172 rfl rfl  ?_
          refine w_add hZ 172 173 rfl rfl (by unfold InR; omega) ?_
          refine w_siald hZ 173 174 rfl rfl (by omega) (by omega) ?_
          refine k_X7_told hZ 174 175 rfl rfl (Nat.le_of_ble_eq_true rfl) (s := s) ⟨hy.hi p167.2, hv⟩ (fun M174 p174 => ?_)
          refine w_ceq hZ 175 176 rfl rfl (fun c175 => ?_) (fun c175 => absurd c175 (fun h => h rfl))
          exact nxt (by omega) s M174 (p167.1.lo p174.2) p174.1 hv
        · refine w_aload hZ 178 179 rfl rfl rfl ?_
          refine w_aload hZ 179 180 rfl rfl rfl ?_
          refine w_iload hZ 180 181 rfl rfl rfl ?_
          refine w_const hZ 181 182 rfl rfl  ?_
          refine w_add hZ 182 183 rfl rfl (by unfold InR; omega) ?_
          refine w_siald hZ 183 184 rfl rfl (by omega) (by omega) ?_
          refine k_X6_cell hZ 184 185 rfl rfl (Nat.le_of_ble_eq_true rfl) (s := s) ⟨hx, hv⟩ (fun M184 p184 => ?_)
          refine w_aload hZ 185 186 rfl rfl rfl ?_
          refine w_aload hZ 186 187 rfl rfl rfl ?_
          refine w_iload hZ 187 188 rfl rfl rfl ?_
          refine w_const hZ 188 189 rfl rfl  ?_
          refine w_add hZ 189 190 rfl rfl (by unfold InR; omega) ?_
          refine w_siald hZ 190 191 rfl rfl (by omega) (by omega) ?_
          refine k_X7_cell hZ 191 192 rfl rfl (Nat.le_of_ble_eq_true rfl) (s := s) ⟨hy.hi p184.2, hv⟩ (fun M191 p191 => ?_)
          refine w_ceq hZ 192 193 rfl rfl (fun c192 => ?_) (fun c192 => absurd c192 (fun h => h rfl))
          exact nxt (by omega) s M191 (p184.1.lo p191.2) p191.1 hv
        · refine w_aload hZ 195 196 rfl rfl rfl ?_
          refine w_aload hZ 196 197 rfl rfl rfl ?_
          refine w_iload hZ 197 198 rfl rfl rfl ?_
          refine w_const hZ 198 199 rfl rfl  ?_
          refine w_add hZ 199 200 rfl rfl (by unfold InR; omega) ?_
          refine w_siald hZ 200 201 rfl rfl (by omega) (by omega) ?_
          refine w_aload hZ 201 202 rfl rfl rfl ?_
          refine w_iload hZ 202 203 rfl rfl rfl ?_
          refine w_const hZ 203 204 rfl rfl  ?_
          refine w_add hZ 204 205 rfl rfl (by unfold InR; omega) ?_
          refine w_siald hZ 205 206 rfl rfl (by omega) (by omega) ?_
          refine k_X6_line hZ 206 207 rfl rfl (Nat.le_of_ble_eq_true rfl) (s := s) ⟨hx, hv⟩ (fun M206 p206 => ?_)
          refine w_aload hZ 207 208 rfl rfl rfl ?_
          refine w_aload hZ 208 209 rfl rfl rfl ?_
          refine w_iload hZ 209 210 rfl rfl rfl ?_
          refine w_const hZ 210 211 rfl rfl  ?_
          refine w_add hZ 211 212 rfl rfl (by unfold InR; omega) ?_
          refine w_siald hZ 212 213 rfl rfl (by omega) (by omega) ?_
          refine w_aload hZ 213 214 rfl rfl rfl ?_
          refine w_iload hZ 214 215 rfl rfl rfl ?_
          refine w_const hZ 215 216 rfl rfl  ?_
          refine w_add hZ 216 217 rfl rfl (by unfold InR; omega) ?_
          refine w_siald hZ 217 218 rfl rfl (by omega) (by omega) ?_
          refine k_X7_line hZ 218 219 rfl rfl (Nat.le_of_ble_eq_true rfl) (s := s) ⟨hy.hi p206.2, hv⟩ (fun M218 p218 => ?_)
          refine w_ceq hZ 219 220 rfl rfl (fun c219 => ?_) (fun c219 => absurd c219 (fun h => h rfl))
          exact nxt (by omega) s M218 (p206.1.lo p218.2) p218.1 hv
        · refine w_aload hZ 222 223 rfl rfl rfl ?_
          refine w_aload hZ 223 224 rfl rfl rfl ?_
          refine w_iload hZ 224 225 rfl rfl rfl ?_
          refine w_const hZ 225 226 rfl rfl  ?_
          refine w_add hZ 226 227 rfl rfl (by unfold InR; omega) ?_
          refine w_siald hZ 227 228 rfl rfl (by omega) (by omega) ?_
          refine w_aload hZ 228 229 rfl rfl rfl ?_
          refine w_iload hZ 229 230 rfl rfl rfl ?_
          refine w_const hZ 230 231 rfl rfl  ?_
          refine w_add hZ 231 232 rfl rfl (by unfold InR; omega) ?_
          refine w_siald hZ 232 233 rfl rfl (by omega) (by omega) ?_
          refine k_X6_ofRule hZ 233 234 rfl rfl (Nat.le_of_ble_eq_true rfl) (s := s) ⟨hx, hv⟩ (fun M233 p233 => ?_)
          refine w_aload hZ 234 235 rfl rfl rfl ?_
          refine w_aload hZ 235 236 rfl rfl rfl ?_
          refine w_iload hZ 236 237 rfl rfl rfl ?_
          refine w_const hZ 237 238 rfl rfl  ?_
          refine w_add hZ 238 239 rfl rfl (by unfold InR; omega) ?_
          refine w_siald hZ 239 240 rfl rfl (by omega) (by omega) ?_
          refine w_aload hZ 240 241 rfl rfl rfl ?_
          refine w_iload hZ 241 242 rfl rfl rfl ?_
          refine w_const hZ 242 243 rfl rfl  ?_
          refine w_add hZ 243 244 rfl rfl (by unfold InR; omega) ?_
          refine w_siald hZ 244 245 rfl rfl (by omega) (by omega) ?_
          refine k_X7_ofRule hZ 245 246 rfl rfl (Nat.le_of_ble_eq_true rfl) (s := s) ⟨hy.hi p233.2, hv⟩ (fun M245 p245 => ?_)
          refine w_ceq hZ 246 247 rfl rfl (fun c246 => ?_) (fun c246 => absurd c246 (fun h => h rfl))
          exact nxt (by omega) s M245 (p233.1.lo p245.2) p245.1 hv
        · refine w_aload hZ 249 250 rfl rfl rfl ?_
          refine w_aload hZ 250 251 rfl rfl rfl ?_
          refine w_iload hZ 251 252 rfl rfl rfl ?_
          refine w_const hZ 252 253 rfl rfl  ?_
          refine w_add hZ 253 254 rfl rfl (by unfold InR; omega) ?_
          refine w_siald hZ 254 255 rfl rfl (by omega) (by omega) ?_
          refine k_X6_by hZ 255 256 rfl rfl (Nat.le_of_ble_eq_true rfl) (s := s) ⟨hx, hv⟩ (fun M255 p255 => ?_)
          refine w_aload hZ 256 257 rfl rfl rfl ?_
          refine w_aload hZ 257 258 rfl rfl rfl ?_
          refine w_iload hZ 258 259 rfl rfl rfl ?_
          refine w_const hZ 259 260 rfl rfl  ?_
          refine w_add hZ 260 261 rfl rfl (by unfold InR; omega) ?_
          refine w_siald hZ 261 262 rfl rfl (by omega) (by omega) ?_
          refine k_X7_by hZ 262 263 rfl rfl (Nat.le_of_ble_eq_true rfl) (s := s) ⟨hy.hi p255.2, hv⟩ (fun M262 p262 => ?_)
          refine w_ceq hZ 263 264 rfl rfl (fun c263 => ?_) (fun c263 => absurd c263 (fun h => h rfl))
          exact nxt (by omega) s M262 (p255.1.lo p262.2) p262.1 hv
        · refine w_aload hZ 266 267 rfl rfl rfl ?_
          refine w_aload hZ 267 268 rfl rfl rfl ?_
          refine w_iload hZ 268 269 rfl rfl rfl ?_
          refine w_const hZ 269 270 rfl rfl  ?_
          refine w_add hZ 270 271 rfl rfl (by unfold InR; omega) ?_
          refine w_siald hZ 271 272 rfl rfl (by omega) (by omega) ?_
          refine k_X6_feel hZ 272 273 rfl rfl (Nat.le_of_ble_eq_true rfl) (s := s) ⟨hx, hv⟩ (fun M272 p272 => ?_)
          refine w_aload hZ 273 274 rfl rfl rfl ?_
          refine w_aload hZ 274 275 rfl rfl rfl ?_
          refine w_iload hZ 275 276 rfl rfl rfl ?_
          refine w_const hZ 276 277 rfl rfl  ?_
          refine w_add hZ 277 278 rfl rfl (by unfold InR; omega) ?_
          refine w_siald hZ 278 279 rfl rfl (by omega) (by omega) ?_
          refine k_X7_feel hZ 279 280 rfl rfl (Nat.le_of_ble_eq_true rfl) (s := s) ⟨hy.hi p272.2, hv⟩ (fun M279 p279 => ?_)
          refine w_ceq hZ 280 281 rfl rfl (fun c280 => ?_) (fun c280 => absurd c280 (fun h => h rfl))
          exact nxt (by omega) _ M279 (p272.1.lo p279.2) p279.1 (oFeel_ok hv _)
        · refine w_aload hZ 283 284 rfl rfl rfl ?_
          refine k_X6_feelAll hZ 284 285 rfl rfl (Nat.le_of_ble_eq_true rfl) (s := s) ⟨hx, hv⟩ (fun M284 p284 => ?_)
          refine w_aload hZ 285 286 rfl rfl rfl ?_
          refine k_X7_feelAll hZ 286 287 rfl rfl (Nat.le_of_ble_eq_true rfl) (s := s) ⟨hy.hi p284.2, hv⟩ (fun M286 p286 => ?_)
          refine w_ceq hZ 287 288 rfl rfl (fun c287 => ?_) (fun c287 => absurd c287 (fun h => h rfl))
          exact nxt (by omega) _ M286 (p284.1.lo p286.2) p286.1 (oFeelAll_ok hv)
        · refine w_aload hZ 290 291 rfl rfl rfl ?_
          refine k_X6_read hZ 291 292 rfl rfl (Nat.le_of_ble_eq_true rfl) (s := s) ⟨hx, hv⟩ (fun M291 p291 => ?_)
          refine w_aload hZ 292 293 rfl rfl rfl ?_
          refine k_X7_read hZ 293 294 rfl rfl (Nat.le_of_ble_eq_true rfl) (s := s) ⟨hy.hi p291.2, hv⟩ (fun M293 p293 => ?_)
          refine w_ceq hZ 294 295 rfl rfl (fun c294 => ?_) (fun c294 => absurd c294 (fun h => h rfl))
          exact nxt (by omega) s M293 (p291.1.lo p293.2) p293.1 hv
        · refine w_aload hZ 297 298 rfl rfl rfl ?_
          refine k_X6_fault hZ 298 299 rfl rfl (Nat.le_of_ble_eq_true rfl) (s := s) ⟨hx, hv⟩ (fun M298 p298 => ?_)
          refine w_aload hZ 299 300 rfl rfl rfl ?_
          refine k_X7_fault hZ 300 301 rfl rfl (Nat.le_of_ble_eq_true rfl) (s := s) ⟨hy.hi p298.2, hv⟩ (fun M300 p300 => ?_)
          refine w_ceq hZ 301 302 rfl rfl (fun c301 => ?_) (fun c301 => absurd c301 (fun h => h rfl))
          exact nxt (by omega) s M300 (p298.1.lo p300.2) p300.1 hv
        · refine w_aload hZ 304 305 rfl rfl rfl ?_
          refine w_aload hZ 305 306 rfl rfl rfl ?_
          refine w_iload hZ 306 307 rfl rfl rfl ?_
          refine w_const hZ 307 308 rfl rfl  ?_
          refine w_add hZ 308 309 rfl rfl (by unfold InR; omega) ?_
          refine w_siald hZ 309 310 rfl rfl (by omega) (by omega) ?_
          refine k_X6_sign hZ 310 311 rfl rfl (Nat.le_of_ble_eq_true rfl) (s := s) ⟨hx, hv⟩ (fun M310 p310 => ?_)
          refine w_aload hZ 311 312 rfl rfl rfl ?_
          refine w_aload hZ 312 313 rfl rfl rfl ?_
          refine w_iload hZ 313 314 rfl rfl rfl ?_
          refine w_const hZ 314 315 rfl rfl  ?_
          refine w_add hZ 315 316 rfl rfl (by unfold InR; omega) ?_
          refine w_siald hZ 316 317 rfl rfl (by omega) (by omega) ?_
          refine k_X7_sign hZ 317 318 rfl rfl (Nat.le_of_ble_eq_true rfl) (s := s) ⟨hy.hi p310.2, hv⟩ (fun M317 p317 => ?_)
          refine w_ceq hZ 318 319 rfl rfl (fun c318 => ?_) (fun c318 => absurd c318 (fun h => h rfl))
          exact nxt (by omega) s M317 (p310.1.lo p317.2) p317.1 hv
        · refine w_aload hZ 321 322 rfl rfl rfl ?_
          refine k_X6_rest hZ 322 323 rfl rfl (Nat.le_of_ble_eq_true rfl) (s := s) ⟨hx, hv⟩ (fun M322 p322 => ?_)
          refine w_aload hZ 323 324 rfl rfl rfl ?_
          refine k_X7_rest hZ 324 325 rfl rfl (Nat.le_of_ble_eq_true rfl) (s := s) ⟨hy.hi p322.2, hv⟩ (fun M324 p324 => ?_)
          refine w_ceq hZ 325 326 rfl rfl (fun c325 => ?_) (fun c325 => absurd c325 (fun h => h rfl))
          exact nxt (by omega) _ M324 (p322.1.lo p324.2) p324.1 (oRest_ok hv)
        · refine w_aload hZ 328 329 rfl rfl rfl ?_
          refine w_aload hZ 329 330 rfl rfl rfl ?_
          refine w_iload hZ 330 331 rfl rfl rfl ?_
          refine w_const hZ 331 332 rfl rfl  ?_
          refine w_add hZ 332 333 rfl rfl (by unfold InR; omega) ?_
          refine w_siald hZ 333 334 rfl rfl (by omega) (by omega) ?_
          refine k_X6_keep hZ 334 335 rfl rfl (Nat.le_of_ble_eq_true rfl) (s := s) ⟨hx, hv⟩ (fun M334 p334 => ?_)
          refine w_aload hZ 335 336 rfl rfl rfl ?_
          refine w_aload hZ 336 337 rfl rfl rfl ?_
          refine w_iload hZ 337 338 rfl rfl rfl ?_
          refine w_const hZ 338 339 rfl rfl  ?_
          refine w_add hZ 339 340 rfl rfl (by unfold InR; omega) ?_
          refine w_siald hZ 340 341 rfl rfl (by omega) (by omega) ?_
          refine k_X7_keep hZ 341 342 rfl rfl (Nat.le_of_ble_eq_true rfl) (s := s) ⟨hy.hi p334.2, hv⟩ (fun M341 p341 => ?_)
          refine w_ceq hZ 342 343 rfl rfl (fun c342 => ?_) (fun c342 => absurd c342 (fun h => h rfl))
          exact nxt (by omega) _ M341 (p334.1.lo p341.2) p341.1 (oKeep_ok hv _)
        · refine w_aload hZ 345 346 rfl rfl rfl ?_
          refine w_aload hZ 346 347 rfl rfl rfl ?_
          refine w_iload hZ 347 348 rfl rfl rfl ?_
          refine w_const hZ 348 349 rfl rfl  ?_
          refine w_add hZ 349 350 rfl rfl (by unfold InR; omega) ?_
          refine w_siald hZ 350 351 rfl rfl (by omega) (by omega) ?_
          refine k_X6_goBack hZ 351 352 rfl rfl (Nat.le_of_ble_eq_true rfl) (s := s) ⟨hx, hv⟩ (fun M351 p351 => ?_)
          refine w_aload hZ 352 353 rfl rfl rfl ?_
          refine w_aload hZ 353 354 rfl rfl rfl ?_
          refine w_iload hZ 354 355 rfl rfl rfl ?_
          refine w_const hZ 355 356 rfl rfl  ?_
          refine w_add hZ 356 357 rfl rfl (by unfold InR; omega) ?_
          refine w_siald hZ 357 358 rfl rfl (by omega) (by omega) ?_
          refine k_X7_goBack hZ 358 359 rfl rfl (Nat.le_of_ble_eq_true rfl) (s := s) ⟨hy.hi p351.2, hv⟩ (fun M358 p358 => ?_)
          refine w_ceq hZ 359 360 rfl rfl (fun c359 => ?_) (fun c359 => absurd c359 (fun h => h rfl))
          exact nxt (by omega) _ M358 (p351.1.lo p358.2) p358.1 (oBack_ok hv _)
        · exact nxt (by omega) s M hx hy hv
  intro s M hx hy hv
  refine w_const hZ 8 9 rfl rfl  ?_
  refine w_st4_3 hZ 9 10 rfl rfl rfl ?_
  exact loop _ 0 s M rfl (Int.le_refl _) (by omega) hx hy hv
