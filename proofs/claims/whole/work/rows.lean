section
-- ===== PART A: goes FIRST, ahead of the names: the tables' words, and 'selects' of the private methods out of them =====
/-- a private method of a class that the tables say can be made, by its rows of tables_1 -/
def lw_okq (q : MethodName × Nat) : Prop := (q.1.cls ≠ "java/lang/invoke/MethodHandle" ∧ q.1.cls ≠ "java/lang/invoke/VarHandle") ∧ Cond.instantiable q.1.cls q.2 ∈ tables_1 ∧ Cond.privateMethod q.1 ∈ tables_1 ∧ Cond.instanceMethod q.1 ∈ tables_1
theorem lw_p0 : lw_okq (⟨"RaisedDots", "setWidth", "(I)I"⟩, 10) := ⟨⟨by decide +kernel, by decide +kernel⟩, List.mem_of_getElem? (i := 12) (by decide +kernel), List.mem_of_getElem? (i := 293) (by decide +kernel), List.mem_of_getElem? (i := 294) (by decide +kernel)⟩
theorem lw_p1 : lw_okq (⟨"RaisedDots", "setHeight", "(I)I"⟩, 10) := ⟨⟨by decide +kernel, by decide +kernel⟩, List.mem_of_getElem? (i := 12) (by decide +kernel), List.mem_of_getElem? (i := 297) (by decide +kernel), List.mem_of_getElem? (i := 298) (by decide +kernel)⟩
theorem lw_p2 : lw_okq (⟨"RaisedDots", "addRuleByLots", "()V"⟩, 10) := ⟨⟨by decide +kernel, by decide +kernel⟩, List.mem_of_getElem? (i := 12) (by decide +kernel), List.mem_of_getElem? (i := 310) (by decide +kernel), List.mem_of_getElem? (i := 311) (by decide +kernel)⟩
theorem lw_p3 : lw_okq (⟨"RaisedDots$Writer", "begin", "(I)V"⟩, 12) := ⟨⟨by decide +kernel, by decide +kernel⟩, List.mem_of_getElem? (i := 84) (by decide +kernel), List.mem_of_getElem? (i := 379) (by decide +kernel), List.mem_of_getElem? (i := 380) (by decide +kernel)⟩
theorem lw_p4 : lw_okq (⟨"RaisedDots$Writer", "enterWord", "(I)V"⟩, 12) := ⟨⟨by decide +kernel, by decide +kernel⟩, List.mem_of_getElem? (i := 84) (by decide +kernel), List.mem_of_getElem? (i := 385) (by decide +kernel), List.mem_of_getElem? (i := 386) (by decide +kernel)⟩
theorem lw_p5 : lw_okq (⟨"RaisedDots$Writer", "writeWord", "()V"⟩, 12) := ⟨⟨by decide +kernel, by decide +kernel⟩, List.mem_of_getElem? (i := 84) (by decide +kernel), List.mem_of_getElem? (i := 398) (by decide +kernel), List.mem_of_getElem? (i := 399) (by decide +kernel)⟩
theorem lw_p6 : lw_okq (⟨"RaisedDots$Writer", "needsLetters", "()Z"⟩, 12) := ⟨⟨by decide +kernel, by decide +kernel⟩, List.mem_of_getElem? (i := 84) (by decide +kernel), List.mem_of_getElem? (i := 402) (by decide +kernel), List.mem_of_getElem? (i := 403) (by decide +kernel)⟩
theorem lw_p7 : lw_okq (⟨"RaisedDots$Writer", "addCell", "(I)V"⟩, 12) := ⟨⟨by decide +kernel, by decide +kernel⟩, List.mem_of_getElem? (i := 84) (by decide +kernel), List.mem_of_getElem? (i := 412) (by decide +kernel), List.mem_of_getElem? (i := 413) (by decide +kernel)⟩
theorem lw_p8 : lw_okq (⟨"RaisedDots$Writer", "servingRule", "(I)I"⟩, 12) := ⟨⟨by decide +kernel, by decide +kernel⟩, List.mem_of_getElem? (i := 84) (by decide +kernel), List.mem_of_getElem? (i := 416) (by decide +kernel), List.mem_of_getElem? (i := 417) (by decide +kernel)⟩
theorem lw_p9 : lw_okq (⟨"RaisedDots$Writer", "ruleAt", "(II)I"⟩, 12) := ⟨⟨by decide +kernel, by decide +kernel⟩, List.mem_of_getElem? (i := 84) (by decide +kernel), List.mem_of_getElem? (i := 420) (by decide +kernel), List.mem_of_getElem? (i := 421) (by decide +kernel)⟩
theorem lw_p10 : lw_okq (⟨"RaisedDots$Writer", "mayStand", "(III)Z"⟩, 12) := ⟨⟨by decide +kernel, by decide +kernel⟩, List.mem_of_getElem? (i := 84) (by decide +kernel), List.mem_of_getElem? (i := 425) (by decide +kernel), List.mem_of_getElem? (i := 426) (by decide +kernel)⟩
theorem lw_p11 : lw_okq (⟨"RaisedDots$Writer", "writeLetter", "(I)I"⟩, 12) := ⟨⟨by decide +kernel, by decide +kernel⟩, List.mem_of_getElem? (i := 84) (by decide +kernel), List.mem_of_getElem? (i := 429) (by decide +kernel), List.mem_of_getElem? (i := 430) (by decide +kernel)⟩
theorem lw_p12 : lw_okq (⟨"RaisedDots$Writer", "writeRule", "(II)I"⟩, 12) := ⟨⟨by decide +kernel, by decide +kernel⟩, List.mem_of_getElem? (i := 84) (by decide +kernel), List.mem_of_getElem? (i := 433) (by decide +kernel), List.mem_of_getElem? (i := 434) (by decide +kernel)⟩
theorem lw_p13 : lw_okq (⟨"RaisedDots$Writer", "writeFigure", "(II)V"⟩, 12) := ⟨⟨by decide +kernel, by decide +kernel⟩, List.mem_of_getElem? (i := 84) (by decide +kernel), List.mem_of_getElem? (i := 439) (by decide +kernel), List.mem_of_getElem? (i := 440) (by decide +kernel)⟩
theorem lw_p14 : lw_okq (⟨"RaisedDots$Writer", "fewestOfWord", "()I"⟩, 12) := ⟨⟨by decide +kernel, by decide +kernel⟩, List.mem_of_getElem? (i := 84) (by decide +kernel), List.mem_of_getElem? (i := 454) (by decide +kernel), List.mem_of_getElem? (i := 455) (by decide +kernel)⟩
theorem lw_p15 : lw_okq (⟨"RaisedDots", "layLines", "()I"⟩, 10) := ⟨⟨by decide +kernel, by decide +kernel⟩, List.mem_of_getElem? (i := 12) (by decide +kernel), List.mem_of_getElem? (i := 459) (by decide +kernel), List.mem_of_getElem? (i := 460) (by decide +kernel)⟩
def lw_privs_1 : List (MethodName × Nat) := [(⟨"RaisedDots", "setWidth", "(I)I"⟩, 10), (⟨"RaisedDots", "setHeight", "(I)I"⟩, 10), (⟨"RaisedDots", "addRuleByLots", "()V"⟩, 10), (⟨"RaisedDots$Writer", "begin", "(I)V"⟩, 12), (⟨"RaisedDots$Writer", "enterWord", "(I)V"⟩, 12), (⟨"RaisedDots$Writer", "writeWord", "()V"⟩, 12), (⟨"RaisedDots$Writer", "needsLetters", "()Z"⟩, 12), (⟨"RaisedDots$Writer", "addCell", "(I)V"⟩, 12), (⟨"RaisedDots$Writer", "servingRule", "(I)I"⟩, 12), (⟨"RaisedDots$Writer", "ruleAt", "(II)I"⟩, 12), (⟨"RaisedDots$Writer", "mayStand", "(III)Z"⟩, 12), (⟨"RaisedDots$Writer", "writeLetter", "(I)I"⟩, 12), (⟨"RaisedDots$Writer", "writeRule", "(II)I"⟩, 12), (⟨"RaisedDots$Writer", "writeFigure", "(II)V"⟩, 12), (⟨"RaisedDots$Writer", "fewestOfWord", "()I"⟩, 12), (⟨"RaisedDots", "layLines", "()I"⟩, 10)]
theorem lw_r1 : ∀ q ∈ lw_privs_1, lw_okq q := List.forall_mem_cons.mpr ⟨lw_p0, List.forall_mem_cons.mpr ⟨lw_p1, List.forall_mem_cons.mpr ⟨lw_p2, List.forall_mem_cons.mpr ⟨lw_p3, List.forall_mem_cons.mpr ⟨lw_p4, List.forall_mem_cons.mpr ⟨lw_p5, List.forall_mem_cons.mpr ⟨lw_p6, List.forall_mem_cons.mpr ⟨lw_p7, List.forall_mem_cons.mpr ⟨lw_p8, List.forall_mem_cons.mpr ⟨lw_p9, List.forall_mem_cons.mpr ⟨lw_p10, List.forall_mem_cons.mpr ⟨lw_p11, List.forall_mem_cons.mpr ⟨lw_p12, List.forall_mem_cons.mpr ⟨lw_p13, List.forall_mem_cons.mpr ⟨lw_p14, List.forall_mem_cons.mpr ⟨lw_p15, fun _ h => absurd h List.not_mem_nil⟩⟩⟩⟩⟩⟩⟩⟩⟩⟩⟩⟩⟩⟩⟩⟩
theorem lw_p16 : lw_okq (⟨"RaisedDots$Layout", "layPiece", "([III)V"⟩, 5) := ⟨⟨by decide +kernel, by decide +kernel⟩, List.mem_of_getElem? (i := 131) (by decide +kernel), List.mem_of_getElem? (i := 470) (by decide +kernel), List.mem_of_getElem? (i := 471) (by decide +kernel)⟩
theorem lw_p17 : lw_okq (⟨"RaisedDots$Layout", "lengthOfLast", "()I"⟩, 5) := ⟨⟨by decide +kernel, by decide +kernel⟩, List.mem_of_getElem? (i := 131) (by decide +kernel), List.mem_of_getElem? (i := 474) (by decide +kernel), List.mem_of_getElem? (i := 475) (by decide +kernel)⟩
theorem lw_p18 : lw_okq (⟨"RaisedDots$Layout", "addLaid", "(I)V"⟩, 5) := ⟨⟨by decide +kernel, by decide +kernel⟩, List.mem_of_getElem? (i := 131) (by decide +kernel), List.mem_of_getElem? (i := 478) (by decide +kernel), List.mem_of_getElem? (i := 479) (by decide +kernel)⟩
theorem lw_p19 : lw_okq (⟨"RaisedDots$Layout", "beginLine", "()V"⟩, 5) := ⟨⟨by decide +kernel, by decide +kernel⟩, List.mem_of_getElem? (i := 131) (by decide +kernel), List.mem_of_getElem? (i := 482) (by decide +kernel), List.mem_of_getElem? (i := 483) (by decide +kernel)⟩
theorem lw_p20 : lw_okq (⟨"RaisedDots", "pagesOf", "(I)I"⟩, 10) := ⟨⟨by decide +kernel, by decide +kernel⟩, List.mem_of_getElem? (i := 12) (by decide +kernel), List.mem_of_getElem? (i := 486) (by decide +kernel), List.mem_of_getElem? (i := 487) (by decide +kernel)⟩
theorem lw_p21 : lw_okq (⟨"RaisedDots$Reader", "readAt", "(I)I"⟩, 8) := ⟨⟨by decide +kernel, by decide +kernel⟩, List.mem_of_getElem? (i := 153) (by decide +kernel), List.mem_of_getElem? (i := 535) (by decide +kernel), List.mem_of_getElem? (i := 536) (by decide +kernel)⟩
theorem lw_p22 : lw_okq (⟨"RaisedDots$Reader", "cellAt", "(I)I"⟩, 8) := ⟨⟨by decide +kernel, by decide +kernel⟩, List.mem_of_getElem? (i := 153) (by decide +kernel), List.mem_of_getElem? (i := 539) (by decide +kernel), List.mem_of_getElem? (i := 540) (by decide +kernel)⟩
theorem lw_p23 : lw_okq (⟨"RaisedDots$Reader", "readCapitals", "(I)I"⟩, 8) := ⟨⟨by decide +kernel, by decide +kernel⟩, List.mem_of_getElem? (i := 153) (by decide +kernel), List.mem_of_getElem? (i := 543) (by decide +kernel), List.mem_of_getElem? (i := 544) (by decide +kernel)⟩
theorem lw_p24 : lw_okq (⟨"RaisedDots$Reader", "isRule", "(I)Z"⟩, 8) := ⟨⟨by decide +kernel, by decide +kernel⟩, List.mem_of_getElem? (i := 153) (by decide +kernel), List.mem_of_getElem? (i := 550) (by decide +kernel), List.mem_of_getElem? (i := 551) (by decide +kernel)⟩
theorem lw_p25 : lw_okq (⟨"RaisedDots$Reader", "addLetters", "(II)V"⟩, 8) := ⟨⟨by decide +kernel, by decide +kernel⟩, List.mem_of_getElem? (i := 153) (by decide +kernel), List.mem_of_getElem? (i := 556) (by decide +kernel), List.mem_of_getElem? (i := 557) (by decide +kernel)⟩
theorem lw_p26 : lw_okq (⟨"RaisedDots$Reader", "addSign", "(I)V"⟩, 8) := ⟨⟨by decide +kernel, by decide +kernel⟩, List.mem_of_getElem? (i := 153) (by decide +kernel), List.mem_of_getElem? (i := 560) (by decide +kernel), List.mem_of_getElem? (i := 561) (by decide +kernel)⟩
theorem lw_p27 : lw_okq (⟨"RaisedDots$Reader", "failWrongAt", "(I)V"⟩, 8) := ⟨⟨by decide +kernel, by decide +kernel⟩, List.mem_of_getElem? (i := 153) (by decide +kernel), List.mem_of_getElem? (i := 565) (by decide +kernel), List.mem_of_getElem? (i := 566) (by decide +kernel)⟩
theorem lw_p28 : lw_okq (⟨"RaisedDots$Reader", "isNoSuchCell", "(I)Z"⟩, 8) := ⟨⟨by decide +kernel, by decide +kernel⟩, List.mem_of_getElem? (i := 153) (by decide +kernel), List.mem_of_getElem? (i := 569) (by decide +kernel), List.mem_of_getElem? (i := 570) (by decide +kernel)⟩
theorem lw_p29 : lw_okq (⟨"RaisedDots$Reader", "failAt", "(II)V"⟩, 8) := ⟨⟨by decide +kernel, by decide +kernel⟩, List.mem_of_getElem? (i := 153) (by decide +kernel), List.mem_of_getElem? (i := 573) (by decide +kernel), List.mem_of_getElem? (i := 574) (by decide +kernel)⟩
theorem lw_p30 : lw_okq (⟨"RaisedDots$Reader", "readCapital", "(I)I"⟩, 8) := ⟨⟨by decide +kernel, by decide +kernel⟩, List.mem_of_getElem? (i := 153) (by decide +kernel), List.mem_of_getElem? (i := 577) (by decide +kernel), List.mem_of_getElem? (i := 578) (by decide +kernel)⟩
theorem lw_p31 : lw_okq (⟨"RaisedDots$Reader", "readFigures", "(I)I"⟩, 8) := ⟨⟨by decide +kernel, by decide +kernel⟩, List.mem_of_getElem? (i := 153) (by decide +kernel), List.mem_of_getElem? (i := 581) (by decide +kernel), List.mem_of_getElem? (i := 582) (by decide +kernel)⟩
def lw_privs_2 : List (MethodName × Nat) := [(⟨"RaisedDots$Layout", "layPiece", "([III)V"⟩, 5), (⟨"RaisedDots$Layout", "lengthOfLast", "()I"⟩, 5), (⟨"RaisedDots$Layout", "addLaid", "(I)V"⟩, 5), (⟨"RaisedDots$Layout", "beginLine", "()V"⟩, 5), (⟨"RaisedDots", "pagesOf", "(I)I"⟩, 10), (⟨"RaisedDots$Reader", "readAt", "(I)I"⟩, 8), (⟨"RaisedDots$Reader", "cellAt", "(I)I"⟩, 8), (⟨"RaisedDots$Reader", "readCapitals", "(I)I"⟩, 8), (⟨"RaisedDots$Reader", "isRule", "(I)Z"⟩, 8), (⟨"RaisedDots$Reader", "addLetters", "(II)V"⟩, 8), (⟨"RaisedDots$Reader", "addSign", "(I)V"⟩, 8), (⟨"RaisedDots$Reader", "failWrongAt", "(I)V"⟩, 8), (⟨"RaisedDots$Reader", "isNoSuchCell", "(I)Z"⟩, 8), (⟨"RaisedDots$Reader", "failAt", "(II)V"⟩, 8), (⟨"RaisedDots$Reader", "readCapital", "(I)I"⟩, 8), (⟨"RaisedDots$Reader", "readFigures", "(I)I"⟩, 8)]
theorem lw_r2 : ∀ q ∈ lw_privs_2, lw_okq q := List.forall_mem_cons.mpr ⟨lw_p16, List.forall_mem_cons.mpr ⟨lw_p17, List.forall_mem_cons.mpr ⟨lw_p18, List.forall_mem_cons.mpr ⟨lw_p19, List.forall_mem_cons.mpr ⟨lw_p20, List.forall_mem_cons.mpr ⟨lw_p21, List.forall_mem_cons.mpr ⟨lw_p22, List.forall_mem_cons.mpr ⟨lw_p23, List.forall_mem_cons.mpr ⟨lw_p24, List.forall_mem_cons.mpr ⟨lw_p25, List.forall_mem_cons.mpr ⟨lw_p26, List.forall_mem_cons.mpr ⟨lw_p27, List.forall_mem_cons.mpr ⟨lw_p28, List.forall_mem_cons.mpr ⟨lw_p29, List.forall_mem_cons.mpr ⟨lw_p30, List.forall_mem_cons.mpr ⟨lw_p31, fun _ h => absurd h List.not_mem_nil⟩⟩⟩⟩⟩⟩⟩⟩⟩⟩⟩⟩⟩⟩⟩⟩
theorem lw_p32 : lw_okq (⟨"RaisedDots$Reader", "checkLetters", "(I)V"⟩, 8) := ⟨⟨by decide +kernel, by decide +kernel⟩, List.mem_of_getElem? (i := 153) (by decide +kernel), List.mem_of_getElem? (i := 597) (by decide +kernel), List.mem_of_getElem? (i := 598) (by decide +kernel)⟩
theorem lw_p33 : lw_okq (⟨"RaisedDots$Reader", "isBehindFigures", "(I)Z"⟩, 8) := ⟨⟨by decide +kernel, by decide +kernel⟩, List.mem_of_getElem? (i := 153) (by decide +kernel), List.mem_of_getElem? (i := 601) (by decide +kernel), List.mem_of_getElem? (i := 602) (by decide +kernel)⟩
theorem lw_p34 : lw_okq (⟨"RaisedDots$Reader", "readPlain", "(II)V"⟩, 8) := ⟨⟨by decide +kernel, by decide +kernel⟩, List.mem_of_getElem? (i := 153) (by decide +kernel), List.mem_of_getElem? (i := 605) (by decide +kernel), List.mem_of_getElem? (i := 606) (by decide +kernel)⟩
theorem lw_p35 : lw_okq (⟨"RaisedDotsModel", "isTaken", "(II)Z"⟩, 22) := ⟨⟨by decide +kernel, by decide +kernel⟩, List.mem_of_getElem? (i := 634) (by decide +kernel), List.mem_of_getElem? (i := 729) (by decide +kernel), List.mem_of_getElem? (i := 730) (by decide +kernel)⟩
theorem lw_p36 : lw_okq (⟨"RaisedDotsModel", "note", "()V"⟩, 22) := ⟨⟨by decide +kernel, by decide +kernel⟩, List.mem_of_getElem? (i := 634) (by decide +kernel), List.mem_of_getElem? (i := 735) (by decide +kernel), List.mem_of_getElem? (i := 736) (by decide +kernel)⟩
theorem lw_p37 : lw_okq (⟨"RaisedDotsModel", "addRule", "(III)V"⟩, 22) := ⟨⟨by decide +kernel, by decide +kernel⟩, List.mem_of_getElem? (i := 634) (by decide +kernel), List.mem_of_getElem? (i := 739) (by decide +kernel), List.mem_of_getElem? (i := 740) (by decide +kernel)⟩
theorem lw_p38 : lw_okq (⟨"RaisedDotsModel", "isRule", "(I)Z"⟩, 22) := ⟨⟨by decide +kernel, by decide +kernel⟩, List.mem_of_getElem? (i := 634) (by decide +kernel), List.mem_of_getElem? (i := 747) (by decide +kernel), List.mem_of_getElem? (i := 748) (by decide +kernel)⟩
theorem lw_p39 : lw_okq (⟨"RaisedDotsModel", "lotOf", "(I)I"⟩, 22) := ⟨⟨by decide +kernel, by decide +kernel⟩, List.mem_of_getElem? (i := 634) (by decide +kernel), List.mem_of_getElem? (i := 764) (by decide +kernel), List.mem_of_getElem? (i := 765) (by decide +kernel)⟩
theorem lw_p40 : lw_okq (⟨"RaisedDotsModel", "words", "()I"⟩, 22) := ⟨⟨by decide +kernel, by decide +kernel⟩, List.mem_of_getElem? (i := 634) (by decide +kernel), List.mem_of_getElem? (i := 807) (by decide +kernel), List.mem_of_getElem? (i := 808) (by decide +kernel)⟩
theorem lw_p41 : lw_okq (⟨"RaisedDotsModel", "sign0", "(I)I"⟩, 22) := ⟨⟨by decide +kernel, by decide +kernel⟩, List.mem_of_getElem? (i := 634) (by decide +kernel), List.mem_of_getElem? (i := 811) (by decide +kernel), List.mem_of_getElem? (i := 812) (by decide +kernel)⟩
theorem lw_p42 : lw_okq (⟨"RaisedDotsModel", "wordFrom", "(I)I"⟩, 22) := ⟨⟨by decide +kernel, by decide +kernel⟩, List.mem_of_getElem? (i := 634) (by decide +kernel), List.mem_of_getElem? (i := 815) (by decide +kernel), List.mem_of_getElem? (i := 816) (by decide +kernel)⟩
theorem lw_p43 : lw_okq (⟨"RaisedDotsModel", "cellsOf", "()I"⟩, 22) := ⟨⟨by decide +kernel, by decide +kernel⟩, List.mem_of_getElem? (i := 634) (by decide +kernel), List.mem_of_getElem? (i := 819) (by decide +kernel), List.mem_of_getElem? (i := 820) (by decide +kernel)⟩
theorem lw_p44 : lw_okq (⟨"RaisedDotsModel", "putAll", "(I)V"⟩, 22) := ⟨⟨by decide +kernel, by decide +kernel⟩, List.mem_of_getElem? (i := 634) (by decide +kernel), List.mem_of_getElem? (i := 823) (by decide +kernel), List.mem_of_getElem? (i := 824) (by decide +kernel)⟩
theorem lw_p45 : lw_okq (⟨"RaisedDotsModel", "wordTo", "(I)I"⟩, 22) := ⟨⟨by decide +kernel, by decide +kernel⟩, List.mem_of_getElem? (i := 634) (by decide +kernel), List.mem_of_getElem? (i := 827) (by decide +kernel), List.mem_of_getElem? (i := 828) (by decide +kernel)⟩
theorem lw_p46 : lw_okq (⟨"RaisedDotsModel", "putWord", "(III)V"⟩, 22) := ⟨⟨by decide +kernel, by decide +kernel⟩, List.mem_of_getElem? (i := 634) (by decide +kernel), List.mem_of_getElem? (i := 831) (by decide +kernel), List.mem_of_getElem? (i := 832) (by decide +kernel)⟩
theorem lw_p47 : lw_okq (⟨"RaisedDotsModel", "isAllGreat", "(II)Z"⟩, 22) := ⟨⟨by decide +kernel, by decide +kernel⟩, List.mem_of_getElem? (i := 634) (by decide +kernel), List.mem_of_getElem? (i := 835) (by decide +kernel), List.mem_of_getElem? (i := 836) (by decide +kernel)⟩
def lw_privs_3 : List (MethodName × Nat) := [(⟨"RaisedDots$Reader", "checkLetters", "(I)V"⟩, 8), (⟨"RaisedDots$Reader", "isBehindFigures", "(I)Z"⟩, 8), (⟨"RaisedDots$Reader", "readPlain", "(II)V"⟩, 8), (⟨"RaisedDotsModel", "isTaken", "(II)Z"⟩, 22), (⟨"RaisedDotsModel", "note", "()V"⟩, 22), (⟨"RaisedDotsModel", "addRule", "(III)V"⟩, 22), (⟨"RaisedDotsModel", "isRule", "(I)Z"⟩, 22), (⟨"RaisedDotsModel", "lotOf", "(I)I"⟩, 22), (⟨"RaisedDotsModel", "words", "()I"⟩, 22), (⟨"RaisedDotsModel", "sign0", "(I)I"⟩, 22), (⟨"RaisedDotsModel", "wordFrom", "(I)I"⟩, 22), (⟨"RaisedDotsModel", "cellsOf", "()I"⟩, 22), (⟨"RaisedDotsModel", "putAll", "(I)V"⟩, 22), (⟨"RaisedDotsModel", "wordTo", "(I)I"⟩, 22), (⟨"RaisedDotsModel", "putWord", "(III)V"⟩, 22), (⟨"RaisedDotsModel", "isAllGreat", "(II)Z"⟩, 22)]
theorem lw_r3 : ∀ q ∈ lw_privs_3, lw_okq q := List.forall_mem_cons.mpr ⟨lw_p32, List.forall_mem_cons.mpr ⟨lw_p33, List.forall_mem_cons.mpr ⟨lw_p34, List.forall_mem_cons.mpr ⟨lw_p35, List.forall_mem_cons.mpr ⟨lw_p36, List.forall_mem_cons.mpr ⟨lw_p37, List.forall_mem_cons.mpr ⟨lw_p38, List.forall_mem_cons.mpr ⟨lw_p39, List.forall_mem_cons.mpr ⟨lw_p40, List.forall_mem_cons.mpr ⟨lw_p41, List.forall_mem_cons.mpr ⟨lw_p42, List.forall_mem_cons.mpr ⟨lw_p43, List.forall_mem_cons.mpr ⟨lw_p44, List.forall_mem_cons.mpr ⟨lw_p45, List.forall_mem_cons.mpr ⟨lw_p46, List.forall_mem_cons.mpr ⟨lw_p47, fun _ h => absurd h List.not_mem_nil⟩⟩⟩⟩⟩⟩⟩⟩⟩⟩⟩⟩⟩⟩⟩⟩
theorem lw_p48 : lw_okq (⟨"RaisedDotsModel", "addCell", "(I)V"⟩, 22) := ⟨⟨by decide +kernel, by decide +kernel⟩, List.mem_of_getElem? (i := 634) (by decide +kernel), List.mem_of_getElem? (i := 839) (by decide +kernel), List.mem_of_getElem? (i := 840) (by decide +kernel)⟩
theorem lw_p49 : lw_okq (⟨"RaisedDotsModel", "ruleAt", "(IIIZI)I"⟩, 22) := ⟨⟨by decide +kernel, by decide +kernel⟩, List.mem_of_getElem? (i := 634) (by decide +kernel), List.mem_of_getElem? (i := 843) (by decide +kernel), List.mem_of_getElem? (i := 844) (by decide +kernel)⟩
theorem lw_p50 : lw_okq (⟨"RaisedDotsModel", "mayServe", "(IIIIZ)Z"⟩, 22) := ⟨⟨by decide +kernel, by decide +kernel⟩, List.mem_of_getElem? (i := 634) (by decide +kernel), List.mem_of_getElem? (i := 847) (by decide +kernel), List.mem_of_getElem? (i := 848) (by decide +kernel)⟩
theorem lw_p51 : lw_okq (⟨"RaisedDotsModel", "wantsLetters", "(I)Z"⟩, 22) := ⟨⟨by decide +kernel, by decide +kernel⟩, List.mem_of_getElem? (i := 634) (by decide +kernel), List.mem_of_getElem? (i := 854) (by decide +kernel), List.mem_of_getElem? (i := 855) (by decide +kernel)⟩
theorem lw_p52 : lw_okq (⟨"RaisedDotsModel", "isBehindFigures", "(I)Z"⟩, 22) := ⟨⟨by decide +kernel, by decide +kernel⟩, List.mem_of_getElem? (i := 634) (by decide +kernel), List.mem_of_getElem? (i := 859) (by decide +kernel), List.mem_of_getElem? (i := 860) (by decide +kernel)⟩
theorem lw_p53 : lw_okq (⟨"RaisedDotsModel", "putSign", "(I)V"⟩, 22) := ⟨⟨by decide +kernel, by decide +kernel⟩, List.mem_of_getElem? (i := 634) (by decide +kernel), List.mem_of_getElem? (i := 863) (by decide +kernel), List.mem_of_getElem? (i := 864) (by decide +kernel)⟩
theorem lw_p54 : lw_okq (⟨"RaisedDotsModel", "isJoint", "(I)Z"⟩, 22) := ⟨⟨by decide +kernel, by decide +kernel⟩, List.mem_of_getElem? (i := 634) (by decide +kernel), List.mem_of_getElem? (i := 867) (by decide +kernel), List.mem_of_getElem? (i := 868) (by decide +kernel)⟩
theorem lw_p55 : lw_okq (⟨"RaisedDotsModel", "fewest", "()I"⟩, 22) := ⟨⟨by decide +kernel, by decide +kernel⟩, List.mem_of_getElem? (i := 634) (by decide +kernel), List.mem_of_getElem? (i := 871) (by decide +kernel), List.mem_of_getElem? (i := 872) (by decide +kernel)⟩
theorem lw_p56 : lw_okq (⟨"RaisedDotsModel", "fewestOf", "(II)I"⟩, 22) := ⟨⟨by decide +kernel, by decide +kernel⟩, List.mem_of_getElem? (i := 634) (by decide +kernel), List.mem_of_getElem? (i := 875) (by decide +kernel), List.mem_of_getElem? (i := 876) (by decide +kernel)⟩
theorem lw_p57 : lw_okq (⟨"RaisedDotsModel", "linesOf", "()I"⟩, 22) := ⟨⟨by decide +kernel, by decide +kernel⟩, List.mem_of_getElem? (i := 634) (by decide +kernel), List.mem_of_getElem? (i := 879) (by decide +kernel), List.mem_of_getElem? (i := 880) (by decide +kernel)⟩
theorem lw_p58 : lw_okq (⟨"RaisedDotsModel", "layLines", "(II)V"⟩, 22) := ⟨⟨by decide +kernel, by decide +kernel⟩, List.mem_of_getElem? (i := 634) (by decide +kernel), List.mem_of_getElem? (i := 883) (by decide +kernel), List.mem_of_getElem? (i := 884) (by decide +kernel)⟩
theorem lw_p59 : lw_okq (⟨"RaisedDotsModel", "layCell", "(III)V"⟩, 22) := ⟨⟨by decide +kernel, by decide +kernel⟩, List.mem_of_getElem? (i := 634) (by decide +kernel), List.mem_of_getElem? (i := 887) (by decide +kernel), List.mem_of_getElem? (i := 888) (by decide +kernel)⟩
theorem lw_p60 : lw_okq (⟨"RaisedDotsModel", "pagesOf", "()I"⟩, 22) := ⟨⟨by decide +kernel, by decide +kernel⟩, List.mem_of_getElem? (i := 634) (by decide +kernel), List.mem_of_getElem? (i := 891) (by decide +kernel), List.mem_of_getElem? (i := 892) (by decide +kernel)⟩
theorem lw_p61 : lw_okq (⟨"RaisedDotsModel", "cellsWithout", "(I)I"⟩, 22) := ⟨⟨by decide +kernel, by decide +kernel⟩, List.mem_of_getElem? (i := 634) (by decide +kernel), List.mem_of_getElem? (i := 907) (by decide +kernel), List.mem_of_getElem? (i := 908) (by decide +kernel)⟩
theorem lw_p62 : lw_okq (⟨"RaisedDotsModel", "ruleBy", "(I)I"⟩, 22) := ⟨⟨by decide +kernel, by decide +kernel⟩, List.mem_of_getElem? (i := 634) (by decide +kernel), List.mem_of_getElem? (i := 916) (by decide +kernel), List.mem_of_getElem? (i := 917) (by decide +kernel)⟩
theorem lw_p63 : lw_okq (⟨"RaisedDotsModel", "readAll", "()I"⟩, 22) := ⟨⟨by decide +kernel, by decide +kernel⟩, List.mem_of_getElem? (i := 634) (by decide +kernel), List.mem_of_getElem? (i := 932) (by decide +kernel), List.mem_of_getElem? (i := 933) (by decide +kernel)⟩
def lw_privs_4 : List (MethodName × Nat) := [(⟨"RaisedDotsModel", "addCell", "(I)V"⟩, 22), (⟨"RaisedDotsModel", "ruleAt", "(IIIZI)I"⟩, 22), (⟨"RaisedDotsModel", "mayServe", "(IIIIZ)Z"⟩, 22), (⟨"RaisedDotsModel", "wantsLetters", "(I)Z"⟩, 22), (⟨"RaisedDotsModel", "isBehindFigures", "(I)Z"⟩, 22), (⟨"RaisedDotsModel", "putSign", "(I)V"⟩, 22), (⟨"RaisedDotsModel", "isJoint", "(I)Z"⟩, 22), (⟨"RaisedDotsModel", "fewest", "()I"⟩, 22), (⟨"RaisedDotsModel", "fewestOf", "(II)I"⟩, 22), (⟨"RaisedDotsModel", "linesOf", "()I"⟩, 22), (⟨"RaisedDotsModel", "layLines", "(II)V"⟩, 22), (⟨"RaisedDotsModel", "layCell", "(III)V"⟩, 22), (⟨"RaisedDotsModel", "pagesOf", "()I"⟩, 22), (⟨"RaisedDotsModel", "cellsWithout", "(I)I"⟩, 22), (⟨"RaisedDotsModel", "ruleBy", "(I)I"⟩, 22), (⟨"RaisedDotsModel", "readAll", "()I"⟩, 22)]
theorem lw_r4 : ∀ q ∈ lw_privs_4, lw_okq q := List.forall_mem_cons.mpr ⟨lw_p48, List.forall_mem_cons.mpr ⟨lw_p49, List.forall_mem_cons.mpr ⟨lw_p50, List.forall_mem_cons.mpr ⟨lw_p51, List.forall_mem_cons.mpr ⟨lw_p52, List.forall_mem_cons.mpr ⟨lw_p53, List.forall_mem_cons.mpr ⟨lw_p54, List.forall_mem_cons.mpr ⟨lw_p55, List.forall_mem_cons.mpr ⟨lw_p56, List.forall_mem_cons.mpr ⟨lw_p57, List.forall_mem_cons.mpr ⟨lw_p58, List.forall_mem_cons.mpr ⟨lw_p59, List.forall_mem_cons.mpr ⟨lw_p60, List.forall_mem_cons.mpr ⟨lw_p61, List.forall_mem_cons.mpr ⟨lw_p62, List.forall_mem_cons.mpr ⟨lw_p63, fun _ h => absurd h List.not_mem_nil⟩⟩⟩⟩⟩⟩⟩⟩⟩⟩⟩⟩⟩⟩⟩⟩
theorem lw_p64 : lw_okq (⟨"RaisedDotsModel", "readOne", "()I"⟩, 22) := ⟨⟨by decide +kernel, by decide +kernel⟩, List.mem_of_getElem? (i := 634) (by decide +kernel), List.mem_of_getElem? (i := 936) (by decide +kernel), List.mem_of_getElem? (i := 937) (by decide +kernel)⟩
theorem lw_p65 : lw_okq (⟨"RaisedDotsModel", "feltAt", "(I)I"⟩, 22) := ⟨⟨by decide +kernel, by decide +kernel⟩, List.mem_of_getElem? (i := 634) (by decide +kernel), List.mem_of_getElem? (i := 940) (by decide +kernel), List.mem_of_getElem? (i := 941) (by decide +kernel)⟩
theorem lw_p66 : lw_okq (⟨"RaisedDotsModel", "isRuleCell", "(I)Z"⟩, 22) := ⟨⟨by decide +kernel, by decide +kernel⟩, List.mem_of_getElem? (i := 634) (by decide +kernel), List.mem_of_getElem? (i := 948) (by decide +kernel), List.mem_of_getElem? (i := 949) (by decide +kernel)⟩
theorem lw_p67 : lw_okq (⟨"RaisedDotsModel", "giveLetters", "(IZ)V"⟩, 22) := ⟨⟨by decide +kernel, by decide +kernel⟩, List.mem_of_getElem? (i := 634) (by decide +kernel), List.mem_of_getElem? (i := 952) (by decide +kernel), List.mem_of_getElem? (i := 953) (by decide +kernel)⟩
theorem lw_p68 : lw_okq (⟨"RaisedDotsModel", "give", "(I)V"⟩, 22) := ⟨⟨by decide +kernel, by decide +kernel⟩, List.mem_of_getElem? (i := 634) (by decide +kernel), List.mem_of_getElem? (i := 956) (by decide +kernel), List.mem_of_getElem? (i := 957) (by decide +kernel)⟩
theorem lw_p69 : lw_okq (⟨"RaisedDotsModel", "readGreat", "()I"⟩, 22) := ⟨⟨by decide +kernel, by decide +kernel⟩, List.mem_of_getElem? (i := 634) (by decide +kernel), List.mem_of_getElem? (i := 960) (by decide +kernel), List.mem_of_getElem? (i := 961) (by decide +kernel)⟩
theorem lw_p70 : lw_okq (⟨"RaisedDotsModel", "faults", "(I)I"⟩, 22) := ⟨⟨by decide +kernel, by decide +kernel⟩, List.mem_of_getElem? (i := 634) (by decide +kernel), List.mem_of_getElem? (i := 964) (by decide +kernel), List.mem_of_getElem? (i := 965) (by decide +kernel)⟩
theorem lw_p71 : lw_okq (⟨"RaisedDotsModel", "readFigures", "()I"⟩, 22) := ⟨⟨by decide +kernel, by decide +kernel⟩, List.mem_of_getElem? (i := 634) (by decide +kernel), List.mem_of_getElem? (i := 968) (by decide +kernel), List.mem_of_getElem? (i := 969) (by decide +kernel)⟩
theorem lw_p72 : lw_okq (⟨"RaisedDotsModel", "readLetters", "()I"⟩, 22) := ⟨⟨by decide +kernel, by decide +kernel⟩, List.mem_of_getElem? (i := 634) (by decide +kernel), List.mem_of_getElem? (i := 976) (by decide +kernel), List.mem_of_getElem? (i := 977) (by decide +kernel)⟩
def lw_privs_5 : List (MethodName × Nat) := [(⟨"RaisedDotsModel", "readOne", "()I"⟩, 22), (⟨"RaisedDotsModel", "feltAt", "(I)I"⟩, 22), (⟨"RaisedDotsModel", "isRuleCell", "(I)Z"⟩, 22), (⟨"RaisedDotsModel", "giveLetters", "(IZ)V"⟩, 22), (⟨"RaisedDotsModel", "give", "(I)V"⟩, 22), (⟨"RaisedDotsModel", "readGreat", "()I"⟩, 22), (⟨"RaisedDotsModel", "faults", "(I)I"⟩, 22), (⟨"RaisedDotsModel", "readFigures", "()I"⟩, 22), (⟨"RaisedDotsModel", "readLetters", "()I"⟩, 22)]
theorem lw_r5 : ∀ q ∈ lw_privs_5, lw_okq q := List.forall_mem_cons.mpr ⟨lw_p64, List.forall_mem_cons.mpr ⟨lw_p65, List.forall_mem_cons.mpr ⟨lw_p66, List.forall_mem_cons.mpr ⟨lw_p67, List.forall_mem_cons.mpr ⟨lw_p68, List.forall_mem_cons.mpr ⟨lw_p69, List.forall_mem_cons.mpr ⟨lw_p70, List.forall_mem_cons.mpr ⟨lw_p71, List.forall_mem_cons.mpr ⟨lw_p72, fun _ h => absurd h List.not_mem_nil⟩⟩⟩⟩⟩⟩⟩⟩⟩
def lw_privs : List (MethodName × Nat) := lw_privs_1 ++ (lw_privs_2 ++ (lw_privs_3 ++ (lw_privs_4 ++ (lw_privs_5))))
def lw_tbl : List Cond := k2_sels lw_privs ++ tables_1
theorem lw_privs_ok : ∀ q ∈ lw_privs, lw_okq q := by
  show ∀ q ∈ lw_privs_1 ++ (lw_privs_2 ++ (lw_privs_3 ++ (lw_privs_4 ++ (lw_privs_5)))), lw_okq q
  exact List.forall_mem_append.mpr ⟨lw_r1, List.forall_mem_append.mpr ⟨lw_r2, List.forall_mem_append.mpr ⟨lw_r3, List.forall_mem_append.mpr ⟨lw_r4, lw_r5⟩⟩⟩⟩

/-! ===== BEGIN printed: names, fields, word lists, decode rows ===== -/
def RX0 : String := "RaisedDots$Book"
def TX0 : u_T := fun k => match k with
  | 0 => ("RaisedDots$Book", "codes", "[I", true)
  | 1 => ("RaisedDots$Book", "ruleCells", "[I", true)
  | 2 => ("RaisedDots$Book", "kinds", "[I", true)
  | 3 => ("RaisedDots$Book", "signs", "[I", true)
  | 4 => ("RaisedDots$Book", "ruleCount", "I", false)
  | 5 => ("RaisedDots$Book", "signCount", "I", false)
  | 6 => ("RaisedDots$Book", "width", "I", false)
  | _ => ("RaisedDots$Book", "height", "I", false)
def tyX0 : Nat → FieldType := fun k => match k with
  | 0 => .array .int
  | 1 => .array .int
  | 2 => .array .int
  | 3 => .array .int
  | 4 => .int
  | 5 => .int
  | 6 => .int
  | _ => .int
abbrev wsX00 : List Cond := u_ws RX0 TX0 8
theorem nmX0 : ∀ a, a < 8 → ∀ b, b < 8 → a ≠ b → (TX0 a).2.1 ≠ (TX0 b).2.1 := by decide +kernel
theorem tyX0_ok : ∀ k, k < 8 → parseFieldDescriptor (TX0 k).2.2.1 = some (tyX0 k) := by decide +kernel
abbrev cX0_init : ByteArray := prog_2_method_1_code
def yX0_init : MethodName := ⟨RX0, "<init>", "()V"⟩
abbrev cX0_copyFrom : ByteArray := prog_2_method_2_code
def yX0_copyFrom : MethodName := ⟨RX0, "copyFrom", "(LRaisedDots$Book;)V"⟩
abbrev cX0_hasRule : ByteArray := prog_2_method_3_code
def yX0_hasRule : MethodName := ⟨RX0, "hasRule", "(I)Z"⟩
abbrev cX0_ruleOfCell : ByteArray := prog_2_method_4_code
def yX0_ruleOfCell : MethodName := ⟨RX0, "ruleOfCell", "(I)I"⟩
abbrev cX0_ruleOfCode : ByteArray := prog_2_method_5_code
def yX0_ruleOfCode : MethodName := ⟨RX0, "ruleOfCode", "(I)I"⟩
abbrev cX0_isTaken : ByteArray := prog_2_method_6_code
def yX0_isTaken : MethodName := ⟨RX0, "isTaken", "(II)Z"⟩
abbrev cX0_addRule : ByteArray := prog_2_method_7_code
def yX0_addRule : MethodName := ⟨RX0, "addRule", "(III)V"⟩
abbrev cX0_removeRule : ByteArray := prog_2_method_8_code
def yX0_removeRule : MethodName := ⟨RX0, "removeRule", "(I)V"⟩
abbrev cX0_addSign : ByteArray := prog_2_method_9_code
def yX0_addSign : MethodName := ⟨RX0, "addSign", "(I)V"⟩
abbrev cX0_signAt : ByteArray := prog_2_method_10_code
def yX0_signAt : MethodName := ⟨RX0, "signAt", "(I)I"⟩
abbrev cX0_wordBeginsAt : ByteArray := prog_2_method_11_code
def yX0_wordBeginsAt : MethodName := ⟨RX0, "wordBeginsAt", "(I)Z"⟩
abbrev cX0_endOfWord : ByteArray := prog_2_method_12_code
def yX0_endOfWord : MethodName := ⟨RX0, "endOfWord", "(I)I"⟩
abbrev cX0_wordCount : ByteArray := prog_2_method_13_code
def yX0_wordCount : MethodName := ⟨RX0, "wordCount", "()I"⟩
abbrev cX0_isBehindFigures : ByteArray := prog_2_method_14_code
def yX0_isBehindFigures : MethodName := ⟨RX0, "isBehindFigures", "(I)Z"⟩
def RX1 : String := "RaisedDots$History"
def TX1 : u_T := fun k => match k with
  | 0 => ("RaisedDots$History", "past", "[LRaisedDots$Book;", true)
  | 1 => ("RaisedDots$History", "next", "I", false)
  | _ => ("RaisedDots$History", "count", "I", false)
def tyX1 : Nat → FieldType := fun k => match k with
  | 0 => .array (.object "RaisedDots$Book")
  | 1 => .int
  | _ => .int
abbrev wsX10 : List Cond := u_ws RX1 TX1 3
theorem nmX1 : ∀ a, a < 3 → ∀ b, b < 3 → a ≠ b → (TX1 a).2.1 ≠ (TX1 b).2.1 := by decide +kernel
theorem tyX1_ok : ∀ k, k < 3 → parseFieldDescriptor (TX1 k).2.2.1 = some (tyX1 k) := by decide +kernel
abbrev cX1_init : ByteArray := prog_3_method_1_code
def yX1_init : MethodName := ⟨RX1, "<init>", "()V"⟩
abbrev cX1_remember : ByteArray := prog_3_method_2_code
def yX1_remember : MethodName := ⟨RX1, "remember", "(LRaisedDots$Book;)V"⟩
abbrev cX1_takeBack : ByteArray := prog_3_method_3_code
def yX1_takeBack : MethodName := ⟨RX1, "takeBack", "(LRaisedDots$Book;)V"⟩
abbrev cX1_forget : ByteArray := prog_3_method_4_code
def yX1_forget : MethodName := ⟨RX1, "forget", "()V"⟩
def RX2 : String := "RaisedDots$Layout"
def TX2 : u_T := fun k => match k with
  | 0 => ("RaisedDots$Layout", "laid", "[I", true)
  | 1 => ("RaisedDots$Layout", "lineBegin", "[I", true)
  | 2 => ("RaisedDots$Layout", "lines", "I", false)
  | 3 => ("RaisedDots$Layout", "laidCount", "I", false)
  | _ => ("RaisedDots$Layout", "width", "I", false)
def tyX2 : Nat → FieldType := fun k => match k with
  | 0 => .array .int
  | 1 => .array .int
  | 2 => .int
  | 3 => .int
  | _ => .int
abbrev wsX20 : List Cond := u_ws RX2 TX2 5
theorem nmX2 : ∀ a, a < 5 → ∀ b, b < 5 → a ≠ b → (TX2 a).2.1 ≠ (TX2 b).2.1 := by decide +kernel
theorem tyX2_ok : ∀ k, k < 5 → parseFieldDescriptor (TX2 k).2.2.1 = some (tyX2 k) := by decide +kernel
abbrev cX2_init : ByteArray := prog_4_method_1_code
def yX2_init : MethodName := ⟨RX2, "<init>", "()V"⟩
abbrev cX2_lay : ByteArray := prog_4_method_2_code
def yX2_lay : MethodName := ⟨RX2, "lay", "([III)I"⟩
abbrev cX2_cellOf : ByteArray := prog_4_method_3_code
def yX2_cellOf : MethodName := ⟨RX2, "cellOf", "(II)I"⟩
abbrev cX2_endOfPiece : ByteArray := prog_4_method_4_code
def yX2_endOfPiece : MethodName := ⟨RX2, "endOfPiece", "([III)I"⟩
abbrev cX2_layPiece : ByteArray := prog_4_method_5_code
def yX2_layPiece : MethodName := ⟨RX2, "layPiece", "([III)V"⟩
abbrev cX2_lengthOfLast : ByteArray := prog_4_method_6_code
def yX2_lengthOfLast : MethodName := ⟨RX2, "lengthOfLast", "()I"⟩
abbrev cX2_beginLine : ByteArray := prog_4_method_7_code
def yX2_beginLine : MethodName := ⟨RX2, "beginLine", "()V"⟩
abbrev cX2_addLaid : ByteArray := prog_4_method_8_code
def yX2_addLaid : MethodName := ⟨RX2, "addLaid", "(I)V"⟩
def RX3 : String := "RaisedDots$Lots"
def TX3 : u_T := fun k => match k with
  | _ => ("RaisedDots$Lots", "x", "J", false)
def tyX3 : Nat → FieldType := fun k => match k with
  | _ => .long
abbrev wsX30 : List Cond := u_ws RX3 TX3 1
theorem nmX3 : ∀ a, a < 1 → ∀ b, b < 1 → a ≠ b → (TX3 a).2.1 ≠ (TX3 b).2.1 := by decide +kernel
theorem tyX3_ok : ∀ k, k < 1 → parseFieldDescriptor (TX3 k).2.2.1 = some (tyX3 k) := by decide +kernel
abbrev cX3_init : ByteArray := prog_5_method_1_code
def yX3_init : MethodName := ⟨RX3, "<init>", "()V"⟩
abbrev cX3_begin : ByteArray := prog_5_method_2_code
def yX3_begin : MethodName := ⟨RX3, "begin", "(I)V"⟩
abbrev cX3_next : ByteArray := prog_5_method_3_code
def yX3_next : MethodName := ⟨RX3, "next", "()I"⟩
def RX4 : String := "RaisedDots$Reader"
def TX4 : u_T := fun k => match k with
  | 0 => ("RaisedDots$Reader", "signs", "[I", true)
  | 1 => ("RaisedDots$Reader", "count", "I", false)
  | 2 => ("RaisedDots$Reader", "faultKind", "I", false)
  | 3 => ("RaisedDots$Reader", "faultAt", "I", false)
  | 4 => ("RaisedDots$Reader", "book", "LRaisedDots$Book;", true)
  | 5 => ("RaisedDots$Reader", "cells", "[I", true)
  | 6 => ("RaisedDots$Reader", "cellCount", "I", false)
  | _ => ("RaisedDots$Reader", "figuresEnd", "I", false)
def tyX4 : Nat → FieldType := fun k => match k with
  | 0 => .array .int
  | 1 => .int
  | 2 => .int
  | 3 => .int
  | 4 => .object "RaisedDots$Book"
  | 5 => .array .int
  | 6 => .int
  | _ => .int
abbrev wsX40 : List Cond := u_ws RX4 TX4 8
theorem nmX4 : ∀ a, a < 8 → ∀ b, b < 8 → a ≠ b → (TX4 a).2.1 ≠ (TX4 b).2.1 := by decide +kernel
theorem tyX4_ok : ∀ k, k < 8 → parseFieldDescriptor (TX4 k).2.2.1 = some (tyX4 k) := by decide +kernel
abbrev cX4_init : ByteArray := prog_6_method_1_code
def yX4_init : MethodName := ⟨RX4, "<init>", "(LRaisedDots$Book;[I)V"⟩
abbrev cX4_readBack : ByteArray := prog_6_method_2_code
def yX4_readBack : MethodName := ⟨RX4, "readBack", "(I)V"⟩
abbrev cX4_readAt : ByteArray := prog_6_method_3_code
def yX4_readAt : MethodName := ⟨RX4, "readAt", "(I)I"⟩
abbrev cX4_cellAt : ByteArray := prog_6_method_4_code
def yX4_cellAt : MethodName := ⟨RX4, "cellAt", "(I)I"⟩
abbrev cX4_isRule : ByteArray := prog_6_method_5_code
def yX4_isRule : MethodName := ⟨RX4, "isRule", "(I)Z"⟩
abbrev cX4_isNoSuchCell : ByteArray := prog_6_method_6_code
def yX4_isNoSuchCell : MethodName := ⟨RX4, "isNoSuchCell", "(I)Z"⟩
abbrev cX4_addSign : ByteArray := prog_6_method_7_code
def yX4_addSign : MethodName := ⟨RX4, "addSign", "(I)V"⟩
abbrev cX4_failAt : ByteArray := prog_6_method_8_code
def yX4_failAt : MethodName := ⟨RX4, "failAt", "(II)V"⟩
abbrev cX4_failWrongAt : ByteArray := prog_6_method_9_code
def yX4_failWrongAt : MethodName := ⟨RX4, "failWrongAt", "(I)V"⟩
abbrev cX4_readPlain : ByteArray := prog_6_method_10_code
def yX4_readPlain : MethodName := ⟨RX4, "readPlain", "(II)V"⟩
abbrev cX4_addLetters : ByteArray := prog_6_method_11_code
def yX4_addLetters : MethodName := ⟨RX4, "addLetters", "(II)V"⟩
abbrev cX4_readCapital : ByteArray := prog_6_method_12_code
def yX4_readCapital : MethodName := ⟨RX4, "readCapital", "(I)I"⟩
abbrev cX4_readCapitals : ByteArray := prog_6_method_13_code
def yX4_readCapitals : MethodName := ⟨RX4, "readCapitals", "(I)I"⟩
abbrev cX4_readFigures : ByteArray := prog_6_method_14_code
def yX4_readFigures : MethodName := ⟨RX4, "readFigures", "(I)I"⟩
abbrev cX4_checkLetters : ByteArray := prog_6_method_15_code
def yX4_checkLetters : MethodName := ⟨RX4, "checkLetters", "(I)V"⟩
abbrev cX4_isBehindFigures : ByteArray := prog_6_method_16_code
def yX4_isBehindFigures : MethodName := ⟨RX4, "isBehindFigures", "(I)Z"⟩
def RX5 : String := "RaisedDots$Writer"
def TX5 : u_T := fun k => match k with
  | 0 => ("RaisedDots$Writer", "cells", "[I", true)
  | 1 => ("RaisedDots$Writer", "served", "[I", true)
  | 2 => ("RaisedDots$Writer", "firstServed", "[I", true)
  | 3 => ("RaisedDots$Writer", "book", "LRaisedDots$Book;", true)
  | 4 => ("RaisedDots$Writer", "count", "I", false)
  | 5 => ("RaisedDots$Writer", "without", "I", false)
  | 6 => ("RaisedDots$Writer", "wordCells", "I", false)
  | 7 => ("RaisedDots$Writer", "wordBegin", "I", false)
  | 8 => ("RaisedDots$Writer", "wordEnd", "I", false)
  | 9 => ("RaisedDots$Writer", "wordIsCapitals", "Z", false)
  | 10 => ("RaisedDots$Writer", "small", "[I", true)
  | _ => ("RaisedDots$Writer", "fewestFrom", "[I", true)
def tyX5 : Nat → FieldType := fun k => match k with
  | 0 => .array .int
  | 1 => .array .int
  | 2 => .array .int
  | 3 => .object "RaisedDots$Book"
  | 4 => .int
  | 5 => .int
  | 6 => .int
  | 7 => .int
  | 8 => .int
  | 9 => .boolean
  | 10 => .array .int
  | _ => .array .int
abbrev wsX50 : List Cond := u_ws RX5 TX5 12
theorem nmX5 : ∀ a, a < 12 → ∀ b, b < 12 → a ≠ b → (TX5 a).2.1 ≠ (TX5 b).2.1 := by decide +kernel
theorem tyX5_ok : ∀ k, k < 12 → parseFieldDescriptor (TX5 k).2.2.1 = some (tyX5 k) := by decide +kernel
abbrev cX5_init : ByteArray := prog_7_method_1_code
def yX5_init : MethodName := ⟨RX5, "<init>", "(LRaisedDots$Book;)V"⟩
abbrev cX5_write : ByteArray := prog_7_method_2_code
def yX5_write : MethodName := ⟨RX5, "write", "(I)I"⟩
abbrev cX5_fewest : ByteArray := prog_7_method_3_code
def yX5_fewest : MethodName := ⟨RX5, "fewest", "()I"⟩
abbrev cX5_begin : ByteArray := prog_7_method_4_code
def yX5_begin : MethodName := ⟨RX5, "begin", "(I)V"⟩
abbrev cX5_addCell : ByteArray := prog_7_method_5_code
def yX5_addCell : MethodName := ⟨RX5, "addCell", "(I)V"⟩
abbrev cX5_writeFigure : ByteArray := prog_7_method_6_code
def yX5_writeFigure : MethodName := ⟨RX5, "writeFigure", "(II)V"⟩
abbrev cX5_enterWord : ByteArray := prog_7_method_7_code
def yX5_enterWord : MethodName := ⟨RX5, "enterWord", "(I)V"⟩
abbrev cX5_writeWord : ByteArray := prog_7_method_8_code
def yX5_writeWord : MethodName := ⟨RX5, "writeWord", "()V"⟩
abbrev cX5_needsLetters : ByteArray := prog_7_method_9_code
def yX5_needsLetters : MethodName := ⟨RX5, "needsLetters", "()Z"⟩
abbrev cX5_writeLetter : ByteArray := prog_7_method_10_code
def yX5_writeLetter : MethodName := ⟨RX5, "writeLetter", "(I)I"⟩
abbrev cX5_writeRule : ByteArray := prog_7_method_11_code
def yX5_writeRule : MethodName := ⟨RX5, "writeRule", "(II)I"⟩
abbrev cX5_servingRule : ByteArray := prog_7_method_12_code
def yX5_servingRule : MethodName := ⟨RX5, "servingRule", "(I)I"⟩
abbrev cX5_ruleAt : ByteArray := prog_7_method_13_code
def yX5_ruleAt : MethodName := ⟨RX5, "ruleAt", "(II)I"⟩
abbrev cX5_mayStand : ByteArray := prog_7_method_14_code
def yX5_mayStand : MethodName := ⟨RX5, "mayStand", "(III)Z"⟩
abbrev cX5_fewestOfWord : ByteArray := prog_7_method_15_code
def yX5_fewestOfWord : MethodName := ⟨RX5, "fewestOfWord", "()I"⟩
def RX6 : String := "RaisedDots"
def TX6 : u_T := fun k => match k with
  | 0 => ("RaisedDots", "now", "LRaisedDots$Book;", true)
  | 1 => ("RaisedDots", "history", "LRaisedDots$History;", true)
  | 2 => ("RaisedDots", "images", "[LRaisedDots$Book;", true)
  | 3 => ("RaisedDots", "kept", "[Z", true)
  | 4 => ("RaisedDots", "writer", "LRaisedDots$Writer;", true)
  | 5 => ("RaisedDots", "layout", "LRaisedDots$Layout;", true)
  | 6 => ("RaisedDots", "felt", "[I", true)
  | 7 => ("RaisedDots", "feltCount", "I", false)
  | 8 => ("RaisedDots", "reader", "LRaisedDots$Reader;", true)
  | _ => ("RaisedDots", "lots", "LRaisedDots$Lots;", true)
def tyX6 : Nat → FieldType := fun k => match k with
  | 0 => .object "RaisedDots$Book"
  | 1 => .object "RaisedDots$History"
  | 2 => .array (.object "RaisedDots$Book")
  | 3 => .array .boolean
  | 4 => .object "RaisedDots$Writer"
  | 5 => .object "RaisedDots$Layout"
  | 6 => .array .int
  | 7 => .int
  | 8 => .object "RaisedDots$Reader"
  | _ => .object "RaisedDots$Lots"
abbrev wsX60 : List Cond := u_ws RX6 TX6 10
theorem nmX6 : ∀ a, a < 10 → ∀ b, b < 10 → a ≠ b → (TX6 a).2.1 ≠ (TX6 b).2.1 := by decide +kernel
theorem tyX6_ok : ∀ k, k < 10 → parseFieldDescriptor (TX6 k).2.2.1 = some (tyX6 k) := by decide +kernel
abbrev cX6_init : ByteArray := prog_1_method_1_code
def yX6_init : MethodName := ⟨RX6, "<init>", "()V"⟩
abbrev cX6_rule : ByteArray := prog_1_method_2_code
def yX6_rule : MethodName := ⟨RX6, "rule", "(III)I"⟩
abbrev cX6_drop : ByteArray := prog_1_method_3_code
def yX6_drop : MethodName := ⟨RX6, "drop", "(I)I"⟩
abbrev cX6_set : ByteArray := prog_1_method_4_code
def yX6_set : MethodName := ⟨RX6, "set", "(II)I"⟩
abbrev cX6_drift : ByteArray := prog_1_method_5_code
def yX6_drift : MethodName := ⟨RX6, "drift", "(II)I"⟩
abbrev cX6_text : ByteArray := prog_1_method_6_code
def yX6_text : MethodName := ⟨RX6, "text", "(I)I"⟩
abbrev cX6_wipe : ByteArray := prog_1_method_7_code
def yX6_wipe : MethodName := ⟨RX6, "wipe", "()I"⟩
abbrev cX6_undo : ByteArray := prog_1_method_8_code
def yX6_undo : MethodName := ⟨RX6, "undo", "()I"⟩
abbrev cX6_told : ByteArray := prog_1_method_9_code
def yX6_told : MethodName := ⟨RX6, "told", "(I)I"⟩
abbrev cX6_cell : ByteArray := prog_1_method_10_code
def yX6_cell : MethodName := ⟨RX6, "cell", "(I)I"⟩
abbrev cX6_line : ByteArray := prog_1_method_11_code
def yX6_line : MethodName := ⟨RX6, "line", "(II)I"⟩
abbrev cX6_ofRule : ByteArray := prog_1_method_12_code
def yX6_ofRule : MethodName := ⟨RX6, "ofRule", "(II)I"⟩
abbrev cX6_by : ByteArray := prog_1_method_13_code
def yX6_by : MethodName := ⟨RX6, "by", "(I)I"⟩
abbrev cX6_feel : ByteArray := prog_1_method_14_code
def yX6_feel : MethodName := ⟨RX6, "feel", "(I)I"⟩
abbrev cX6_feelAll : ByteArray := prog_1_method_15_code
def yX6_feelAll : MethodName := ⟨RX6, "feelAll", "()I"⟩
abbrev cX6_read : ByteArray := prog_1_method_16_code
def yX6_read : MethodName := ⟨RX6, "read", "()I"⟩
abbrev cX6_fault : ByteArray := prog_1_method_17_code
def yX6_fault : MethodName := ⟨RX6, "fault", "()I"⟩
abbrev cX6_sign : ByteArray := prog_1_method_18_code
def yX6_sign : MethodName := ⟨RX6, "sign", "(I)I"⟩
abbrev cX6_rest : ByteArray := prog_1_method_19_code
def yX6_rest : MethodName := ⟨RX6, "rest", "()I"⟩
abbrev cX6_keep : ByteArray := prog_1_method_20_code
def yX6_keep : MethodName := ⟨RX6, "keep", "(I)I"⟩
abbrev cX6_goBack : ByteArray := prog_1_method_21_code
def yX6_goBack : MethodName := ⟨RX6, "goBack", "(I)I"⟩
abbrev cX6_setWidth : ByteArray := prog_1_method_22_code
def yX6_setWidth : MethodName := ⟨RX6, "setWidth", "(I)I"⟩
abbrev cX6_setHeight : ByteArray := prog_1_method_23_code
def yX6_setHeight : MethodName := ⟨RX6, "setHeight", "(I)I"⟩
abbrev cX6_addRuleByLots : ByteArray := prog_1_method_24_code
def yX6_addRuleByLots : MethodName := ⟨RX6, "addRuleByLots", "()V"⟩
abbrev cX6_layLines : ByteArray := prog_1_method_25_code
def yX6_layLines : MethodName := ⟨RX6, "layLines", "()I"⟩
abbrev cX6_pagesOf : ByteArray := prog_1_method_26_code
def yX6_pagesOf : MethodName := ⟨RX6, "pagesOf", "(I)I"⟩
abbrev cX6_isSmall : ByteArray := prog_1_method_27_code
def yX6_isSmall : MethodName := ⟨RX6, "isSmall", "(I)Z"⟩
abbrev cX6_isCapital : ByteArray := prog_1_method_28_code
def yX6_isCapital : MethodName := ⟨RX6, "isCapital", "(I)Z"⟩
abbrev cX6_isOfWord : ByteArray := prog_1_method_29_code
def yX6_isOfWord : MethodName := ⟨RX6, "isOfWord", "(I)Z"⟩
abbrev cX6_letterOf : ByteArray := prog_1_method_30_code
def yX6_letterOf : MethodName := ⟨RX6, "letterOf", "(I)I"⟩
abbrev cX6_isFigure : ByteArray := prog_1_method_31_code
def yX6_isFigure : MethodName := ⟨RX6, "isFigure", "(I)Z"⟩
abbrev cX6_isPointOrComma : ByteArray := prog_1_method_32_code
def yX6_isPointOrComma : MethodName := ⟨RX6, "isPointOrComma", "(I)Z"⟩
abbrev cX6_isSign : ByteArray := prog_1_method_33_code
def yX6_isSign : MethodName := ⟨RX6, "isSign", "(I)Z"⟩
abbrev cX6_isCell : ByteArray := prog_1_method_34_code
def yX6_isCell : MethodName := ⟨RX6, "isCell", "(I)Z"⟩
abbrev cX6_isRuleCell : ByteArray := prog_1_method_35_code
def yX6_isRuleCell : MethodName := ⟨RX6, "isRuleCell", "(I)Z"⟩
abbrev cX6_isLetterCell : ByteArray := prog_1_method_36_code
def yX6_isLetterCell : MethodName := ⟨RX6, "isLetterCell", "(I)Z"⟩
abbrev cX6_isFigureCell : ByteArray := prog_1_method_37_code
def yX6_isFigureCell : MethodName := ⟨RX6, "isFigureCell", "(I)Z"⟩
abbrev cX6_isPointOrCommaCell : ByteArray := prog_1_method_38_code
def yX6_isPointOrCommaCell : MethodName := ⟨RX6, "isPointOrCommaCell", "(I)Z"⟩
abbrev cX6_isCode : ByteArray := prog_1_method_39_code
def yX6_isCode : MethodName := ⟨RX6, "isCode", "(I)Z"⟩
abbrev cX6_lettersOf : ByteArray := prog_1_method_40_code
def yX6_lettersOf : MethodName := ⟨RX6, "lettersOf", "(I)I"⟩
abbrev cX6_cellOfMark : ByteArray := prog_1_method_41_code
def yX6_cellOfMark : MethodName := ⟨RX6, "cellOfMark", "(I)I"⟩
abbrev cX6_cellOfFigure : ByteArray := prog_1_method_42_code
def yX6_cellOfFigure : MethodName := ⟨RX6, "cellOfFigure", "(I)I"⟩
abbrev cX6_signOfFigureCell : ByteArray := prog_1_method_43_code
def yX6_signOfFigureCell : MethodName := ⟨RX6, "signOfFigureCell", "(I)I"⟩
abbrev cX6_signOfMarkCell : ByteArray := prog_1_method_44_code
def yX6_signOfMarkCell : MethodName := ⟨RX6, "signOfMarkCell", "(I)I"⟩
def RX7 : String := "RaisedDotsModel"
def TX7 : u_T := fun k => match k with
  | 0 => ("RaisedDotsModel", "st", "[I", true)
  | 1 => ("RaisedDotsModel", "past", "[I", true)
  | 2 => ("RaisedDotsModel", "undoMany", "I", false)
  | 3 => ("RaisedDotsModel", "kept", "[I", true)
  | 4 => ("RaisedDotsModel", "isKept", "[Z", true)
  | 5 => ("RaisedDotsModel", "lot", "J", false)
  | 6 => ("RaisedDotsModel", "cells", "[I", true)
  | 7 => ("RaisedDotsModel", "cellMany", "I", false)
  | 8 => ("RaisedDotsModel", "serves", "[I", true)
  | 9 => ("RaisedDotsModel", "firsts", "[I", true)
  | 10 => ("RaisedDotsModel", "fewestFrom", "[I", true)
  | 11 => ("RaisedDotsModel", "lineMany", "I", false)
  | 12 => ("RaisedDotsModel", "wantedLine", "I", false)
  | 13 => ("RaisedDotsModel", "wantedPlace", "I", false)
  | 14 => ("RaisedDotsModel", "found", "I", false)
  | 15 => ("RaisedDotsModel", "felt", "[I", true)
  | 16 => ("RaisedDotsModel", "feltMany", "I", false)
  | 17 => ("RaisedDotsModel", "signs", "[I", true)
  | 18 => ("RaisedDotsModel", "signMany", "I", false)
  | 19 => ("RaisedDotsModel", "faultAt", "I", false)
  | 20 => ("RaisedDotsModel", "place", "I", false)
  | _ => ("RaisedDotsModel", "figuresTo", "I", false)
def tyX7 : Nat → FieldType := fun k => match k with
  | 0 => .array .int
  | 1 => .array .int
  | 2 => .int
  | 3 => .array .int
  | 4 => .array .boolean
  | 5 => .long
  | 6 => .array .int
  | 7 => .int
  | 8 => .array .int
  | 9 => .array .int
  | 10 => .array .int
  | 11 => .int
  | 12 => .int
  | 13 => .int
  | 14 => .int
  | 15 => .array .int
  | 16 => .int
  | 17 => .array .int
  | 18 => .int
  | 19 => .int
  | 20 => .int
  | _ => .int
abbrev wsX70 : List Cond := u_ws RX7 TX7 22
theorem nmX7 : ∀ a, a < 22 → ∀ b, b < 22 → a ≠ b → (TX7 a).2.1 ≠ (TX7 b).2.1 := by decide +kernel
theorem tyX7_ok : ∀ k, k < 22 → parseFieldDescriptor (TX7 k).2.2.1 = some (tyX7 k) := by decide +kernel
abbrev cX7_init : ByteArray := prog_9_method_1_code
def yX7_init : MethodName := ⟨RX7, "<init>", "()V"⟩
abbrev cX7_in : ByteArray := prog_9_method_2_code
def yX7_in : MethodName := ⟨RX7, "in", "(JJJ)Z"⟩
abbrev cX7_isSmall : ByteArray := prog_9_method_3_code
def yX7_isSmall : MethodName := ⟨RX7, "isSmall", "(I)Z"⟩
abbrev cX7_isGreat : ByteArray := prog_9_method_4_code
def yX7_isGreat : MethodName := ⟨RX7, "isGreat", "(I)Z"⟩
abbrev cX7_isFigure : ByteArray := prog_9_method_5_code
def yX7_isFigure : MethodName := ⟨RX7, "isFigure", "(I)Z"⟩
abbrev cX7_isLetter : ByteArray := prog_9_method_6_code
def yX7_isLetter : MethodName := ⟨RX7, "isLetter", "(I)Z"⟩
abbrev cX7_isRule : ByteArray := prog_9_method_7_code
def yX7_isRule : MethodName := ⟨RX7, "isRule", "(I)Z"⟩
abbrev cX7_lettersOf : ByteArray := prog_9_method_8_code
def yX7_lettersOf : MethodName := ⟨RX7, "lettersOf", "(I)I"⟩
abbrev cX7_letterOf : ByteArray := prog_9_method_9_code
def yX7_letterOf : MethodName := ⟨RX7, "letterOf", "(II)I"⟩
abbrev cX7_isCode : ByteArray := prog_9_method_10_code
def yX7_isCode : MethodName := ⟨RX7, "isCode", "(I)Z"⟩
abbrev cX7_isTaken : ByteArray := prog_9_method_11_code
def yX7_isTaken : MethodName := ⟨RX7, "isTaken", "(II)Z"⟩
abbrev cX7_note : ByteArray := prog_9_method_12_code
def yX7_note : MethodName := ⟨RX7, "note", "()V"⟩
abbrev cX7_addRule : ByteArray := prog_9_method_13_code
def yX7_addRule : MethodName := ⟨RX7, "addRule", "(III)V"⟩
abbrev cX7_rule : ByteArray := prog_9_method_14_code
def yX7_rule : MethodName := ⟨RX7, "rule", "(III)I"⟩
abbrev cX7_drop : ByteArray := prog_9_method_15_code
def yX7_drop : MethodName := ⟨RX7, "drop", "(I)I"⟩
abbrev cX7_set : ByteArray := prog_9_method_16_code
def yX7_set : MethodName := ⟨RX7, "set", "(II)I"⟩
abbrev cX7_lotOf : ByteArray := prog_9_method_17_code
def yX7_lotOf : MethodName := ⟨RX7, "lotOf", "(I)I"⟩
abbrev cX7_drift : ByteArray := prog_9_method_18_code
def yX7_drift : MethodName := ⟨RX7, "drift", "(II)I"⟩
abbrev cX7_isSign : ByteArray := prog_9_method_19_code
def yX7_isSign : MethodName := ⟨RX7, "isSign", "(I)Z"⟩
abbrev cX7_text : ByteArray := prog_9_method_20_code
def yX7_text : MethodName := ⟨RX7, "text", "(I)I"⟩
abbrev cX7_wipe : ByteArray := prog_9_method_21_code
def yX7_wipe : MethodName := ⟨RX7, "wipe", "()I"⟩
abbrev cX7_undo : ByteArray := prog_9_method_22_code
def yX7_undo : MethodName := ⟨RX7, "undo", "()I"⟩
abbrev cX7_sign0 : ByteArray := prog_9_method_23_code
def yX7_sign0 : MethodName := ⟨RX7, "sign0", "(I)I"⟩
abbrev cX7_wordFrom : ByteArray := prog_9_method_24_code
def yX7_wordFrom : MethodName := ⟨RX7, "wordFrom", "(I)I"⟩
abbrev cX7_wordTo : ByteArray := prog_9_method_25_code
def yX7_wordTo : MethodName := ⟨RX7, "wordTo", "(I)I"⟩
abbrev cX7_isAllGreat : ByteArray := prog_9_method_26_code
def yX7_isAllGreat : MethodName := ⟨RX7, "isAllGreat", "(II)Z"⟩
abbrev cX7_addCell : ByteArray := prog_9_method_27_code
def yX7_addCell : MethodName := ⟨RX7, "addCell", "(I)V"⟩
abbrev cX7_mayByKind : ByteArray := prog_9_method_28_code
def yX7_mayByKind : MethodName := ⟨RX7, "mayByKind", "(IIIII)Z"⟩
abbrev cX7_mayServe : ByteArray := prog_9_method_29_code
def yX7_mayServe : MethodName := ⟨RX7, "mayServe", "(IIIIZ)Z"⟩
abbrev cX7_ruleAt : ByteArray := prog_9_method_30_code
def yX7_ruleAt : MethodName := ⟨RX7, "ruleAt", "(IIIZI)I"⟩
abbrev cX7_isBehindFigures : ByteArray := prog_9_method_31_code
def yX7_isBehindFigures : MethodName := ⟨RX7, "isBehindFigures", "(I)Z"⟩
abbrev cX7_wantsLetters : ByteArray := prog_9_method_32_code
def yX7_wantsLetters : MethodName := ⟨RX7, "wantsLetters", "(I)Z"⟩
abbrev cX7_putWord : ByteArray := prog_9_method_33_code
def yX7_putWord : MethodName := ⟨RX7, "putWord", "(III)V"⟩
abbrev cX7_isJoint : ByteArray := prog_9_method_34_code
def yX7_isJoint : MethodName := ⟨RX7, "isJoint", "(I)Z"⟩
abbrev cX7_putSign : ByteArray := prog_9_method_35_code
def yX7_putSign : MethodName := ⟨RX7, "putSign", "(I)V"⟩
abbrev cX7_putAll : ByteArray := prog_9_method_36_code
def yX7_putAll : MethodName := ⟨RX7, "putAll", "(I)V"⟩
abbrev cX7_fewestOf : ByteArray := prog_9_method_37_code
def yX7_fewestOf : MethodName := ⟨RX7, "fewestOf", "(II)I"⟩
abbrev cX7_fewest : ByteArray := prog_9_method_38_code
def yX7_fewest : MethodName := ⟨RX7, "fewest", "()I"⟩
abbrev cX7_words : ByteArray := prog_9_method_39_code
def yX7_words : MethodName := ⟨RX7, "words", "()I"⟩
abbrev cX7_layCell : ByteArray := prog_9_method_40_code
def yX7_layCell : MethodName := ⟨RX7, "layCell", "(III)V"⟩
abbrev cX7_layLines : ByteArray := prog_9_method_41_code
def yX7_layLines : MethodName := ⟨RX7, "layLines", "(II)V"⟩
abbrev cX7_linesOf : ByteArray := prog_9_method_42_code
def yX7_linesOf : MethodName := ⟨RX7, "linesOf", "()I"⟩
abbrev cX7_pagesOf : ByteArray := prog_9_method_43_code
def yX7_pagesOf : MethodName := ⟨RX7, "pagesOf", "()I"⟩
abbrev cX7_cellsOf : ByteArray := prog_9_method_44_code
def yX7_cellsOf : MethodName := ⟨RX7, "cellsOf", "()I"⟩
abbrev cX7_told : ByteArray := prog_9_method_45_code
def yX7_told : MethodName := ⟨RX7, "told", "(I)I"⟩
abbrev cX7_cell : ByteArray := prog_9_method_46_code
def yX7_cell : MethodName := ⟨RX7, "cell", "(I)I"⟩
abbrev cX7_line : ByteArray := prog_9_method_47_code
def yX7_line : MethodName := ⟨RX7, "line", "(II)I"⟩
abbrev cX7_cellsWithout : ByteArray := prog_9_method_48_code
def yX7_cellsWithout : MethodName := ⟨RX7, "cellsWithout", "(I)I"⟩
abbrev cX7_ofRule : ByteArray := prog_9_method_49_code
def yX7_ofRule : MethodName := ⟨RX7, "ofRule", "(II)I"⟩
abbrev cX7_ruleBy : ByteArray := prog_9_method_50_code
def yX7_ruleBy : MethodName := ⟨RX7, "ruleBy", "(I)I"⟩
abbrev cX7_by : ByteArray := prog_9_method_51_code
def yX7_by : MethodName := ⟨RX7, "by", "(I)I"⟩
abbrev cX7_feel : ByteArray := prog_9_method_52_code
def yX7_feel : MethodName := ⟨RX7, "feel", "(I)I"⟩
abbrev cX7_feelAll : ByteArray := prog_9_method_53_code
def yX7_feelAll : MethodName := ⟨RX7, "feelAll", "()I"⟩
abbrev cX7_feltAt : ByteArray := prog_9_method_54_code
def yX7_feltAt : MethodName := ⟨RX7, "feltAt", "(I)I"⟩
abbrev cX7_isLetterCell : ByteArray := prog_9_method_55_code
def yX7_isLetterCell : MethodName := ⟨RX7, "isLetterCell", "(I)Z"⟩
abbrev cX7_isFigureCell : ByteArray := prog_9_method_56_code
def yX7_isFigureCell : MethodName := ⟨RX7, "isFigureCell", "(I)Z"⟩
abbrev cX7_isRuleCell : ByteArray := prog_9_method_57_code
def yX7_isRuleCell : MethodName := ⟨RX7, "isRuleCell", "(I)Z"⟩
abbrev cX7_faults : ByteArray := prog_9_method_58_code
def yX7_faults : MethodName := ⟨RX7, "faults", "(I)I"⟩
abbrev cX7_give : ByteArray := prog_9_method_59_code
def yX7_give : MethodName := ⟨RX7, "give", "(I)V"⟩
abbrev cX7_giveLetters : ByteArray := prog_9_method_60_code
def yX7_giveLetters : MethodName := ⟨RX7, "giveLetters", "(IZ)V"⟩
abbrev cX7_readGreat : ByteArray := prog_9_method_61_code
def yX7_readGreat : MethodName := ⟨RX7, "readGreat", "()I"⟩
abbrev cX7_readFigures : ByteArray := prog_9_method_62_code
def yX7_readFigures : MethodName := ⟨RX7, "readFigures", "()I"⟩
abbrev cX7_readLetters : ByteArray := prog_9_method_63_code
def yX7_readLetters : MethodName := ⟨RX7, "readLetters", "()I"⟩
abbrev cX7_readOne : ByteArray := prog_9_method_64_code
def yX7_readOne : MethodName := ⟨RX7, "readOne", "()I"⟩
abbrev cX7_readAll : ByteArray := prog_9_method_65_code
def yX7_readAll : MethodName := ⟨RX7, "readAll", "()I"⟩
abbrev cX7_read : ByteArray := prog_9_method_66_code
def yX7_read : MethodName := ⟨RX7, "read", "()I"⟩
abbrev cX7_fault : ByteArray := prog_9_method_67_code
def yX7_fault : MethodName := ⟨RX7, "fault", "()I"⟩
abbrev cX7_sign : ByteArray := prog_9_method_68_code
def yX7_sign : MethodName := ⟨RX7, "sign", "(I)I"⟩
abbrev cX7_rest : ByteArray := prog_9_method_69_code
def yX7_rest : MethodName := ⟨RX7, "rest", "()I"⟩
abbrev cX7_keep : ByteArray := prog_9_method_70_code
def yX7_keep : MethodName := ⟨RX7, "keep", "(I)I"⟩
abbrev cX7_goBack : ByteArray := prog_9_method_71_code
def yX7_goBack : MethodName := ⟨RX7, "goBack", "(I)I"⟩
def RJ9 : String := "java/lang/Math"
def TJ9 : u_T := fun k => match k with
  | _ => ("", "", "", false)
def tyJ9 : Nat → FieldType := fun k => match k with
  | _ => .int
abbrev wsJ90 : List Cond := u_ws RJ9 TJ9 0
theorem nmJ9 : ∀ a, a < 0 → ∀ b, b < 0 → a ≠ b → (TJ9 a).2.1 ≠ (TJ9 b).2.1 := by decide +kernel
theorem tyJ9_ok : ∀ k, k < 0 → parseFieldDescriptor (TJ9 k).2.2.1 = some (tyJ9 k) := by decide +kernel
abbrev cJ9_max_7cf53 : ByteArray := prog_10_method_65_code
def yJ9_max_7cf53 : MethodName := ⟨RJ9, "max", "(II)I"⟩
abbrev cJ9_min_7cf53 : ByteArray := prog_10_method_69_code
def yJ9_min_7cf53 : MethodName := ⟨RJ9, "min", "(II)I"⟩
def RJ10 : String := "java/lang/System"
def TJ10 : u_T := fun k => match k with
  | _ => ("", "", "", false)
def tyJ10 : Nat → FieldType := fun k => match k with
  | _ => .int
abbrev wsJ100 : List Cond := u_ws RJ10 TJ10 0
theorem nmJ10 : ∀ a, a < 0 → ∀ b, b < 0 → a ≠ b → (TJ10 a).2.1 ≠ (TJ10 b).2.1 := by decide +kernel
theorem tyJ10_ok : ∀ k, k < 0 → parseFieldDescriptor (TJ10 k).2.2.1 = some (tyJ10 k) := by decide +kernel
def RL : String := "RaisedDotsLaw"
abbrev cL_law : ByteArray := code
def yL_law : MethodName := ⟨RL, "law", "([I)Z"⟩
abbrev vwCl : List vw_C := [(RX0, TX0, 8), (RX1, TX1, 3), (RX2, TX2, 5), (RX3, TX3, 1), (RX4, TX4, 8), (RX5, TX5, 12), (RX6, TX6, 10), (RX7, TX7, 22)]
/-- the tables' words that a callee may be handed -/
def TB : List Cond := lw_tbl.filter goodWord
theorem TB_in : ∀ w ∈ TB, w ∈ lw_tbl := fun w h => (List.mem_filter.mp h).1
theorem TB_good (w : Cond) (h : w ∈ TB) : (w.onTables && w.keeps) = true ∨ ∃ ty, w = .arrayClass ty := good_of_word (List.mem_filter.mp h).2
theorem TB_sub {c1 c2 : Cond} (h : c2 ∈ TB) : GoodIn (c1 :: TB) (c2 :: TB) := fun w hw => by
  rcases List.mem_cons.mp hw with e | e
  · rw [e]; exact ⟨List.mem_cons_of_mem _ h, TB_good _ h⟩
  · exact ⟨List.mem_cons_of_mem _ e, TB_good _ e⟩
theorem TB_law {c2 : Cond} (h : c2 ∈ TB) : GoodIn lw_tbl (c2 :: TB) := fun w hw => by
  rcases List.mem_cons.mp hw with e | e
  · rw [e]; exact ⟨TB_in _ h, TB_good _ h⟩
  · exact ⟨TB_in _ e, TB_good _ e⟩
theorem TB_self {c2 : Cond} (h : c2 ∈ TB) : GoodIn TB (c2 :: TB) := fun w hw => by
  rcases List.mem_cons.mp hw with e | e
  · rw [e]; exact ⟨h, TB_good _ h⟩
  · exact ⟨e, TB_good _ e⟩
theorem tl1 {w : Cond} (i : Nat) (h : tables_1_1[i]? = some w) : w ∈ lw_tbl := List.mem_append_right _ (List.mem_append_left _ (List.mem_of_getElem? h))
theorem tl2 {w : Cond} (i : Nat) (h : tables_1_2[i]? = some w) : w ∈ lw_tbl := List.mem_append_right _ (List.mem_append_right _ (List.mem_append_left _ (List.mem_of_getElem? h)))
theorem tl3 {w : Cond} (i : Nat) (h : tables_1_3[i]? = some w) : w ∈ lw_tbl := List.mem_append_right _ (List.mem_append_right _ (List.mem_append_right _ (List.mem_append_left _ (List.mem_of_getElem? h))))
theorem tl4 {w : Cond} (i : Nat) (h : tables_1_4[i]? = some w) : w ∈ lw_tbl := List.mem_append_right _ (List.mem_append_right _ (List.mem_append_right _ (List.mem_append_right _ (List.mem_append_left _ (List.mem_of_getElem? h)))))
theorem tl5 {w : Cond} (i : Nat) (h : tables_1_5[i]? = some w) : w ∈ lw_tbl := List.mem_append_right _ (List.mem_append_right _ (List.mem_append_right _ (List.mem_append_right _ (List.mem_append_right _ (List.mem_of_getElem? h)))))
theorem tg {w : Cond} (h : w ∈ lw_tbl) (g : goodWord w = true) : w ∈ TB := List.mem_filter.mpr ⟨h, g⟩
theorem tps {q : MethodName × Nat} (h : q ∈ lw_privs) : Cond.selects q.1.cls q.1 q.1 ∈ TB := tg (List.mem_append_left _ (List.mem_map.mpr ⟨q, h, rfl⟩)) rfl
theorem tps1 {q : MethodName × Nat} (i : Nat) (h : lw_privs_1[i]? = some q) : Cond.selects q.1.cls q.1 q.1 ∈ TB := tps (List.mem_append_left _ (List.mem_of_getElem? h))
theorem tps2 {q : MethodName × Nat} (i : Nat) (h : lw_privs_2[i]? = some q) : Cond.selects q.1.cls q.1 q.1 ∈ TB := tps (List.mem_append_right _ (List.mem_append_left _ (List.mem_of_getElem? h)))
theorem tps3 {q : MethodName × Nat} (i : Nat) (h : lw_privs_3[i]? = some q) : Cond.selects q.1.cls q.1 q.1 ∈ TB := tps (List.mem_append_right _ (List.mem_append_right _ (List.mem_append_left _ (List.mem_of_getElem? h))))
theorem tps4 {q : MethodName × Nat} (i : Nat) (h : lw_privs_4[i]? = some q) : Cond.selects q.1.cls q.1 q.1 ∈ TB := tps (List.mem_append_right _ (List.mem_append_right _ (List.mem_append_right _ (List.mem_append_left _ (List.mem_of_getElem? h)))))
theorem tps5 {q : MethodName × Nat} (i : Nat) (h : lw_privs_5[i]? = some q) : Cond.selects q.1.cls q.1 q.1 ∈ TB := tps (List.mem_append_right _ (List.mem_append_right _ (List.mem_append_right _ (List.mem_append_right _ (List.mem_of_getElem? h)))))
theorem tw_1_0 : Cond.initialized RL ∈ TB := tg (tl1 0 rfl) rfl
theorem tw_1_1 : Cond.initialized RX6 ∈ TB := tg (tl1 1 rfl) rfl
theorem tw_1_2 : Cond.initialized RX0 ∈ TB := tg (tl1 2 rfl) rfl
theorem tw_1_3 : Cond.initialized RX1 ∈ TB := tg (tl1 3 rfl) rfl
theorem tw_1_4 : Cond.initialized RX5 ∈ TB := tg (tl1 4 rfl) rfl
theorem tw_1_5 : Cond.initialized RX2 ∈ TB := tg (tl1 5 rfl) rfl
theorem tw_1_6 : Cond.initialized RX4 ∈ TB := tg (tl1 6 rfl) rfl
theorem tw_1_7 : Cond.initialized RX3 ∈ TB := tg (tl1 7 rfl) rfl
theorem tw_1_8 : Cond.initialized RX7 ∈ TB := tg (tl1 8 rfl) rfl
theorem tw_1_9 : Cond.initialized RJ10 ∈ TB := tg (tl1 9 rfl) rfl
theorem tw_1_10 : Cond.initialized RJ9 ∈ TB := tg (tl1 10 rfl) rfl
theorem tw_1_11 : Cond.classLink RL 7 RX6 ∈ TB := tg (tl1 11 rfl) rfl
theorem tw_1_12 : Cond.instantiable RX6 10 ∈ TB := tg (tl1 12 rfl) rfl
theorem tw_1_13 : Cond.methodLink RL 9 yX6_init ∈ TB := tg (tl1 13 rfl) rfl
theorem tw_1_14 : Cond.instanceMethod yX6_init ∈ TB := tg (tl1 14 rfl) rfl
theorem tw_1_15 : Cond.code yX6_init cX6_init 2 none ∈ TB := tg (tl1 15 rfl) rfl
theorem tw_1_16 : Cond.methodLink RX6 3 objectInit ∈ TB := tg (tl1 16 rfl) rfl
theorem tw_1_17 : Cond.instanceMethod objectInit ∈ TB := tg (tl1 17 rfl) rfl
theorem tw_1_19 : Cond.classLink RX6 9 RX0 ∈ TB := tg (tl1 19 rfl) rfl
theorem tw_1_20 : Cond.instantiable RX0 8 ∈ TB := tg (tl1 20 rfl) rfl
theorem nw_1_21 : Cond.methodLinkNest RX6 11 yX0_init "RaisedDots" ∈ lw_tbl := tl1 21 rfl
theorem tw_1_22 : Cond.instanceMethod yX0_init ∈ TB := tg (tl1 22 rfl) rfl
theorem tw_1_23 : Cond.code yX0_init cX0_init 1 none ∈ TB := tg (tl1 23 rfl) rfl
theorem tw_1_24 : Cond.methodLink RX0 3 objectInit ∈ TB := tg (tl1 24 rfl) rfl
theorem tw_1_25 : Cond.fieldLink RX0 9 "RaisedDots$Book" "codes" "[I" ∈ TB := tg (tl1 25 rfl) rfl
theorem tw_1_26 : Cond.fieldLink RX4 95 "RaisedDots$Book" "codes" "[I" ∈ TB := tg (tl1 26 rfl) rfl
theorem tw_1_27 : Cond.fieldLink RX5 129 "RaisedDots$Book" "codes" "[I" ∈ TB := tg (tl1 27 rfl) rfl
theorem tw_1_28 : Cond.fieldLink RX6 161 "RaisedDots$Book" "codes" "[I" ∈ TB := tg (tl1 28 rfl) rfl
theorem tw_1_29 : Cond.fieldLink RX0 15 "RaisedDots$Book" "ruleCells" "[I" ∈ TB := tg (tl1 29 rfl) rfl
theorem tw_1_30 : Cond.fieldLink RX5 126 "RaisedDots$Book" "ruleCells" "[I" ∈ TB := tg (tl1 30 rfl) rfl
theorem tw_1_31 : Cond.fieldLink RX6 164 "RaisedDots$Book" "ruleCells" "[I" ∈ TB := tg (tl1 31 rfl) rfl
theorem tw_1_32 : Cond.fieldLink RX0 18 "RaisedDots$Book" "kinds" "[I" ∈ TB := tg (tl1 32 rfl) rfl
theorem tw_1_33 : Cond.fieldLink RX6 167 "RaisedDots$Book" "kinds" "[I" ∈ TB := tg (tl1 33 rfl) rfl
theorem tw_1_34 : Cond.fieldLink RX5 141 "RaisedDots$Book" "kinds" "[I" ∈ TB := tg (tl1 34 rfl) rfl
theorem tw_1_35 : Cond.fieldLink RX0 21 "RaisedDots$Book" "signs" "[I" ∈ TB := tg (tl1 35 rfl) rfl
theorem tw_1_36 : Cond.fieldLink RX0 24 "RaisedDots$Book" "ruleCount" "I" ∈ TB := tg (tl1 36 rfl) rfl
theorem tw_1_37 : Cond.fieldLink RX6 84 "RaisedDots$Book" "ruleCount" "I" ∈ TB := tg (tl1 37 rfl) rfl
theorem tw_1_38 : Cond.fieldLink RX0 28 "RaisedDots$Book" "signCount" "I" ∈ TB := tg (tl1 38 rfl) rfl
theorem tw_1_39 : Cond.fieldLink RX5 55 "RaisedDots$Book" "signCount" "I" ∈ TB := tg (tl1 39 rfl) rfl
theorem tw_1_40 : Cond.fieldLink RX6 120 "RaisedDots$Book" "signCount" "I" ∈ TB := tg (tl1 40 rfl) rfl
theorem tw_1_41 : Cond.fieldLink RX0 31 "RaisedDots$Book" "width" "I" ∈ TB := tg (tl1 41 rfl) rfl
theorem tw_1_42 : Cond.fieldLink RX6 132 "RaisedDots$Book" "width" "I" ∈ TB := tg (tl1 42 rfl) rfl
theorem tw_1_43 : Cond.fieldLink RX0 34 "RaisedDots$Book" "height" "I" ∈ TB := tg (tl1 43 rfl) rfl
theorem tw_1_44 : Cond.fieldLink RX6 135 "RaisedDots$Book" "height" "I" ∈ TB := tg (tl1 44 rfl) rfl
theorem tw_1_62 : Cond.arrayClass .int ∈ TB := tg (tl1 62 rfl) rfl
theorem tw_1_63 : Cond.classLink RX6 16 RX1 ∈ TB := tg (tl1 63 rfl) rfl
theorem tw_1_64 : Cond.instantiable RX1 3 ∈ TB := tg (tl1 64 rfl) rfl
theorem tw_1_65 : Cond.methodLink RX6 18 yX1_init ∈ TB := tg (tl1 65 rfl) rfl
theorem tw_1_66 : Cond.instanceMethod yX1_init ∈ TB := tg (tl1 66 rfl) rfl
theorem tw_1_67 : Cond.code yX1_init cX1_init 2 none ∈ TB := tg (tl1 67 rfl) rfl
theorem tw_1_68 : Cond.methodLink RX1 3 objectInit ∈ TB := tg (tl1 68 rfl) rfl
theorem tw_1_69 : Cond.classLink RX1 9 RX0 ∈ TB := tg (tl1 69 rfl) rfl
theorem nw_1_71 : Cond.methodLinkNest RX1 24 yX0_init "RaisedDots" ∈ lw_tbl := tl1 71 rfl
theorem tw_1_72 : Cond.fieldLink RX1 11 "RaisedDots$History" "past" "[LRaisedDots$Book;" ∈ TB := tg (tl1 72 rfl) rfl
theorem tw_1_73 : Cond.fieldLink RX1 17 "RaisedDots$History" "next" "I" ∈ TB := tg (tl1 73 rfl) rfl
theorem tw_1_74 : Cond.fieldLink RX1 21 "RaisedDots$History" "count" "I" ∈ TB := tg (tl1 74 rfl) rfl
theorem tw_1_75 : Cond.fieldLink RX6 126 "RaisedDots$History" "count" "I" ∈ TB := tg (tl1 75 rfl) rfl
theorem tw_1_83 : Cond.classLink RX6 31 RX5 ∈ TB := tg (tl1 83 rfl) rfl
theorem tw_1_84 : Cond.instantiable RX5 12 ∈ TB := tg (tl1 84 rfl) rfl
theorem tw_1_85 : Cond.methodLink RX6 33 yX5_init ∈ TB := tg (tl1 85 rfl) rfl
theorem tw_1_86 : Cond.instanceMethod yX5_init ∈ TB := tg (tl1 86 rfl) rfl
theorem tw_1_87 : Cond.code yX5_init cX5_init 2 none ∈ TB := tg (tl1 87 rfl) rfl
theorem tw_1_88 : Cond.methodLink RX5 3 objectInit ∈ TB := tg (tl1 88 rfl) rfl
theorem tw_1_89 : Cond.fieldLink RX5 9 "RaisedDots$Writer" "cells" "[I" ∈ TB := tg (tl1 89 rfl) rfl
theorem tw_1_90 : Cond.fieldLink RX6 154 "RaisedDots$Writer" "cells" "[I" ∈ TB := tg (tl1 90 rfl) rfl
theorem tw_1_91 : Cond.fieldLink RX5 15 "RaisedDots$Writer" "served" "[I" ∈ TB := tg (tl1 91 rfl) rfl
theorem tw_1_92 : Cond.fieldLink RX6 170 "RaisedDots$Writer" "served" "[I" ∈ TB := tg (tl1 92 rfl) rfl
theorem tw_1_93 : Cond.fieldLink RX5 18 "RaisedDots$Writer" "firstServed" "[I" ∈ TB := tg (tl1 93 rfl) rfl
theorem tw_1_94 : Cond.fieldLink RX6 173 "RaisedDots$Writer" "firstServed" "[I" ∈ TB := tg (tl1 94 rfl) rfl
theorem tw_1_95 : Cond.fieldLink RX5 47 "RaisedDots$Writer" "book" "LRaisedDots$Book;" ∈ TB := tg (tl1 95 rfl) rfl
theorem tw_1_96 : Cond.fieldLink RX5 21 "RaisedDots$Writer" "count" "I" ∈ TB := tg (tl1 96 rfl) rfl
theorem tw_1_97 : Cond.fieldLink RX5 25 "RaisedDots$Writer" "without" "I" ∈ TB := tg (tl1 97 rfl) rfl
theorem tw_1_98 : Cond.fieldLink RX5 28 "RaisedDots$Writer" "wordCells" "I" ∈ TB := tg (tl1 98 rfl) rfl
theorem tw_1_99 : Cond.fieldLink RX5 31 "RaisedDots$Writer" "wordBegin" "I" ∈ TB := tg (tl1 99 rfl) rfl
theorem tw_1_100 : Cond.fieldLink RX5 34 "RaisedDots$Writer" "wordEnd" "I" ∈ TB := tg (tl1 100 rfl) rfl
theorem tw_1_101 : Cond.fieldLink RX5 37 "RaisedDots$Writer" "wordIsCapitals" "Z" ∈ TB := tg (tl1 101 rfl) rfl
theorem tw_1_102 : Cond.fieldLink RX5 41 "RaisedDots$Writer" "small" "[I" ∈ TB := tg (tl1 102 rfl) rfl
theorem tw_1_103 : Cond.fieldLink RX5 44 "RaisedDots$Writer" "fewestFrom" "[I" ∈ TB := tg (tl1 103 rfl) rfl
theorem tw_1_129 : Cond.arrayClass .boolean ∈ TB := tg (tl1 129 rfl) rfl
theorem tw_1_130 : Cond.classLink RX6 40 RX2 ∈ TB := tg (tl1 130 rfl) rfl
theorem tw_1_131 : Cond.instantiable RX2 5 ∈ TB := tg (tl1 131 rfl) rfl
theorem nw_1_132 : Cond.methodLinkNest RX6 42 yX2_init "RaisedDots" ∈ lw_tbl := tl1 132 rfl
theorem tw_1_133 : Cond.instanceMethod yX2_init ∈ TB := tg (tl1 133 rfl) rfl
theorem tw_1_134 : Cond.code yX2_init cX2_init 1 none ∈ TB := tg (tl1 134 rfl) rfl
theorem tw_1_135 : Cond.methodLink RX2 3 objectInit ∈ TB := tg (tl1 135 rfl) rfl
theorem tw_1_136 : Cond.fieldLink RX2 9 "RaisedDots$Layout" "laid" "[I" ∈ TB := tg (tl1 136 rfl) rfl
theorem tw_1_137 : Cond.fieldLink RX2 15 "RaisedDots$Layout" "lineBegin" "[I" ∈ TB := tg (tl1 137 rfl) rfl
theorem tw_1_138 : Cond.fieldLink RX2 18 "RaisedDots$Layout" "lines" "I" ∈ TB := tg (tl1 138 rfl) rfl
theorem tw_1_139 : Cond.fieldLink RX2 22 "RaisedDots$Layout" "laidCount" "I" ∈ TB := tg (tl1 139 rfl) rfl
theorem tw_1_140 : Cond.fieldLink RX2 25 "RaisedDots$Layout" "width" "I" ∈ TB := tg (tl1 140 rfl) rfl
theorem tw_1_152 : Cond.classLink RX6 55 RX4 ∈ TB := tg (tl1 152 rfl) rfl
theorem tw_1_153 : Cond.instantiable RX4 8 ∈ TB := tg (tl1 153 rfl) rfl
theorem tw_1_154 : Cond.methodLink RX6 57 yX4_init ∈ TB := tg (tl1 154 rfl) rfl
theorem tw_1_155 : Cond.instanceMethod yX4_init ∈ TB := tg (tl1 155 rfl) rfl
theorem tw_1_156 : Cond.code yX4_init cX4_init 3 none ∈ TB := tg (tl1 156 rfl) rfl
theorem tw_1_157 : Cond.methodLink RX4 3 objectInit ∈ TB := tg (tl1 157 rfl) rfl
theorem tw_1_158 : Cond.fieldLink RX4 9 "RaisedDots$Reader" "signs" "[I" ∈ TB := tg (tl1 158 rfl) rfl
theorem tw_1_159 : Cond.fieldLink RX6 198 "RaisedDots$Reader" "signs" "[I" ∈ TB := tg (tl1 159 rfl) rfl
theorem tw_1_160 : Cond.fieldLink RX4 15 "RaisedDots$Reader" "count" "I" ∈ TB := tg (tl1 160 rfl) rfl
theorem tw_1_161 : Cond.fieldLink RX6 194 "RaisedDots$Reader" "count" "I" ∈ TB := tg (tl1 161 rfl) rfl
theorem tw_1_162 : Cond.fieldLink RX4 19 "RaisedDots$Reader" "faultKind" "I" ∈ TB := tg (tl1 162 rfl) rfl
theorem tw_1_163 : Cond.fieldLink RX6 191 "RaisedDots$Reader" "faultKind" "I" ∈ TB := tg (tl1 163 rfl) rfl
theorem tw_1_164 : Cond.fieldLink RX4 22 "RaisedDots$Reader" "faultAt" "I" ∈ TB := tg (tl1 164 rfl) rfl
theorem tw_1_165 : Cond.fieldLink RX6 195 "RaisedDots$Reader" "faultAt" "I" ∈ TB := tg (tl1 165 rfl) rfl
theorem tw_1_166 : Cond.fieldLink RX4 31 "RaisedDots$Reader" "book" "LRaisedDots$Book;" ∈ TB := tg (tl1 166 rfl) rfl
theorem tw_1_167 : Cond.fieldLink RX4 35 "RaisedDots$Reader" "cells" "[I" ∈ TB := tg (tl1 167 rfl) rfl
theorem tw_1_168 : Cond.fieldLink RX4 25 "RaisedDots$Reader" "cellCount" "I" ∈ TB := tg (tl1 168 rfl) rfl
theorem tw_1_169 : Cond.fieldLink RX4 28 "RaisedDots$Reader" "figuresEnd" "I" ∈ TB := tg (tl1 169 rfl) rfl
theorem tw_1_187 : Cond.classLink RX6 64 RX3 ∈ TB := tg (tl1 187 rfl) rfl
theorem tw_1_188 : Cond.instantiable RX3 1 ∈ TB := tg (tl1 188 rfl) rfl
theorem nw_1_189 : Cond.methodLinkNest RX6 66 yX3_init "RaisedDots" ∈ lw_tbl := tl1 189 rfl
theorem tw_1_190 : Cond.instanceMethod yX3_init ∈ TB := tg (tl1 190 rfl) rfl
theorem tw_1_191 : Cond.code yX3_init cX3_init 1 none ∈ TB := tg (tl1 191 rfl) rfl
theorem tw_1_192 : Cond.methodLink RX3 1 objectInit ∈ TB := tg (tl1 192 rfl) rfl
theorem tw_1_193 : Cond.fieldLink RX3 7 "RaisedDots$Lots" "x" "J" ∈ TB := tg (tl1 193 rfl) rfl
theorem tw_1_197 : Cond.fieldLink RX6 12 "RaisedDots" "now" "LRaisedDots$Book;" ∈ TB := tg (tl1 197 rfl) rfl
theorem tw_1_198 : Cond.fieldLink RX6 19 "RaisedDots" "history" "LRaisedDots$History;" ∈ TB := tg (tl1 198 rfl) rfl
theorem tw_1_199 : Cond.fieldLink RX6 23 "RaisedDots" "images" "[LRaisedDots$Book;" ∈ TB := tg (tl1 199 rfl) rfl
theorem tw_1_200 : Cond.fieldLink RX6 27 "RaisedDots" "kept" "[Z" ∈ TB := tg (tl1 200 rfl) rfl
theorem tw_1_201 : Cond.fieldLink RX6 36 "RaisedDots" "writer" "LRaisedDots$Writer;" ∈ TB := tg (tl1 201 rfl) rfl
theorem tw_1_202 : Cond.fieldLink RX6 43 "RaisedDots" "layout" "LRaisedDots$Layout;" ∈ TB := tg (tl1 202 rfl) rfl
theorem tw_1_203 : Cond.fieldLink RX6 47 "RaisedDots" "felt" "[I" ∈ TB := tg (tl1 203 rfl) rfl
theorem tw_1_204 : Cond.fieldLink RX6 51 "RaisedDots" "feltCount" "I" ∈ TB := tg (tl1 204 rfl) rfl
theorem tw_1_205 : Cond.fieldLink RX6 60 "RaisedDots" "reader" "LRaisedDots$Reader;" ∈ TB := tg (tl1 205 rfl) rfl
theorem tw_1_206 : Cond.fieldLink RX6 67 "RaisedDots" "lots" "LRaisedDots$Lots;" ∈ TB := tg (tl1 206 rfl) rfl
theorem tw_1_228 : Cond.methodLink RL 13 yX6_rule ∈ TB := tg (tl1 228 rfl) rfl
theorem tw_1_229 : Cond.instanceMethod yX6_rule ∈ TB := tg (tl1 229 rfl) rfl
theorem tw_1_230 : Cond.selects RX6 yX6_rule yX6_rule ∈ TB := tg (tl1 230 rfl) rfl
theorem tw_1_231 : Cond.code yX6_rule cX6_rule 4 (some .int) ∈ TB := tg (tl1 231 rfl) rfl
theorem tw_1_232 : Cond.methodLink RX6 71 yX6_isCode ∈ TB := tg (tl1 232 rfl) rfl
theorem tw_1_233 : Cond.static yX6_isCode ∈ TB := tg (tl1 233 rfl) rfl
theorem tw_1_234 : Cond.code yX6_isCode cX6_isCode 4 (some .boolean) ∈ TB := tg (tl1 234 rfl) rfl
theorem tw_1_235 : Cond.constant RX6 234 (531441) ∈ TB := tg (tl1 235 rfl) rfl
theorem tw_1_236 : Cond.methodLink RX6 235 yX6_lettersOf ∈ TB := tg (tl1 236 rfl) rfl
theorem tw_1_237 : Cond.static yX6_lettersOf ∈ TB := tg (tl1 237 rfl) rfl
theorem tw_1_238 : Cond.code yX6_lettersOf cX6_lettersOf 4 (some .int) ∈ TB := tg (tl1 238 rfl) rfl
theorem tw_1_239 : Cond.methodLink RX6 75 yX6_isRuleCell ∈ TB := tg (tl1 239 rfl) rfl
theorem tw_2_0 : Cond.static yX6_isRuleCell ∈ TB := tg (tl2 0 rfl) rfl
theorem tw_2_1 : Cond.code yX6_isRuleCell cX6_isRuleCell 1 (some .boolean) ∈ TB := tg (tl2 1 rfl) rfl
theorem tw_2_2 : Cond.constant RX6 78 (-1000000002) ∈ TB := tg (tl2 2 rfl) rfl
theorem tw_2_3 : Cond.methodLink RX6 79 yX0_isTaken ∈ TB := tg (tl2 3 rfl) rfl
theorem tw_2_4 : Cond.instanceMethod yX0_isTaken ∈ TB := tg (tl2 4 rfl) rfl
theorem tw_2_5 : Cond.selects RX0 yX0_isTaken yX0_isTaken ∈ TB := tg (tl2 5 rfl) rfl
theorem tw_2_6 : Cond.code yX0_isTaken cX0_isTaken 3 (some .boolean) ∈ TB := tg (tl2 6 rfl) rfl
theorem tw_2_7 : Cond.methodLink RX0 43 yX0_ruleOfCode ∈ TB := tg (tl2 7 rfl) rfl
theorem tw_2_8 : Cond.instanceMethod yX0_ruleOfCode ∈ TB := tg (tl2 8 rfl) rfl
theorem tw_2_9 : Cond.selects RX0 yX0_ruleOfCode yX0_ruleOfCode ∈ TB := tg (tl2 9 rfl) rfl
theorem tw_2_10 : Cond.code yX0_ruleOfCode cX0_ruleOfCode 3 (some .int) ∈ TB := tg (tl2 10 rfl) rfl
theorem tw_2_11 : Cond.methodLink RX0 47 yX0_ruleOfCell ∈ TB := tg (tl2 11 rfl) rfl
theorem tw_2_12 : Cond.instanceMethod yX0_ruleOfCell ∈ TB := tg (tl2 12 rfl) rfl
theorem tw_2_13 : Cond.selects RX0 yX0_ruleOfCell yX0_ruleOfCell ∈ TB := tg (tl2 13 rfl) rfl
theorem tw_2_14 : Cond.code yX0_ruleOfCell cX0_ruleOfCell 3 (some .int) ∈ TB := tg (tl2 14 rfl) rfl
theorem tw_2_15 : Cond.constant RX6 83 (-1000000003) ∈ TB := tg (tl2 15 rfl) rfl
theorem tw_2_16 : Cond.constant RX6 87 (-1000000004) ∈ TB := tg (tl2 16 rfl) rfl
theorem tw_2_17 : Cond.methodLink RX6 88 yX1_remember ∈ TB := tg (tl2 17 rfl) rfl
theorem tw_2_18 : Cond.instanceMethod yX1_remember ∈ TB := tg (tl2 18 rfl) rfl
theorem tw_2_19 : Cond.selects RX1 yX1_remember yX1_remember ∈ TB := tg (tl2 19 rfl) rfl
theorem tw_2_20 : Cond.code yX1_remember cX1_remember 2 none ∈ TB := tg (tl2 20 rfl) rfl
theorem tw_2_21 : Cond.methodLink RX1 25 yX0_copyFrom ∈ TB := tg (tl2 21 rfl) rfl
theorem tw_2_22 : Cond.instanceMethod yX0_copyFrom ∈ TB := tg (tl2 22 rfl) rfl
theorem tw_2_23 : Cond.selects RX0 yX0_copyFrom yX0_copyFrom ∈ TB := tg (tl2 23 rfl) rfl
theorem tw_2_24 : Cond.code yX0_copyFrom cX0_copyFrom 2 none ∈ TB := tg (tl2 24 rfl) rfl
theorem tw_2_25 : Cond.methodLink RX0 37 arraycopyName ∈ TB := tg (tl2 25 rfl) rfl
theorem tw_2_26 : Cond.static arraycopyName ∈ TB := tg (tl2 26 rfl) rfl
theorem tw_2_27 : Cond.native arraycopyName ∈ TB := tg (tl2 27 rfl) rfl
theorem tw_2_28 : Cond.methodLink RX1 29 Lib.Math.min.name ∈ TB := tg (tl2 28 rfl) rfl
theorem tw_2_29 : Cond.static Lib.Math.min.name ∈ TB := tg (tl2 29 rfl) rfl
theorem tw_2_30 : Cond.code Lib.Math.min.name Lib.Math.min.code 2 (some .int) ∈ TB := tg (tl2 30 rfl) rfl
theorem tw_2_31 : Cond.methodLink RX6 91 yX0_addRule ∈ TB := tg (tl2 31 rfl) rfl
theorem tw_2_32 : Cond.instanceMethod yX0_addRule ∈ TB := tg (tl2 32 rfl) rfl
theorem tw_2_33 : Cond.selects RX0 yX0_addRule yX0_addRule ∈ TB := tg (tl2 33 rfl) rfl
theorem tw_2_34 : Cond.code yX0_addRule cX0_addRule 4 none ∈ TB := tg (tl2 34 rfl) rfl
theorem tw_2_35 : Cond.methodLink RL 18 yX6_drop ∈ TB := tg (tl2 35 rfl) rfl
theorem tw_2_36 : Cond.instanceMethod yX6_drop ∈ TB := tg (tl2 36 rfl) rfl
theorem tw_2_37 : Cond.selects RX6 yX6_drop yX6_drop ∈ TB := tg (tl2 37 rfl) rfl
theorem tw_2_38 : Cond.code yX6_drop cX6_drop 2 (some .int) ∈ TB := tg (tl2 38 rfl) rfl
theorem tw_2_39 : Cond.methodLink RX6 95 yX0_hasRule ∈ TB := tg (tl2 39 rfl) rfl
theorem tw_2_40 : Cond.instanceMethod yX0_hasRule ∈ TB := tg (tl2 40 rfl) rfl
theorem tw_2_41 : Cond.selects RX0 yX0_hasRule yX0_hasRule ∈ TB := tg (tl2 41 rfl) rfl
theorem tw_2_42 : Cond.code yX0_hasRule cX0_hasRule 2 (some .boolean) ∈ TB := tg (tl2 42 rfl) rfl
theorem tw_2_43 : Cond.constant RX6 98 (-1000000001) ∈ TB := tg (tl2 43 rfl) rfl
theorem tw_2_44 : Cond.methodLink RX6 99 yX0_removeRule ∈ TB := tg (tl2 44 rfl) rfl
theorem tw_2_45 : Cond.instanceMethod yX0_removeRule ∈ TB := tg (tl2 45 rfl) rfl
theorem tw_2_46 : Cond.selects RX0 yX0_removeRule yX0_removeRule ∈ TB := tg (tl2 46 rfl) rfl
theorem tw_2_47 : Cond.code yX0_removeRule cX0_removeRule 3 none ∈ TB := tg (tl2 47 rfl) rfl
theorem tw_2_48 : Cond.methodLink RL 23 yX6_set ∈ TB := tg (tl2 48 rfl) rfl
theorem tw_2_49 : Cond.instanceMethod yX6_set ∈ TB := tg (tl2 49 rfl) rfl
theorem tw_2_50 : Cond.selects RX6 yX6_set yX6_set ∈ TB := tg (tl2 50 rfl) rfl
theorem tw_2_51 : Cond.code yX6_set cX6_set 3 (some .int) ∈ TB := tg (tl2 51 rfl) rfl
theorem tw_2_52 : Cond.methodLink RX6 103 yX6_setWidth ∈ TB := tg (tl2 52 rfl) rfl
theorem tw_2_54 : Cond.instanceMethod yX6_setWidth ∈ TB := tg (tl2 54 rfl) rfl
theorem tw_2_55 : Cond.code yX6_setWidth cX6_setWidth 3 (some .int) ∈ TB := tg (tl2 55 rfl) rfl
theorem tw_2_56 : Cond.methodLink RX6 107 yX6_setHeight ∈ TB := tg (tl2 56 rfl) rfl
theorem tw_2_58 : Cond.instanceMethod yX6_setHeight ∈ TB := tg (tl2 58 rfl) rfl
theorem tw_2_59 : Cond.code yX6_setHeight cX6_setHeight 3 (some .int) ∈ TB := tg (tl2 59 rfl) rfl
theorem tw_2_60 : Cond.methodLink RL 28 yX6_drift ∈ TB := tg (tl2 60 rfl) rfl
theorem tw_2_61 : Cond.instanceMethod yX6_drift ∈ TB := tg (tl2 61 rfl) rfl
theorem tw_2_62 : Cond.selects RX6 yX6_drift yX6_drift ∈ TB := tg (tl2 62 rfl) rfl
theorem tw_2_63 : Cond.code yX6_drift cX6_drift 5 (some .int) ∈ TB := tg (tl2 63 rfl) rfl
theorem tw_2_64 : Cond.constant RX6 110 (999999) ∈ TB := tg (tl2 64 rfl) rfl
theorem tw_2_65 : Cond.methodLink RX6 111 yX3_begin ∈ TB := tg (tl2 65 rfl) rfl
theorem tw_2_66 : Cond.instanceMethod yX3_begin ∈ TB := tg (tl2 66 rfl) rfl
theorem tw_2_67 : Cond.selects RX3 yX3_begin yX3_begin ∈ TB := tg (tl2 67 rfl) rfl
theorem tw_2_68 : Cond.code yX3_begin cX3_begin 2 none ∈ TB := tg (tl2 68 rfl) rfl
theorem tw_2_69 : Cond.methodLink RX6 114 yX6_addRuleByLots ∈ TB := tg (tl2 69 rfl) rfl
theorem tw_2_71 : Cond.instanceMethod yX6_addRuleByLots ∈ TB := tg (tl2 71 rfl) rfl
theorem tw_2_72 : Cond.code yX6_addRuleByLots cX6_addRuleByLots 5 none ∈ TB := tg (tl2 72 rfl) rfl
theorem tw_2_73 : Cond.methodLink RX6 207 yX3_next ∈ TB := tg (tl2 73 rfl) rfl
theorem tw_2_74 : Cond.instanceMethod yX3_next ∈ TB := tg (tl2 74 rfl) rfl
theorem tw_2_75 : Cond.selects RX3 yX3_next yX3_next ∈ TB := tg (tl2 75 rfl) rfl
theorem tw_2_76 : Cond.code yX3_next cX3_next 1 (some .int) ∈ TB := tg (tl2 76 rfl) rfl
theorem tw_2_77 : Cond.constantLong RX3 13 (16807) ∈ TB := tg (tl2 77 rfl) rfl
theorem tw_2_78 : Cond.constantLong RX3 15 (2147483647) ∈ TB := tg (tl2 78 rfl) rfl
theorem tw_2_79 : Cond.methodLink RL 32 yX6_text ∈ TB := tg (tl2 79 rfl) rfl
theorem tw_2_80 : Cond.instanceMethod yX6_text ∈ TB := tg (tl2 80 rfl) rfl
theorem tw_2_81 : Cond.selects RX6 yX6_text yX6_text ∈ TB := tg (tl2 81 rfl) rfl
theorem tw_2_82 : Cond.code yX6_text cX6_text 2 (some .int) ∈ TB := tg (tl2 82 rfl) rfl
theorem tw_2_83 : Cond.methodLink RX6 117 yX6_isSign ∈ TB := tg (tl2 83 rfl) rfl
theorem tw_2_84 : Cond.static yX6_isSign ∈ TB := tg (tl2 84 rfl) rfl
theorem tw_2_85 : Cond.code yX6_isSign cX6_isSign 1 (some .boolean) ∈ TB := tg (tl2 85 rfl) rfl
theorem tw_2_86 : Cond.methodLink RX6 225 yX6_isOfWord ∈ TB := tg (tl2 86 rfl) rfl
theorem tw_2_87 : Cond.static yX6_isOfWord ∈ TB := tg (tl2 87 rfl) rfl
theorem tw_2_88 : Cond.code yX6_isOfWord cX6_isOfWord 1 (some .boolean) ∈ TB := tg (tl2 88 rfl) rfl
theorem tw_2_89 : Cond.methodLink RX6 219 yX6_isSmall ∈ TB := tg (tl2 89 rfl) rfl
theorem tw_2_90 : Cond.static yX6_isSmall ∈ TB := tg (tl2 90 rfl) rfl
theorem tw_2_91 : Cond.code yX6_isSmall cX6_isSmall 1 (some .boolean) ∈ TB := tg (tl2 91 rfl) rfl
theorem tw_2_92 : Cond.methodLink RX6 222 yX6_isCapital ∈ TB := tg (tl2 92 rfl) rfl
theorem tw_2_93 : Cond.static yX6_isCapital ∈ TB := tg (tl2 93 rfl) rfl
theorem tw_2_94 : Cond.code yX6_isCapital cX6_isCapital 1 (some .boolean) ∈ TB := tg (tl2 94 rfl) rfl
theorem tw_2_95 : Cond.methodLink RX6 228 yX6_isFigure ∈ TB := tg (tl2 95 rfl) rfl
theorem tw_2_96 : Cond.static yX6_isFigure ∈ TB := tg (tl2 96 rfl) rfl
theorem tw_2_97 : Cond.code yX6_isFigure cX6_isFigure 1 (some .boolean) ∈ TB := tg (tl2 97 rfl) rfl
theorem tw_2_98 : Cond.methodLink RX6 231 yX6_isPointOrComma ∈ TB := tg (tl2 98 rfl) rfl
theorem tw_2_99 : Cond.static yX6_isPointOrComma ∈ TB := tg (tl2 99 rfl) rfl
theorem tw_2_100 : Cond.code yX6_isPointOrComma cX6_isPointOrComma 1 (some .boolean) ∈ TB := tg (tl2 100 rfl) rfl
theorem tw_2_101 : Cond.methodLink RX6 123 yX0_addSign ∈ TB := tg (tl2 101 rfl) rfl
theorem tw_2_102 : Cond.instanceMethod yX0_addSign ∈ TB := tg (tl2 102 rfl) rfl
theorem tw_2_103 : Cond.selects RX0 yX0_addSign yX0_addSign ∈ TB := tg (tl2 103 rfl) rfl
theorem tw_2_104 : Cond.code yX0_addSign cX0_addSign 2 none ∈ TB := tg (tl2 104 rfl) rfl
theorem tw_2_105 : Cond.methodLink RL 36 yX6_wipe ∈ TB := tg (tl2 105 rfl) rfl
theorem tw_2_106 : Cond.instanceMethod yX6_wipe ∈ TB := tg (tl2 106 rfl) rfl
theorem tw_2_107 : Cond.selects RX6 yX6_wipe yX6_wipe ∈ TB := tg (tl2 107 rfl) rfl
theorem tw_2_108 : Cond.code yX6_wipe cX6_wipe 2 (some .int) ∈ TB := tg (tl2 108 rfl) rfl
theorem tw_2_109 : Cond.methodLink RL 41 yX6_undo ∈ TB := tg (tl2 109 rfl) rfl
theorem tw_2_110 : Cond.instanceMethod yX6_undo ∈ TB := tg (tl2 110 rfl) rfl
theorem tw_2_111 : Cond.selects RX6 yX6_undo yX6_undo ∈ TB := tg (tl2 111 rfl) rfl
theorem tw_2_112 : Cond.code yX6_undo cX6_undo 1 (some .int) ∈ TB := tg (tl2 112 rfl) rfl
theorem tw_2_113 : Cond.methodLink RX6 129 yX1_takeBack ∈ TB := tg (tl2 113 rfl) rfl
theorem tw_2_114 : Cond.instanceMethod yX1_takeBack ∈ TB := tg (tl2 114 rfl) rfl
theorem tw_2_115 : Cond.selects RX1 yX1_takeBack yX1_takeBack ∈ TB := tg (tl2 115 rfl) rfl
theorem tw_2_116 : Cond.code yX1_takeBack cX1_takeBack 2 none ∈ TB := tg (tl2 116 rfl) rfl
theorem tw_2_117 : Cond.methodLink RL 45 yX6_told ∈ TB := tg (tl2 117 rfl) rfl
theorem tw_2_118 : Cond.instanceMethod yX6_told ∈ TB := tg (tl2 118 rfl) rfl
theorem tw_2_119 : Cond.selects RX6 yX6_told yX6_told ∈ TB := tg (tl2 119 rfl) rfl
theorem tw_2_120 : Cond.code yX6_told cX6_told 2 (some .int) ∈ TB := tg (tl2 120 rfl) rfl
theorem tw_2_121 : Cond.methodLink RX6 138 yX0_wordCount ∈ TB := tg (tl2 121 rfl) rfl
theorem tw_2_122 : Cond.instanceMethod yX0_wordCount ∈ TB := tg (tl2 122 rfl) rfl
theorem tw_2_123 : Cond.selects RX0 yX0_wordCount yX0_wordCount ∈ TB := tg (tl2 123 rfl) rfl
theorem tw_2_124 : Cond.code yX0_wordCount cX0_wordCount 3 (some .int) ∈ TB := tg (tl2 124 rfl) rfl
theorem tw_2_125 : Cond.methodLink RX0 57 yX0_wordBeginsAt ∈ TB := tg (tl2 125 rfl) rfl
theorem tw_2_126 : Cond.instanceMethod yX0_wordBeginsAt ∈ TB := tg (tl2 126 rfl) rfl
theorem tw_2_127 : Cond.selects RX0 yX0_wordBeginsAt yX0_wordBeginsAt ∈ TB := tg (tl2 127 rfl) rfl
theorem tw_2_128 : Cond.code yX0_wordBeginsAt cX0_wordBeginsAt 2 (some .boolean) ∈ TB := tg (tl2 128 rfl) rfl
theorem tw_2_129 : Cond.methodLink RX0 50 yX0_signAt ∈ TB := tg (tl2 129 rfl) rfl
theorem tw_2_130 : Cond.instanceMethod yX0_signAt ∈ TB := tg (tl2 130 rfl) rfl
theorem tw_2_131 : Cond.selects RX0 yX0_signAt yX0_signAt ∈ TB := tg (tl2 131 rfl) rfl
theorem tw_2_132 : Cond.code yX0_signAt cX0_signAt 2 (some .int) ∈ TB := tg (tl2 132 rfl) rfl
theorem nw_2_133 : Cond.methodLinkNest RX0 53 yX6_isOfWord "RaisedDots" ∈ lw_tbl := tl2 133 rfl
theorem tw_2_134 : Cond.methodLink RX6 142 yX5_write ∈ TB := tg (tl2 134 rfl) rfl
theorem tw_2_135 : Cond.instanceMethod yX5_write ∈ TB := tg (tl2 135 rfl) rfl
theorem tw_2_136 : Cond.selects RX5 yX5_write yX5_write ∈ TB := tg (tl2 136 rfl) rfl
theorem tw_2_137 : Cond.code yX5_write cX5_write 4 (some .int) ∈ TB := tg (tl2 137 rfl) rfl
theorem tw_2_138 : Cond.methodLink RX5 51 yX5_begin ∈ TB := tg (tl2 138 rfl) rfl
theorem tw_2_140 : Cond.instanceMethod yX5_begin ∈ TB := tg (tl2 140 rfl) rfl
theorem tw_2_141 : Cond.code yX5_begin cX5_begin 3 none ∈ TB := tg (tl2 141 rfl) rfl
theorem tw_2_142 : Cond.methodLink RX5 60 yX0_signAt ∈ TB := tg (tl2 142 rfl) rfl
theorem tw_2_143 : Cond.methodLink RX5 64 yX0_wordBeginsAt ∈ TB := tg (tl2 143 rfl) rfl
theorem tw_2_144 : Cond.methodLink RX5 68 yX5_enterWord ∈ TB := tg (tl2 144 rfl) rfl
theorem tw_2_146 : Cond.instanceMethod yX5_enterWord ∈ TB := tg (tl2 146 rfl) rfl
theorem tw_2_147 : Cond.code yX5_enterWord cX5_enterWord 4 none ∈ TB := tg (tl2 147 rfl) rfl
theorem tw_2_148 : Cond.methodLink RX5 100 yX0_endOfWord ∈ TB := tg (tl2 148 rfl) rfl
theorem tw_2_149 : Cond.instanceMethod yX0_endOfWord ∈ TB := tg (tl2 149 rfl) rfl
theorem tw_2_150 : Cond.selects RX0 yX0_endOfWord yX0_endOfWord ∈ TB := tg (tl2 150 rfl) rfl
theorem tw_2_151 : Cond.code yX0_endOfWord cX0_endOfWord 3 (some .int) ∈ TB := tg (tl2 151 rfl) rfl
theorem nw_2_152 : Cond.methodLinkNest RX5 103 yX6_isCapital "RaisedDots" ∈ lw_tbl := tl2 152 rfl
theorem nw_2_153 : Cond.methodLinkNest RX5 106 yX6_isSmall "RaisedDots" ∈ lw_tbl := tl2 153 rfl
theorem nw_2_154 : Cond.methodLinkNest RX5 109 yX6_letterOf "RaisedDots" ∈ lw_tbl := tl2 154 rfl
theorem tw_2_155 : Cond.static yX6_letterOf ∈ TB := tg (tl2 155 rfl) rfl
theorem tw_2_156 : Cond.code yX6_letterOf cX6_letterOf 1 (some .int) ∈ TB := tg (tl2 156 rfl) rfl
theorem tw_2_157 : Cond.methodLink RX5 71 yX5_writeWord ∈ TB := tg (tl2 157 rfl) rfl
theorem tw_2_159 : Cond.instanceMethod yX5_writeWord ∈ TB := tg (tl2 159 rfl) rfl
theorem tw_2_160 : Cond.code yX5_writeWord cX5_writeWord 5 none ∈ TB := tg (tl2 160 rfl) rfl
theorem tw_2_161 : Cond.methodLink RX5 112 yX5_needsLetters ∈ TB := tg (tl2 161 rfl) rfl
theorem tw_2_163 : Cond.instanceMethod yX5_needsLetters ∈ TB := tg (tl2 163 rfl) rfl
theorem tw_2_164 : Cond.code yX5_needsLetters cX5_needsLetters 2 (some .boolean) ∈ TB := tg (tl2 164 rfl) rfl
theorem tw_2_165 : Cond.methodLink RX5 94 yX0_isBehindFigures ∈ TB := tg (tl2 165 rfl) rfl
theorem tw_2_166 : Cond.instanceMethod yX0_isBehindFigures ∈ TB := tg (tl2 166 rfl) rfl
theorem tw_2_167 : Cond.selects RX0 yX0_isBehindFigures yX0_isBehindFigures ∈ TB := tg (tl2 167 rfl) rfl
theorem tw_2_168 : Cond.code yX0_isBehindFigures cX0_isBehindFigures 2 (some .boolean) ∈ TB := tg (tl2 168 rfl) rfl
theorem nw_2_169 : Cond.methodLinkNest RX0 60 yX6_isFigure "RaisedDots" ∈ lw_tbl := tl2 169 rfl
theorem nw_2_170 : Cond.methodLinkNest RX0 63 yX6_isPointOrComma "RaisedDots" ∈ lw_tbl := tl2 170 rfl
theorem tw_2_171 : Cond.methodLink RX5 87 yX5_addCell ∈ TB := tg (tl2 171 rfl) rfl
theorem tw_2_173 : Cond.instanceMethod yX5_addCell ∈ TB := tg (tl2 173 rfl) rfl
theorem tw_2_174 : Cond.code yX5_addCell cX5_addCell 2 none ∈ TB := tg (tl2 174 rfl) rfl
theorem tw_2_175 : Cond.methodLink RX5 116 yX5_servingRule ∈ TB := tg (tl2 175 rfl) rfl
theorem tw_2_177 : Cond.instanceMethod yX5_servingRule ∈ TB := tg (tl2 177 rfl) rfl
theorem tw_2_178 : Cond.code yX5_servingRule cX5_servingRule 4 (some .int) ∈ TB := tg (tl2 178 rfl) rfl
theorem tw_2_179 : Cond.methodLink RX5 135 yX5_ruleAt ∈ TB := tg (tl2 179 rfl) rfl
theorem tw_2_181 : Cond.instanceMethod yX5_ruleAt ∈ TB := tg (tl2 181 rfl) rfl
theorem tw_2_182 : Cond.code yX5_ruleAt cX5_ruleAt 6 (some .int) ∈ TB := tg (tl2 182 rfl) rfl
theorem tw_2_183 : Cond.methodLink RX5 138 yX0_ruleOfCode ∈ TB := tg (tl2 183 rfl) rfl
theorem tw_2_184 : Cond.methodLink RX5 144 yX5_mayStand ∈ TB := tg (tl2 184 rfl) rfl
theorem tw_2_186 : Cond.instanceMethod yX5_mayStand ∈ TB := tg (tl2 186 rfl) rfl
theorem tw_2_187 : Cond.code yX5_mayStand cX5_mayStand 6 (some .boolean) ∈ TB := tg (tl2 187 rfl) rfl
theorem tw_2_188 : Cond.methodLink RX5 119 yX5_writeLetter ∈ TB := tg (tl2 188 rfl) rfl
theorem tw_2_190 : Cond.instanceMethod yX5_writeLetter ∈ TB := tg (tl2 190 rfl) rfl
theorem tw_2_191 : Cond.code yX5_writeLetter cX5_writeLetter 2 (some .int) ∈ TB := tg (tl2 191 rfl) rfl
theorem tw_2_192 : Cond.methodLink RX5 122 yX5_writeRule ∈ TB := tg (tl2 192 rfl) rfl
theorem tw_2_194 : Cond.instanceMethod yX5_writeRule ∈ TB := tg (tl2 194 rfl) rfl
theorem tw_2_195 : Cond.code yX5_writeRule cX5_writeRule 3 (some .int) ∈ TB := tg (tl2 195 rfl) rfl
theorem nw_2_196 : Cond.methodLinkNest RX5 132 yX6_lettersOf "RaisedDots" ∈ lw_tbl := tl2 196 rfl
theorem nw_2_197 : Cond.methodLinkNest RX5 74 yX6_isFigure "RaisedDots" ∈ lw_tbl := tl2 197 rfl
theorem tw_2_198 : Cond.methodLink RX5 77 yX5_writeFigure ∈ TB := tg (tl2 198 rfl) rfl
theorem tw_2_200 : Cond.instanceMethod yX5_writeFigure ∈ TB := tg (tl2 200 rfl) rfl
theorem tw_2_201 : Cond.code yX5_writeFigure cX5_writeFigure 3 none ∈ TB := tg (tl2 201 rfl) rfl
theorem nw_2_202 : Cond.methodLinkNest RX5 97 yX6_cellOfFigure "RaisedDots" ∈ lw_tbl := tl2 202 rfl
theorem tw_2_203 : Cond.static yX6_cellOfFigure ∈ TB := tg (tl2 203 rfl) rfl
theorem tw_2_204 : Cond.code yX6_cellOfFigure cX6_cellOfFigure 1 (some .int) ∈ TB := tg (tl2 204 rfl) rfl
theorem nw_2_205 : Cond.methodLinkNest RX5 81 yX6_isOfWord "RaisedDots" ∈ lw_tbl := tl2 205 rfl
theorem nw_2_206 : Cond.methodLinkNest RX5 84 yX6_cellOfMark "RaisedDots" ∈ lw_tbl := tl2 206 rfl
theorem tw_2_207 : Cond.static yX6_cellOfMark ∈ TB := tg (tl2 207 rfl) rfl
theorem tw_2_208 : Cond.code yX6_cellOfMark cX6_cellOfMark 1 (some .int) ∈ TB := tg (tl2 208 rfl) rfl
theorem tw_2_209 : Cond.methodLink RX6 145 yX5_fewest ∈ TB := tg (tl2 209 rfl) rfl
theorem tw_2_210 : Cond.instanceMethod yX5_fewest ∈ TB := tg (tl2 210 rfl) rfl
theorem tw_2_211 : Cond.selects RX5 yX5_fewest yX5_fewest ∈ TB := tg (tl2 211 rfl) rfl
theorem tw_2_212 : Cond.code yX5_fewest cX5_fewest 3 (some .int) ∈ TB := tg (tl2 212 rfl) rfl
theorem tw_2_213 : Cond.methodLink RX5 90 yX5_fewestOfWord ∈ TB := tg (tl2 213 rfl) rfl
theorem tw_2_215 : Cond.instanceMethod yX5_fewestOfWord ∈ TB := tg (tl2 215 rfl) rfl
theorem tw_2_216 : Cond.code yX5_fewestOfWord cX5_fewestOfWord 4 (some .int) ∈ TB := tg (tl2 216 rfl) rfl
theorem tw_2_217 : Cond.methodLink RX5 148 Lib.Math.min.name ∈ TB := tg (tl2 217 rfl) rfl
theorem tw_2_218 : Cond.methodLink RX6 148 yX6_layLines ∈ TB := tg (tl2 218 rfl) rfl
theorem tw_2_220 : Cond.instanceMethod yX6_layLines ∈ TB := tg (tl2 220 rfl) rfl
theorem tw_2_221 : Cond.code yX6_layLines cX6_layLines 2 (some .int) ∈ TB := tg (tl2 221 rfl) rfl
theorem tw_2_222 : Cond.methodLink RX6 210 yX2_lay ∈ TB := tg (tl2 222 rfl) rfl
theorem tw_2_223 : Cond.instanceMethod yX2_lay ∈ TB := tg (tl2 223 rfl) rfl
theorem tw_2_224 : Cond.selects RX2 yX2_lay yX2_lay ∈ TB := tg (tl2 224 rfl) rfl
theorem tw_2_225 : Cond.code yX2_lay cX2_lay 6 (some .int) ∈ TB := tg (tl2 225 rfl) rfl
theorem tw_2_226 : Cond.methodLink RX2 28 yX2_endOfPiece ∈ TB := tg (tl2 226 rfl) rfl
theorem tw_2_227 : Cond.static yX2_endOfPiece ∈ TB := tg (tl2 227 rfl) rfl
theorem tw_2_228 : Cond.code yX2_endOfPiece cX2_endOfPiece 4 (some .int) ∈ TB := tg (tl2 228 rfl) rfl
theorem tw_2_229 : Cond.methodLink RX2 32 yX2_layPiece ∈ TB := tg (tl2 229 rfl) rfl
theorem tw_2_231 : Cond.instanceMethod yX2_layPiece ∈ TB := tg (tl2 231 rfl) rfl
theorem tw_2_232 : Cond.code yX2_layPiece cX2_layPiece 5 none ∈ TB := tg (tl2 232 rfl) rfl
theorem tw_2_233 : Cond.methodLink RX2 36 yX2_lengthOfLast ∈ TB := tg (tl2 233 rfl) rfl
theorem tw_2_235 : Cond.instanceMethod yX2_lengthOfLast ∈ TB := tg (tl2 235 rfl) rfl
theorem tw_2_236 : Cond.code yX2_lengthOfLast cX2_lengthOfLast 1 (some .int) ∈ TB := tg (tl2 236 rfl) rfl
theorem tw_2_237 : Cond.methodLink RX2 40 yX2_addLaid ∈ TB := tg (tl2 237 rfl) rfl
theorem tw_2_239 : Cond.instanceMethod yX2_addLaid ∈ TB := tg (tl2 239 rfl) rfl
theorem tw_3_0 : Cond.code yX2_addLaid cX2_addLaid 2 none ∈ TB := tg (tl3 0 rfl) rfl
theorem tw_3_1 : Cond.methodLink RX2 44 yX2_beginLine ∈ TB := tg (tl3 1 rfl) rfl
theorem tw_3_3 : Cond.instanceMethod yX2_beginLine ∈ TB := tg (tl3 3 rfl) rfl
theorem tw_3_4 : Cond.code yX2_beginLine cX2_beginLine 1 none ∈ TB := tg (tl3 4 rfl) rfl
theorem tw_3_5 : Cond.methodLink RX6 151 yX6_pagesOf ∈ TB := tg (tl3 5 rfl) rfl
theorem tw_3_7 : Cond.instanceMethod yX6_pagesOf ∈ TB := tg (tl3 7 rfl) rfl
theorem tw_3_8 : Cond.code yX6_pagesOf cX6_pagesOf 3 (some .int) ∈ TB := tg (tl3 8 rfl) rfl
theorem tw_3_9 : Cond.methodLink RX6 214 Lib.Math.max.name ∈ TB := tg (tl3 9 rfl) rfl
theorem tw_3_10 : Cond.static Lib.Math.max.name ∈ TB := tg (tl3 10 rfl) rfl
theorem tw_3_11 : Cond.code Lib.Math.max.name Lib.Math.max.code 2 (some .int) ∈ TB := tg (tl3 11 rfl) rfl
theorem tw_3_12 : Cond.methodLink RL 49 yX6_cell ∈ TB := tg (tl3 12 rfl) rfl
theorem tw_3_13 : Cond.instanceMethod yX6_cell ∈ TB := tg (tl3 13 rfl) rfl
theorem tw_3_14 : Cond.selects RX6 yX6_cell yX6_cell ∈ TB := tg (tl3 14 rfl) rfl
theorem tw_3_15 : Cond.code yX6_cell cX6_cell 3 (some .int) ∈ TB := tg (tl3 15 rfl) rfl
theorem tw_3_16 : Cond.methodLink RL 53 yX6_line ∈ TB := tg (tl3 16 rfl) rfl
theorem tw_3_17 : Cond.instanceMethod yX6_line ∈ TB := tg (tl3 17 rfl) rfl
theorem tw_3_18 : Cond.selects RX6 yX6_line yX6_line ∈ TB := tg (tl3 18 rfl) rfl
theorem tw_3_19 : Cond.code yX6_line cX6_line 3 (some .int) ∈ TB := tg (tl3 19 rfl) rfl
theorem tw_3_20 : Cond.methodLink RX6 157 yX2_cellOf ∈ TB := tg (tl3 20 rfl) rfl
theorem tw_3_21 : Cond.instanceMethod yX2_cellOf ∈ TB := tg (tl3 21 rfl) rfl
theorem tw_3_22 : Cond.selects RX2 yX2_cellOf yX2_cellOf ∈ TB := tg (tl3 22 rfl) rfl
theorem tw_3_23 : Cond.code yX2_cellOf cX2_cellOf 4 (some .int) ∈ TB := tg (tl3 23 rfl) rfl
theorem tw_3_24 : Cond.methodLink RL 57 yX6_ofRule ∈ TB := tg (tl3 24 rfl) rfl
theorem tw_3_25 : Cond.instanceMethod yX6_ofRule ∈ TB := tg (tl3 25 rfl) rfl
theorem tw_3_26 : Cond.selects RX6 yX6_ofRule yX6_ofRule ∈ TB := tg (tl3 26 rfl) rfl
theorem tw_3_27 : Cond.code yX6_ofRule cX6_ofRule 3 (some .int) ∈ TB := tg (tl3 27 rfl) rfl
theorem tw_3_28 : Cond.methodLink RL 61 yX6_by ∈ TB := tg (tl3 28 rfl) rfl
theorem tw_3_29 : Cond.instanceMethod yX6_by ∈ TB := tg (tl3 29 rfl) rfl
theorem tw_3_30 : Cond.selects RX6 yX6_by yX6_by ∈ TB := tg (tl3 30 rfl) rfl
theorem tw_3_31 : Cond.code yX6_by cX6_by 2 (some .int) ∈ TB := tg (tl3 31 rfl) rfl
theorem tw_3_32 : Cond.methodLink RX6 176 yX6_isCell ∈ TB := tg (tl3 32 rfl) rfl
theorem tw_3_33 : Cond.static yX6_isCell ∈ TB := tg (tl3 33 rfl) rfl
theorem tw_3_34 : Cond.code yX6_isCell cX6_isCell 1 (some .boolean) ∈ TB := tg (tl3 34 rfl) rfl
theorem tw_3_35 : Cond.methodLink RX6 179 yX0_ruleOfCell ∈ TB := tg (tl3 35 rfl) rfl
theorem tw_3_36 : Cond.methodLink RL 65 yX6_feel ∈ TB := tg (tl3 36 rfl) rfl
theorem tw_3_37 : Cond.instanceMethod yX6_feel ∈ TB := tg (tl3 37 rfl) rfl
theorem tw_3_38 : Cond.selects RX6 yX6_feel yX6_feel ∈ TB := tg (tl3 38 rfl) rfl
theorem tw_3_39 : Cond.code yX6_feel cX6_feel 2 (some .int) ∈ TB := tg (tl3 39 rfl) rfl
theorem tw_3_40 : Cond.methodLink RL 69 yX6_feelAll ∈ TB := tg (tl3 40 rfl) rfl
theorem tw_3_41 : Cond.instanceMethod yX6_feelAll ∈ TB := tg (tl3 41 rfl) rfl
theorem tw_3_42 : Cond.selects RX6 yX6_feelAll yX6_feelAll ∈ TB := tg (tl3 42 rfl) rfl
theorem tw_3_43 : Cond.code yX6_feelAll cX6_feelAll 1 (some .int) ∈ TB := tg (tl3 43 rfl) rfl
theorem tw_3_44 : Cond.methodLink RX6 182 arraycopyName ∈ TB := tg (tl3 44 rfl) rfl
theorem tw_3_45 : Cond.methodLink RL 73 yX6_read ∈ TB := tg (tl3 45 rfl) rfl
theorem tw_3_46 : Cond.instanceMethod yX6_read ∈ TB := tg (tl3 46 rfl) rfl
theorem tw_3_47 : Cond.selects RX6 yX6_read yX6_read ∈ TB := tg (tl3 47 rfl) rfl
theorem tw_3_48 : Cond.code yX6_read cX6_read 1 (some .int) ∈ TB := tg (tl3 48 rfl) rfl
theorem tw_3_49 : Cond.methodLink RX6 188 yX4_readBack ∈ TB := tg (tl3 49 rfl) rfl
theorem tw_3_50 : Cond.instanceMethod yX4_readBack ∈ TB := tg (tl3 50 rfl) rfl
theorem tw_3_51 : Cond.selects RX4 yX4_readBack yX4_readBack ∈ TB := tg (tl3 51 rfl) rfl
theorem tw_3_52 : Cond.code yX4_readBack cX4_readBack 4 none ∈ TB := tg (tl3 52 rfl) rfl
theorem tw_3_53 : Cond.methodLink RX4 38 Lib.Math.min.name ∈ TB := tg (tl3 53 rfl) rfl
theorem tw_3_54 : Cond.methodLink RX4 44 yX4_readAt ∈ TB := tg (tl3 54 rfl) rfl
theorem tw_3_56 : Cond.instanceMethod yX4_readAt ∈ TB := tg (tl3 56 rfl) rfl
theorem tw_3_57 : Cond.code yX4_readAt cX4_readAt 3 (some .int) ∈ TB := tg (tl3 57 rfl) rfl
theorem tw_3_58 : Cond.methodLink RX4 48 yX4_cellAt ∈ TB := tg (tl3 58 rfl) rfl
theorem tw_3_60 : Cond.instanceMethod yX4_cellAt ∈ TB := tg (tl3 60 rfl) rfl
theorem tw_3_61 : Cond.code yX4_cellAt cX4_cellAt 2 (some .int) ∈ TB := tg (tl3 61 rfl) rfl
theorem tw_3_62 : Cond.methodLink RX4 51 yX4_readCapitals ∈ TB := tg (tl3 62 rfl) rfl
theorem tw_3_64 : Cond.instanceMethod yX4_readCapitals ∈ TB := tg (tl3 64 rfl) rfl
theorem tw_3_65 : Cond.code yX4_readCapitals cX4_readCapitals 4 (some .int) ∈ TB := tg (tl3 65 rfl) rfl
theorem nw_3_66 : Cond.methodLinkNest RX4 83 yX6_isLetterCell "RaisedDots" ∈ lw_tbl := tl3 66 rfl
theorem tw_3_67 : Cond.static yX6_isLetterCell ∈ TB := tg (tl3 67 rfl) rfl
theorem tw_3_68 : Cond.code yX6_isLetterCell cX6_isLetterCell 1 (some .boolean) ∈ TB := tg (tl3 68 rfl) rfl
theorem tw_3_69 : Cond.methodLink RX4 104 yX4_isRule ∈ TB := tg (tl3 69 rfl) rfl
theorem tw_3_71 : Cond.instanceMethod yX4_isRule ∈ TB := tg (tl3 71 rfl) rfl
theorem tw_3_72 : Cond.code yX4_isRule cX4_isRule 2 (some .boolean) ∈ TB := tg (tl3 72 rfl) rfl
theorem nw_3_73 : Cond.methodLinkNest RX4 68 yX6_isRuleCell "RaisedDots" ∈ lw_tbl := tl3 73 rfl
theorem tw_3_74 : Cond.methodLink RX4 72 yX0_ruleOfCell ∈ TB := tg (tl3 74 rfl) rfl
theorem tw_3_75 : Cond.methodLink RX4 86 yX4_addLetters ∈ TB := tg (tl3 75 rfl) rfl
theorem tw_3_77 : Cond.instanceMethod yX4_addLetters ∈ TB := tg (tl3 77 rfl) rfl
theorem tw_3_78 : Cond.code yX4_addLetters cX4_addLetters 8 none ∈ TB := tg (tl3 78 rfl) rfl
theorem tw_3_79 : Cond.methodLink RX4 92 yX4_addSign ∈ TB := tg (tl3 79 rfl) rfl
theorem tw_3_81 : Cond.instanceMethod yX4_addSign ∈ TB := tg (tl3 81 rfl) rfl
theorem tw_3_82 : Cond.code yX4_addSign cX4_addSign 2 none ∈ TB := tg (tl3 82 rfl) rfl
theorem nw_3_83 : Cond.methodLinkNest RX4 98 yX6_lettersOf "RaisedDots" ∈ lw_tbl := tl3 83 rfl
theorem tw_3_84 : Cond.methodLink RX4 101 yX4_failWrongAt ∈ TB := tg (tl3 84 rfl) rfl
theorem tw_3_86 : Cond.instanceMethod yX4_failWrongAt ∈ TB := tg (tl3 86 rfl) rfl
theorem tw_3_87 : Cond.code yX4_failWrongAt cX4_failWrongAt 2 none ∈ TB := tg (tl3 87 rfl) rfl
theorem tw_3_88 : Cond.methodLink RX4 77 yX4_isNoSuchCell ∈ TB := tg (tl3 88 rfl) rfl
theorem tw_3_90 : Cond.instanceMethod yX4_isNoSuchCell ∈ TB := tg (tl3 90 rfl) rfl
theorem tw_3_91 : Cond.code yX4_isNoSuchCell cX4_isNoSuchCell 2 (some .boolean) ∈ TB := tg (tl3 91 rfl) rfl
theorem tw_3_92 : Cond.methodLink RX4 80 yX4_failAt ∈ TB := tg (tl3 92 rfl) rfl
theorem tw_3_94 : Cond.instanceMethod yX4_failAt ∈ TB := tg (tl3 94 rfl) rfl
theorem tw_3_95 : Cond.code yX4_failAt cX4_failAt 3 none ∈ TB := tg (tl3 95 rfl) rfl
theorem tw_3_96 : Cond.methodLink RX4 54 yX4_readCapital ∈ TB := tg (tl3 96 rfl) rfl
theorem tw_3_98 : Cond.instanceMethod yX4_readCapital ∈ TB := tg (tl3 98 rfl) rfl
theorem tw_3_99 : Cond.code yX4_readCapital cX4_readCapital 3 (some .int) ∈ TB := tg (tl3 99 rfl) rfl
theorem tw_3_100 : Cond.methodLink RX4 57 yX4_readFigures ∈ TB := tg (tl3 100 rfl) rfl
theorem tw_3_102 : Cond.instanceMethod yX4_readFigures ∈ TB := tg (tl3 102 rfl) rfl
theorem tw_3_103 : Cond.code yX4_readFigures cX4_readFigures 4 (some .int) ∈ TB := tg (tl3 103 rfl) rfl
theorem nw_3_104 : Cond.methodLinkNest RX4 107 yX6_isFigureCell "RaisedDots" ∈ lw_tbl := tl3 104 rfl
theorem tw_3_105 : Cond.static yX6_isFigureCell ∈ TB := tg (tl3 105 rfl) rfl
theorem tw_3_106 : Cond.code yX6_isFigureCell cX6_isFigureCell 1 (some .boolean) ∈ TB := tg (tl3 106 rfl) rfl
theorem nw_3_107 : Cond.methodLinkNest RX4 110 yX6_signOfFigureCell "RaisedDots" ∈ lw_tbl := tl3 107 rfl
theorem tw_3_108 : Cond.static yX6_signOfFigureCell ∈ TB := tg (tl3 108 rfl) rfl
theorem tw_3_109 : Cond.code yX6_signOfFigureCell cX6_signOfFigureCell 1 (some .int) ∈ TB := tg (tl3 109 rfl) rfl
theorem nw_3_110 : Cond.methodLinkNest RX4 113 yX6_isPointOrCommaCell "RaisedDots" ∈ lw_tbl := tl3 110 rfl
theorem tw_3_111 : Cond.static yX6_isPointOrCommaCell ∈ TB := tg (tl3 111 rfl) rfl
theorem tw_3_112 : Cond.code yX6_isPointOrCommaCell cX6_isPointOrCommaCell 1 (some .boolean) ∈ TB := tg (tl3 112 rfl) rfl
theorem nw_3_113 : Cond.methodLinkNest RX4 89 yX6_signOfMarkCell "RaisedDots" ∈ lw_tbl := tl3 113 rfl
theorem tw_3_114 : Cond.static yX6_signOfMarkCell ∈ TB := tg (tl3 114 rfl) rfl
theorem tw_3_115 : Cond.code yX6_signOfMarkCell cX6_signOfMarkCell 1 (some .int) ∈ TB := tg (tl3 115 rfl) rfl
theorem tw_3_116 : Cond.methodLink RX4 60 yX4_checkLetters ∈ TB := tg (tl3 116 rfl) rfl
theorem tw_3_118 : Cond.instanceMethod yX4_checkLetters ∈ TB := tg (tl3 118 rfl) rfl
theorem tw_3_119 : Cond.code yX4_checkLetters cX4_checkLetters 3 none ∈ TB := tg (tl3 119 rfl) rfl
theorem tw_3_120 : Cond.methodLink RX4 116 yX4_isBehindFigures ∈ TB := tg (tl3 120 rfl) rfl
theorem tw_3_122 : Cond.instanceMethod yX4_isBehindFigures ∈ TB := tg (tl3 122 rfl) rfl
theorem tw_3_123 : Cond.code yX4_isBehindFigures cX4_isBehindFigures 2 (some .boolean) ∈ TB := tg (tl3 123 rfl) rfl
theorem tw_3_124 : Cond.methodLink RX4 64 yX4_readPlain ∈ TB := tg (tl3 124 rfl) rfl
theorem tw_3_126 : Cond.instanceMethod yX4_readPlain ∈ TB := tg (tl3 126 rfl) rfl
theorem tw_3_127 : Cond.code yX4_readPlain cX4_readPlain 3 none ∈ TB := tg (tl3 127 rfl) rfl
theorem tw_3_128 : Cond.methodLink RL 77 yX6_fault ∈ TB := tg (tl3 128 rfl) rfl
theorem tw_3_129 : Cond.instanceMethod yX6_fault ∈ TB := tg (tl3 129 rfl) rfl
theorem tw_3_130 : Cond.selects RX6 yX6_fault yX6_fault ∈ TB := tg (tl3 130 rfl) rfl
theorem tw_3_131 : Cond.code yX6_fault cX6_fault 1 (some .int) ∈ TB := tg (tl3 131 rfl) rfl
theorem tw_3_132 : Cond.methodLink RL 81 yX6_sign ∈ TB := tg (tl3 132 rfl) rfl
theorem tw_3_133 : Cond.instanceMethod yX6_sign ∈ TB := tg (tl3 133 rfl) rfl
theorem tw_3_134 : Cond.selects RX6 yX6_sign yX6_sign ∈ TB := tg (tl3 134 rfl) rfl
theorem tw_3_135 : Cond.code yX6_sign cX6_sign 2 (some .int) ∈ TB := tg (tl3 135 rfl) rfl
theorem tw_3_136 : Cond.methodLink RL 85 yX6_rest ∈ TB := tg (tl3 136 rfl) rfl
theorem tw_3_137 : Cond.instanceMethod yX6_rest ∈ TB := tg (tl3 137 rfl) rfl
theorem tw_3_138 : Cond.selects RX6 yX6_rest yX6_rest ∈ TB := tg (tl3 138 rfl) rfl
theorem tw_3_139 : Cond.code yX6_rest cX6_rest 2 (some .int) ∈ TB := tg (tl3 139 rfl) rfl
theorem tw_3_140 : Cond.methodLink RL 89 yX6_keep ∈ TB := tg (tl3 140 rfl) rfl
theorem tw_3_141 : Cond.instanceMethod yX6_keep ∈ TB := tg (tl3 141 rfl) rfl
theorem tw_3_142 : Cond.selects RX6 yX6_keep yX6_keep ∈ TB := tg (tl3 142 rfl) rfl
theorem tw_3_143 : Cond.code yX6_keep cX6_keep 2 (some .int) ∈ TB := tg (tl3 143 rfl) rfl
theorem tw_3_144 : Cond.methodLink RX6 201 yX0_copyFrom ∈ TB := tg (tl3 144 rfl) rfl
theorem tw_3_145 : Cond.methodLink RX6 204 yX1_forget ∈ TB := tg (tl3 145 rfl) rfl
theorem tw_3_146 : Cond.instanceMethod yX1_forget ∈ TB := tg (tl3 146 rfl) rfl
theorem tw_3_147 : Cond.selects RX1 yX1_forget yX1_forget ∈ TB := tg (tl3 147 rfl) rfl
theorem tw_3_148 : Cond.code yX1_forget cX1_forget 1 none ∈ TB := tg (tl3 148 rfl) rfl
theorem tw_3_149 : Cond.methodLink RL 93 yX6_goBack ∈ TB := tg (tl3 149 rfl) rfl
theorem tw_3_150 : Cond.instanceMethod yX6_goBack ∈ TB := tg (tl3 150 rfl) rfl
theorem tw_3_151 : Cond.selects RX6 yX6_goBack yX6_goBack ∈ TB := tg (tl3 151 rfl) rfl
theorem tw_3_152 : Cond.code yX6_goBack cX6_goBack 2 (some .int) ∈ TB := tg (tl3 152 rfl) rfl
theorem tw_3_153 : Cond.classLink RL 10 RX7 ∈ TB := tg (tl3 153 rfl) rfl
theorem tw_3_154 : Cond.instantiable RX7 22 ∈ TB := tg (tl3 154 rfl) rfl
theorem tw_3_155 : Cond.methodLink RL 12 yX7_init ∈ TB := tg (tl3 155 rfl) rfl
theorem tw_3_156 : Cond.instanceMethod yX7_init ∈ TB := tg (tl3 156 rfl) rfl
theorem tw_3_157 : Cond.code yX7_init cX7_init 1 none ∈ TB := tg (tl3 157 rfl) rfl
theorem tw_3_158 : Cond.methodLink RX7 1 objectInit ∈ TB := tg (tl3 158 rfl) rfl
theorem tw_3_159 : Cond.fieldLink RX7 7 "RaisedDotsModel" "st" "[I" ∈ TB := tg (tl3 159 rfl) rfl
theorem tw_3_160 : Cond.fieldLink RX7 13 "RaisedDotsModel" "past" "[I" ∈ TB := tg (tl3 160 rfl) rfl
theorem tw_3_161 : Cond.fieldLink RX7 78 "RaisedDotsModel" "undoMany" "I" ∈ TB := tg (tl3 161 rfl) rfl
theorem tw_3_162 : Cond.fieldLink RX7 16 "RaisedDotsModel" "kept" "[I" ∈ TB := tg (tl3 162 rfl) rfl
theorem tw_3_163 : Cond.fieldLink RX7 19 "RaisedDotsModel" "isKept" "[Z" ∈ TB := tg (tl3 163 rfl) rfl
theorem tw_3_164 : Cond.fieldLink RX7 111 "RaisedDotsModel" "lot" "J" ∈ TB := tg (tl3 164 rfl) rfl
theorem tw_3_165 : Cond.fieldLink RX7 23 "RaisedDotsModel" "cells" "[I" ∈ TB := tg (tl3 165 rfl) rfl
theorem tw_3_166 : Cond.fieldLink RX7 138 "RaisedDotsModel" "cellMany" "I" ∈ TB := tg (tl3 166 rfl) rfl
theorem tw_3_167 : Cond.fieldLink RX7 26 "RaisedDotsModel" "serves" "[I" ∈ TB := tg (tl3 167 rfl) rfl
theorem tw_3_168 : Cond.fieldLink RX7 29 "RaisedDotsModel" "firsts" "[I" ∈ TB := tg (tl3 168 rfl) rfl
theorem tw_3_169 : Cond.fieldLink RX7 32 "RaisedDotsModel" "fewestFrom" "[I" ∈ TB := tg (tl3 169 rfl) rfl
theorem tw_3_170 : Cond.fieldLink RX7 201 "RaisedDotsModel" "lineMany" "I" ∈ TB := tg (tl3 170 rfl) rfl
theorem tw_3_171 : Cond.fieldLink RX7 186 "RaisedDotsModel" "wantedLine" "I" ∈ TB := tg (tl3 171 rfl) rfl
theorem tw_3_172 : Cond.fieldLink RX7 189 "RaisedDotsModel" "wantedPlace" "I" ∈ TB := tg (tl3 172 rfl) rfl
theorem tw_3_173 : Cond.fieldLink RX7 192 "RaisedDotsModel" "found" "I" ∈ TB := tg (tl3 173 rfl) rfl
theorem tw_3_174 : Cond.fieldLink RX7 35 "RaisedDotsModel" "felt" "[I" ∈ TB := tg (tl3 174 rfl) rfl
theorem tw_3_175 : Cond.fieldLink RX7 224 "RaisedDotsModel" "feltMany" "I" ∈ TB := tg (tl3 175 rfl) rfl
theorem tw_3_176 : Cond.fieldLink RX7 38 "RaisedDotsModel" "signs" "[I" ∈ TB := tg (tl3 176 rfl) rfl
theorem tw_3_177 : Cond.fieldLink RX7 245 "RaisedDotsModel" "signMany" "I" ∈ TB := tg (tl3 177 rfl) rfl
theorem tw_3_178 : Cond.fieldLink RX7 242 "RaisedDotsModel" "faultAt" "I" ∈ TB := tg (tl3 178 rfl) rfl
theorem tw_3_179 : Cond.fieldLink RX7 254 "RaisedDotsModel" "place" "I" ∈ TB := tg (tl3 179 rfl) rfl
theorem tw_3_180 : Cond.fieldLink RX7 270 "RaisedDotsModel" "figuresTo" "I" ∈ TB := tg (tl3 180 rfl) rfl
theorem tw_3_226 : Cond.methodLink RL 17 yX7_rule ∈ TB := tg (tl3 226 rfl) rfl
theorem tw_3_227 : Cond.instanceMethod yX7_rule ∈ TB := tg (tl3 227 rfl) rfl
theorem tw_3_228 : Cond.selects RX7 yX7_rule yX7_rule ∈ TB := tg (tl3 228 rfl) rfl
theorem tw_3_229 : Cond.code yX7_rule cX7_rule 4 (some .int) ∈ TB := tg (tl3 229 rfl) rfl
theorem tw_3_230 : Cond.methodLink RX7 82 yX7_isCode ∈ TB := tg (tl3 230 rfl) rfl
theorem tw_3_231 : Cond.static yX7_isCode ∈ TB := tg (tl3 231 rfl) rfl
theorem tw_3_232 : Cond.code yX7_isCode cX7_isCode 3 (some .boolean) ∈ TB := tg (tl3 232 rfl) rfl
theorem tw_3_233 : Cond.constantLong RX7 68 (531440) ∈ TB := tg (tl3 233 rfl) rfl
theorem tw_3_234 : Cond.methodLink RX7 45 yX7_in ∈ TB := tg (tl3 234 rfl) rfl
theorem tw_3_235 : Cond.static yX7_in ∈ TB := tg (tl3 235 rfl) rfl
theorem tw_3_236 : Cond.code yX7_in cX7_in 6 (some .boolean) ∈ TB := tg (tl3 236 rfl) rfl
theorem tw_3_237 : Cond.methodLink RX7 64 yX7_lettersOf ∈ TB := tg (tl3 237 rfl) rfl
theorem tw_3_238 : Cond.static yX7_lettersOf ∈ TB := tg (tl3 238 rfl) rfl
theorem tw_3_239 : Cond.code yX7_lettersOf cX7_lettersOf 3 (some .int) ∈ TB := tg (tl3 239 rfl) rfl
theorem tw_4_0 : Cond.constantLong RX7 70 (2) ∈ TB := tg (tl4 0 rfl) rfl
theorem tw_4_1 : Cond.constantLong RX7 72 (4) ∈ TB := tg (tl4 1 rfl) rfl
theorem tw_4_2 : Cond.methodLink RX7 74 yX7_letterOf ∈ TB := tg (tl4 2 rfl) rfl
theorem tw_4_3 : Cond.static yX7_letterOf ∈ TB := tg (tl4 3 rfl) rfl
theorem tw_4_4 : Cond.code yX7_letterOf cX7_letterOf 4 (some .int) ∈ TB := tg (tl4 4 rfl) rfl
theorem tw_4_5 : Cond.constantLong RX7 85 (30) ∈ TB := tg (tl4 5 rfl) rfl
theorem tw_4_6 : Cond.constantLong RX7 87 (59) ∈ TB := tg (tl4 6 rfl) rfl
theorem tw_4_7 : Cond.constant RX7 89 (-1000000002) ∈ TB := tg (tl4 7 rfl) rfl
theorem tw_4_8 : Cond.methodLink RX7 90 yX7_isTaken ∈ TB := tg (tl4 8 rfl) rfl
theorem tw_4_10 : Cond.instanceMethod yX7_isTaken ∈ TB := tg (tl4 10 rfl) rfl
theorem tw_4_11 : Cond.code yX7_isTaken cX7_isTaken 5 (some .boolean) ∈ TB := tg (tl4 11 rfl) rfl
theorem tw_4_12 : Cond.constant RX7 94 (-1000000003) ∈ TB := tg (tl4 12 rfl) rfl
theorem tw_4_13 : Cond.constant RX7 95 (-1000000004) ∈ TB := tg (tl4 13 rfl) rfl
theorem tw_4_14 : Cond.methodLink RX7 96 yX7_note ∈ TB := tg (tl4 14 rfl) rfl
theorem tw_4_16 : Cond.instanceMethod yX7_note ∈ TB := tg (tl4 16 rfl) rfl
theorem tw_4_17 : Cond.code yX7_note cX7_note 2 none ∈ TB := tg (tl4 17 rfl) rfl
theorem tw_4_18 : Cond.methodLink RX7 99 yX7_addRule ∈ TB := tg (tl4 18 rfl) rfl
theorem tw_4_20 : Cond.instanceMethod yX7_addRule ∈ TB := tg (tl4 20 rfl) rfl
theorem tw_4_21 : Cond.code yX7_addRule cX7_addRule 5 none ∈ TB := tg (tl4 21 rfl) rfl
theorem tw_4_22 : Cond.methodLink RL 22 yX7_drop ∈ TB := tg (tl4 22 rfl) rfl
theorem tw_4_23 : Cond.instanceMethod yX7_drop ∈ TB := tg (tl4 23 rfl) rfl
theorem tw_4_24 : Cond.selects RX7 yX7_drop yX7_drop ∈ TB := tg (tl4 24 rfl) rfl
theorem tw_4_25 : Cond.code yX7_drop cX7_drop 4 (some .int) ∈ TB := tg (tl4 25 rfl) rfl
theorem tw_4_26 : Cond.methodLink RX7 103 yX7_isRule ∈ TB := tg (tl4 26 rfl) rfl
theorem tw_4_28 : Cond.instanceMethod yX7_isRule ∈ TB := tg (tl4 28 rfl) rfl
theorem tw_4_29 : Cond.code yX7_isRule cX7_isRule 2 (some .boolean) ∈ TB := tg (tl4 29 rfl) rfl
theorem tw_4_30 : Cond.constant RX7 106 (-1000000001) ∈ TB := tg (tl4 30 rfl) rfl
theorem tw_4_31 : Cond.methodLink RL 27 yX7_set ∈ TB := tg (tl4 31 rfl) rfl
theorem tw_4_32 : Cond.instanceMethod yX7_set ∈ TB := tg (tl4 32 rfl) rfl
theorem tw_4_33 : Cond.selects RX7 yX7_set yX7_set ∈ TB := tg (tl4 33 rfl) rfl
theorem tw_4_34 : Cond.code yX7_set cX7_set 4 (some .int) ∈ TB := tg (tl4 34 rfl) rfl
theorem tw_4_35 : Cond.constantLong RX7 107 (40) ∈ TB := tg (tl4 35 rfl) rfl
theorem tw_4_36 : Cond.constantLong RX7 109 (20) ∈ TB := tg (tl4 36 rfl) rfl
theorem tw_4_37 : Cond.methodLink RL 31 yX7_drift ∈ TB := tg (tl4 37 rfl) rfl
theorem tw_4_38 : Cond.instanceMethod yX7_drift ∈ TB := tg (tl4 38 rfl) rfl
theorem tw_4_39 : Cond.selects RX7 yX7_drift yX7_drift ∈ TB := tg (tl4 39 rfl) rfl
theorem tw_4_40 : Cond.code yX7_drift cX7_drift 9 (some .int) ∈ TB := tg (tl4 40 rfl) rfl
theorem tw_4_41 : Cond.constantLong RX7 119 (12) ∈ TB := tg (tl4 41 rfl) rfl
theorem tw_4_42 : Cond.constantLong RX7 121 (999999) ∈ TB := tg (tl4 42 rfl) rfl
theorem tw_4_43 : Cond.methodLink RX7 123 yX7_lotOf ∈ TB := tg (tl4 43 rfl) rfl
theorem tw_4_45 : Cond.instanceMethod yX7_lotOf ∈ TB := tg (tl4 45 rfl) rfl
theorem tw_4_46 : Cond.code yX7_lotOf cX7_lotOf 2 (some .int) ∈ TB := tg (tl4 46 rfl) rfl
theorem tw_4_47 : Cond.constantLong RX7 115 (16807) ∈ TB := tg (tl4 47 rfl) rfl
theorem tw_4_48 : Cond.constantLong RX7 117 (2147483647) ∈ TB := tg (tl4 48 rfl) rfl
theorem tw_4_49 : Cond.methodLink RL 35 yX7_text ∈ TB := tg (tl4 49 rfl) rfl
theorem tw_4_50 : Cond.instanceMethod yX7_text ∈ TB := tg (tl4 50 rfl) rfl
theorem tw_4_51 : Cond.selects RX7 yX7_text yX7_text ∈ TB := tg (tl4 51 rfl) rfl
theorem tw_4_52 : Cond.code yX7_text cX7_text 2 (some .int) ∈ TB := tg (tl4 52 rfl) rfl
theorem tw_4_53 : Cond.methodLink RX7 132 yX7_isSign ∈ TB := tg (tl4 53 rfl) rfl
theorem tw_4_54 : Cond.static yX7_isSign ∈ TB := tg (tl4 54 rfl) rfl
theorem tw_4_55 : Cond.code yX7_isSign cX7_isSign 1 (some .boolean) ∈ TB := tg (tl4 55 rfl) rfl
theorem tw_4_56 : Cond.methodLink RX7 126 yX7_isLetter ∈ TB := tg (tl4 56 rfl) rfl
theorem tw_4_57 : Cond.static yX7_isLetter ∈ TB := tg (tl4 57 rfl) rfl
theorem tw_4_58 : Cond.code yX7_isLetter cX7_isLetter 1 (some .boolean) ∈ TB := tg (tl4 58 rfl) rfl
theorem tw_4_59 : Cond.methodLink RX7 57 yX7_isSmall ∈ TB := tg (tl4 59 rfl) rfl
theorem tw_4_60 : Cond.static yX7_isSmall ∈ TB := tg (tl4 60 rfl) rfl
theorem tw_4_61 : Cond.code yX7_isSmall cX7_isSmall 1 (some .boolean) ∈ TB := tg (tl4 61 rfl) rfl
theorem tw_4_62 : Cond.constantLong RX7 41 (97) ∈ TB := tg (tl4 62 rfl) rfl
theorem tw_4_63 : Cond.constantLong RX7 43 (122) ∈ TB := tg (tl4 63 rfl) rfl
theorem tw_4_64 : Cond.methodLink RX7 61 yX7_isGreat ∈ TB := tg (tl4 64 rfl) rfl
theorem tw_4_65 : Cond.static yX7_isGreat ∈ TB := tg (tl4 65 rfl) rfl
theorem tw_4_66 : Cond.code yX7_isGreat cX7_isGreat 1 (some .boolean) ∈ TB := tg (tl4 66 rfl) rfl
theorem tw_4_67 : Cond.constantLong RX7 49 (65) ∈ TB := tg (tl4 67 rfl) rfl
theorem tw_4_68 : Cond.constantLong RX7 51 (90) ∈ TB := tg (tl4 68 rfl) rfl
theorem tw_4_69 : Cond.methodLink RX7 129 yX7_isFigure ∈ TB := tg (tl4 69 rfl) rfl
theorem tw_4_70 : Cond.static yX7_isFigure ∈ TB := tg (tl4 70 rfl) rfl
theorem tw_4_71 : Cond.code yX7_isFigure cX7_isFigure 1 (some .boolean) ∈ TB := tg (tl4 71 rfl) rfl
theorem tw_4_72 : Cond.constantLong RX7 53 (48) ∈ TB := tg (tl4 72 rfl) rfl
theorem tw_4_73 : Cond.constantLong RX7 55 (57) ∈ TB := tg (tl4 73 rfl) rfl
theorem tw_4_74 : Cond.methodLink RL 40 yX7_wipe ∈ TB := tg (tl4 74 rfl) rfl
theorem tw_4_75 : Cond.instanceMethod yX7_wipe ∈ TB := tg (tl4 75 rfl) rfl
theorem tw_4_76 : Cond.selects RX7 yX7_wipe yX7_wipe ∈ TB := tg (tl4 76 rfl) rfl
theorem tw_4_77 : Cond.code yX7_wipe cX7_wipe 3 (some .int) ∈ TB := tg (tl4 77 rfl) rfl
theorem tw_4_78 : Cond.methodLink RL 44 yX7_undo ∈ TB := tg (tl4 78 rfl) rfl
theorem tw_4_79 : Cond.instanceMethod yX7_undo ∈ TB := tg (tl4 79 rfl) rfl
theorem tw_4_80 : Cond.selects RX7 yX7_undo yX7_undo ∈ TB := tg (tl4 80 rfl) rfl
theorem tw_4_81 : Cond.code yX7_undo cX7_undo 2 (some .int) ∈ TB := tg (tl4 81 rfl) rfl
theorem tw_4_82 : Cond.methodLink RL 48 yX7_told ∈ TB := tg (tl4 82 rfl) rfl
theorem tw_4_83 : Cond.instanceMethod yX7_told ∈ TB := tg (tl4 83 rfl) rfl
theorem tw_4_84 : Cond.selects RX7 yX7_told yX7_told ∈ TB := tg (tl4 84 rfl) rfl
theorem tw_4_85 : Cond.code yX7_told cX7_told 2 (some .int) ∈ TB := tg (tl4 85 rfl) rfl
theorem tw_4_86 : Cond.methodLink RX7 212 yX7_words ∈ TB := tg (tl4 86 rfl) rfl
theorem tw_4_88 : Cond.instanceMethod yX7_words ∈ TB := tg (tl4 88 rfl) rfl
theorem tw_4_89 : Cond.code yX7_words cX7_words 3 (some .int) ∈ TB := tg (tl4 89 rfl) rfl
theorem tw_4_90 : Cond.methodLink RX7 135 yX7_sign0 ∈ TB := tg (tl4 90 rfl) rfl
theorem tw_4_92 : Cond.instanceMethod yX7_sign0 ∈ TB := tg (tl4 92 rfl) rfl
theorem tw_4_93 : Cond.code yX7_sign0 cX7_sign0 2 (some .int) ∈ TB := tg (tl4 93 rfl) rfl
theorem tw_4_94 : Cond.methodLink RX7 183 yX7_wordFrom ∈ TB := tg (tl4 94 rfl) rfl
theorem tw_4_96 : Cond.instanceMethod yX7_wordFrom ∈ TB := tg (tl4 96 rfl) rfl
theorem tw_4_97 : Cond.code yX7_wordFrom cX7_wordFrom 3 (some .int) ∈ TB := tg (tl4 97 rfl) rfl
theorem tw_4_98 : Cond.methodLink RX7 215 yX7_cellsOf ∈ TB := tg (tl4 98 rfl) rfl
theorem tw_4_100 : Cond.instanceMethod yX7_cellsOf ∈ TB := tg (tl4 100 rfl) rfl
theorem tw_4_101 : Cond.code yX7_cellsOf cX7_cellsOf 1 (some .int) ∈ TB := tg (tl4 101 rfl) rfl
theorem tw_4_102 : Cond.methodLink RX7 195 yX7_putAll ∈ TB := tg (tl4 102 rfl) rfl
theorem tw_4_104 : Cond.instanceMethod yX7_putAll ∈ TB := tg (tl4 104 rfl) rfl
theorem tw_4_105 : Cond.code yX7_putAll cX7_putAll 4 none ∈ TB := tg (tl4 105 rfl) rfl
theorem tw_4_106 : Cond.methodLink RX7 171 yX7_wordTo ∈ TB := tg (tl4 106 rfl) rfl
theorem tw_4_108 : Cond.instanceMethod yX7_wordTo ∈ TB := tg (tl4 108 rfl) rfl
theorem tw_4_109 : Cond.code yX7_wordTo cX7_wordTo 3 (some .int) ∈ TB := tg (tl4 109 rfl) rfl
theorem tw_4_110 : Cond.methodLink RX7 174 yX7_putWord ∈ TB := tg (tl4 110 rfl) rfl
theorem tw_4_112 : Cond.instanceMethod yX7_putWord ∈ TB := tg (tl4 112 rfl) rfl
theorem tw_4_113 : Cond.code yX7_putWord cX7_putWord 8 none ∈ TB := tg (tl4 113 rfl) rfl
theorem tw_4_114 : Cond.methodLink RX7 154 yX7_isAllGreat ∈ TB := tg (tl4 114 rfl) rfl
theorem tw_4_116 : Cond.instanceMethod yX7_isAllGreat ∈ TB := tg (tl4 116 rfl) rfl
theorem tw_4_117 : Cond.code yX7_isAllGreat cX7_isAllGreat 5 (some .boolean) ∈ TB := tg (tl4 117 rfl) rfl
theorem tw_4_118 : Cond.methodLink RX7 157 yX7_addCell ∈ TB := tg (tl4 118 rfl) rfl
theorem tw_4_120 : Cond.instanceMethod yX7_addCell ∈ TB := tg (tl4 120 rfl) rfl
theorem tw_4_121 : Cond.code yX7_addCell cX7_addCell 2 none ∈ TB := tg (tl4 121 rfl) rfl
theorem tw_4_122 : Cond.methodLink RX7 161 yX7_ruleAt ∈ TB := tg (tl4 122 rfl) rfl
theorem tw_4_124 : Cond.instanceMethod yX7_ruleAt ∈ TB := tg (tl4 124 rfl) rfl
theorem tw_4_125 : Cond.code yX7_ruleAt cX7_ruleAt 9 (some .int) ∈ TB := tg (tl4 125 rfl) rfl
theorem tw_4_126 : Cond.methodLink RX7 145 yX7_mayServe ∈ TB := tg (tl4 126 rfl) rfl
theorem tw_4_128 : Cond.instanceMethod yX7_mayServe ∈ TB := tg (tl4 128 rfl) rfl
theorem tw_4_129 : Cond.code yX7_mayServe cX7_mayServe 10 (some .boolean) ∈ TB := tg (tl4 129 rfl) rfl
theorem tw_4_130 : Cond.methodLink RX7 141 yX7_mayByKind ∈ TB := tg (tl4 130 rfl) rfl
theorem tw_4_131 : Cond.static yX7_mayByKind ∈ TB := tg (tl4 131 rfl) rfl
theorem tw_4_132 : Cond.code yX7_mayByKind cX7_mayByKind 5 (some .boolean) ∈ TB := tg (tl4 132 rfl) rfl
theorem tw_4_133 : Cond.methodLink RX7 165 yX7_wantsLetters ∈ TB := tg (tl4 133 rfl) rfl
theorem tw_4_135 : Cond.instanceMethod yX7_wantsLetters ∈ TB := tg (tl4 135 rfl) rfl
theorem tw_4_136 : Cond.code yX7_wantsLetters cX7_wantsLetters 2 (some .boolean) ∈ TB := tg (tl4 136 rfl) rfl
theorem tw_4_137 : Cond.constantLong RX7 149 (106) ∈ TB := tg (tl4 137 rfl) rfl
theorem tw_4_138 : Cond.methodLink RX7 151 yX7_isBehindFigures ∈ TB := tg (tl4 138 rfl) rfl
theorem tw_4_140 : Cond.instanceMethod yX7_isBehindFigures ∈ TB := tg (tl4 140 rfl) rfl
theorem tw_4_141 : Cond.code yX7_isBehindFigures cX7_isBehindFigures 3 (some .boolean) ∈ TB := tg (tl4 141 rfl) rfl
theorem tw_4_142 : Cond.methodLink RX7 177 yX7_putSign ∈ TB := tg (tl4 142 rfl) rfl
theorem tw_4_144 : Cond.instanceMethod yX7_putSign ∈ TB := tg (tl4 144 rfl) rfl
theorem tw_4_145 : Cond.code yX7_putSign cX7_putSign 3 none ∈ TB := tg (tl4 145 rfl) rfl
theorem tw_4_146 : Cond.methodLink RX7 168 yX7_isJoint ∈ TB := tg (tl4 146 rfl) rfl
theorem tw_4_148 : Cond.instanceMethod yX7_isJoint ∈ TB := tg (tl4 148 rfl) rfl
theorem tw_4_149 : Cond.code yX7_isJoint cX7_isJoint 3 (some .boolean) ∈ TB := tg (tl4 149 rfl) rfl
theorem tw_4_150 : Cond.methodLink RX7 218 yX7_fewest ∈ TB := tg (tl4 150 rfl) rfl
theorem tw_4_152 : Cond.instanceMethod yX7_fewest ∈ TB := tg (tl4 152 rfl) rfl
theorem tw_4_153 : Cond.code yX7_fewest cX7_fewest 4 (some .int) ∈ TB := tg (tl4 153 rfl) rfl
theorem tw_4_154 : Cond.methodLink RX7 180 yX7_fewestOf ∈ TB := tg (tl4 154 rfl) rfl
theorem tw_4_156 : Cond.instanceMethod yX7_fewestOf ∈ TB := tg (tl4 156 rfl) rfl
theorem tw_4_157 : Cond.code yX7_fewestOf cX7_fewestOf 10 (some .int) ∈ TB := tg (tl4 157 rfl) rfl
theorem tw_4_158 : Cond.methodLink RX7 208 yX7_linesOf ∈ TB := tg (tl4 158 rfl) rfl
theorem tw_4_160 : Cond.instanceMethod yX7_linesOf ∈ TB := tg (tl4 160 rfl) rfl
theorem tw_4_161 : Cond.code yX7_linesOf cX7_linesOf 1 (some .int) ∈ TB := tg (tl4 161 rfl) rfl
theorem tw_4_162 : Cond.methodLink RX7 204 yX7_layLines ∈ TB := tg (tl4 162 rfl) rfl
theorem tw_4_164 : Cond.instanceMethod yX7_layLines ∈ TB := tg (tl4 164 rfl) rfl
theorem tw_4_165 : Cond.code yX7_layLines cX7_layLines 9 none ∈ TB := tg (tl4 165 rfl) rfl
theorem tw_4_166 : Cond.methodLink RX7 198 yX7_layCell ∈ TB := tg (tl4 166 rfl) rfl
theorem tw_4_168 : Cond.instanceMethod yX7_layCell ∈ TB := tg (tl4 168 rfl) rfl
theorem tw_4_169 : Cond.code yX7_layCell cX7_layCell 4 none ∈ TB := tg (tl4 169 rfl) rfl
theorem tw_4_170 : Cond.methodLink RX7 221 yX7_pagesOf ∈ TB := tg (tl4 170 rfl) rfl
theorem tw_4_172 : Cond.instanceMethod yX7_pagesOf ∈ TB := tg (tl4 172 rfl) rfl
theorem tw_4_173 : Cond.code yX7_pagesOf cX7_pagesOf 1 (some .int) ∈ TB := tg (tl4 173 rfl) rfl
theorem tw_4_174 : Cond.methodLink RL 52 yX7_cell ∈ TB := tg (tl4 174 rfl) rfl
theorem tw_4_175 : Cond.instanceMethod yX7_cell ∈ TB := tg (tl4 175 rfl) rfl
theorem tw_4_176 : Cond.selects RX7 yX7_cell yX7_cell ∈ TB := tg (tl4 176 rfl) rfl
theorem tw_4_177 : Cond.code yX7_cell cX7_cell 2 (some .int) ∈ TB := tg (tl4 177 rfl) rfl
theorem tw_4_178 : Cond.methodLink RL 56 yX7_line ∈ TB := tg (tl4 178 rfl) rfl
theorem tw_4_179 : Cond.instanceMethod yX7_line ∈ TB := tg (tl4 179 rfl) rfl
theorem tw_4_180 : Cond.selects RX7 yX7_line yX7_line ∈ TB := tg (tl4 180 rfl) rfl
theorem tw_4_181 : Cond.code yX7_line cX7_line 3 (some .int) ∈ TB := tg (tl4 181 rfl) rfl
theorem tw_4_182 : Cond.methodLink RL 60 yX7_ofRule ∈ TB := tg (tl4 182 rfl) rfl
theorem tw_4_183 : Cond.instanceMethod yX7_ofRule ∈ TB := tg (tl4 183 rfl) rfl
theorem tw_4_184 : Cond.selects RX7 yX7_ofRule yX7_ofRule ∈ TB := tg (tl4 184 rfl) rfl
theorem tw_4_185 : Cond.code yX7_ofRule cX7_ofRule 3 (some .int) ∈ TB := tg (tl4 185 rfl) rfl
theorem tw_4_186 : Cond.methodLink RX7 227 yX7_cellsWithout ∈ TB := tg (tl4 186 rfl) rfl
theorem tw_4_188 : Cond.instanceMethod yX7_cellsWithout ∈ TB := tg (tl4 188 rfl) rfl
theorem tw_4_189 : Cond.code yX7_cellsWithout cX7_cellsWithout 2 (some .int) ∈ TB := tg (tl4 189 rfl) rfl
theorem tw_4_190 : Cond.methodLink RL 64 yX7_by ∈ TB := tg (tl4 190 rfl) rfl
theorem tw_4_191 : Cond.instanceMethod yX7_by ∈ TB := tg (tl4 191 rfl) rfl
theorem tw_4_192 : Cond.selects RX7 yX7_by yX7_by ∈ TB := tg (tl4 192 rfl) rfl
theorem tw_4_193 : Cond.code yX7_by cX7_by 2 (some .int) ∈ TB := tg (tl4 193 rfl) rfl
theorem tw_4_194 : Cond.constantLong RX7 230 (63) ∈ TB := tg (tl4 194 rfl) rfl
theorem tw_4_195 : Cond.methodLink RX7 232 yX7_ruleBy ∈ TB := tg (tl4 195 rfl) rfl
theorem tw_4_197 : Cond.instanceMethod yX7_ruleBy ∈ TB := tg (tl4 197 rfl) rfl
theorem tw_4_198 : Cond.code yX7_ruleBy cX7_ruleBy 4 (some .int) ∈ TB := tg (tl4 198 rfl) rfl
theorem tw_4_199 : Cond.methodLink RL 68 yX7_feel ∈ TB := tg (tl4 199 rfl) rfl
theorem tw_4_200 : Cond.instanceMethod yX7_feel ∈ TB := tg (tl4 200 rfl) rfl
theorem tw_4_201 : Cond.selects RX7 yX7_feel yX7_feel ∈ TB := tg (tl4 201 rfl) rfl
theorem tw_4_202 : Cond.code yX7_feel cX7_feel 2 (some .int) ∈ TB := tg (tl4 202 rfl) rfl
theorem tw_4_203 : Cond.methodLink RL 72 yX7_feelAll ∈ TB := tg (tl4 203 rfl) rfl
theorem tw_4_204 : Cond.instanceMethod yX7_feelAll ∈ TB := tg (tl4 204 rfl) rfl
theorem tw_4_205 : Cond.selects RX7 yX7_feelAll yX7_feelAll ∈ TB := tg (tl4 205 rfl) rfl
theorem tw_4_206 : Cond.code yX7_feelAll cX7_feelAll 2 (some .int) ∈ TB := tg (tl4 206 rfl) rfl
theorem tw_4_207 : Cond.methodLink RL 76 yX7_read ∈ TB := tg (tl4 207 rfl) rfl
theorem tw_4_208 : Cond.instanceMethod yX7_read ∈ TB := tg (tl4 208 rfl) rfl
theorem tw_4_209 : Cond.selects RX7 yX7_read yX7_read ∈ TB := tg (tl4 209 rfl) rfl
theorem tw_4_210 : Cond.code yX7_read cX7_read 2 (some .int) ∈ TB := tg (tl4 210 rfl) rfl
theorem tw_4_211 : Cond.methodLink RX7 289 yX7_readAll ∈ TB := tg (tl4 211 rfl) rfl
theorem tw_4_213 : Cond.instanceMethod yX7_readAll ∈ TB := tg (tl4 213 rfl) rfl
theorem tw_4_214 : Cond.code yX7_readAll cX7_readAll 2 (some .int) ∈ TB := tg (tl4 214 rfl) rfl
theorem tw_4_215 : Cond.methodLink RX7 286 yX7_readOne ∈ TB := tg (tl4 215 rfl) rfl
theorem tw_4_217 : Cond.instanceMethod yX7_readOne ∈ TB := tg (tl4 217 rfl) rfl
theorem tw_4_218 : Cond.code yX7_readOne cX7_readOne 2 (some .int) ∈ TB := tg (tl4 218 rfl) rfl
theorem tw_4_219 : Cond.methodLink RX7 239 yX7_feltAt ∈ TB := tg (tl4 219 rfl) rfl
theorem tw_4_221 : Cond.instanceMethod yX7_feltAt ∈ TB := tg (tl4 221 rfl) rfl
theorem tw_4_222 : Cond.code yX7_feltAt cX7_feltAt 2 (some .int) ∈ TB := tg (tl4 222 rfl) rfl
theorem tw_4_223 : Cond.methodLink RX7 248 yX7_isLetterCell ∈ TB := tg (tl4 223 rfl) rfl
theorem tw_4_224 : Cond.static yX7_isLetterCell ∈ TB := tg (tl4 224 rfl) rfl
theorem tw_4_225 : Cond.code yX7_isLetterCell cX7_isLetterCell 1 (some .boolean) ∈ TB := tg (tl4 225 rfl) rfl
theorem tw_4_226 : Cond.constantLong RX7 235 (26) ∈ TB := tg (tl4 226 rfl) rfl
theorem tw_4_227 : Cond.methodLink RX7 264 yX7_isRuleCell ∈ TB := tg (tl4 227 rfl) rfl
theorem tw_4_229 : Cond.instanceMethod yX7_isRuleCell ∈ TB := tg (tl4 229 rfl) rfl
theorem tw_4_230 : Cond.code yX7_isRuleCell cX7_isRuleCell 2 (some .boolean) ∈ TB := tg (tl4 230 rfl) rfl
theorem tw_4_231 : Cond.methodLink RX7 257 yX7_giveLetters ∈ TB := tg (tl4 231 rfl) rfl
theorem tw_4_233 : Cond.instanceMethod yX7_giveLetters ∈ TB := tg (tl4 233 rfl) rfl
theorem tw_4_234 : Cond.code yX7_giveLetters cX7_giveLetters 6 none ∈ TB := tg (tl4 234 rfl) rfl
theorem tw_4_235 : Cond.methodLink RX7 251 yX7_give ∈ TB := tg (tl4 235 rfl) rfl
theorem tw_4_237 : Cond.instanceMethod yX7_give ∈ TB := tg (tl4 237 rfl) rfl
theorem tw_4_238 : Cond.code yX7_give cX7_give 2 none ∈ TB := tg (tl4 238 rfl) rfl
theorem tw_4_239 : Cond.methodLink RX7 273 yX7_readGreat ∈ TB := tg (tl4 239 rfl) rfl
theorem tw_5_1 : Cond.instanceMethod yX7_readGreat ∈ TB := tg (tl5 1 rfl) rfl
theorem tw_5_2 : Cond.code yX7_readGreat cX7_readGreat 2 (some .int) ∈ TB := tg (tl5 2 rfl) rfl
theorem tw_5_3 : Cond.methodLink RX7 261 yX7_faults ∈ TB := tg (tl5 3 rfl) rfl
theorem tw_5_5 : Cond.instanceMethod yX7_faults ∈ TB := tg (tl5 5 rfl) rfl
theorem tw_5_6 : Cond.code yX7_faults cX7_faults 3 (some .int) ∈ TB := tg (tl5 6 rfl) rfl
theorem tw_5_7 : Cond.methodLink RX7 276 yX7_readFigures ∈ TB := tg (tl5 7 rfl) rfl
theorem tw_5_9 : Cond.instanceMethod yX7_readFigures ∈ TB := tg (tl5 9 rfl) rfl
theorem tw_5_10 : Cond.code yX7_readFigures cX7_readFigures 3 (some .int) ∈ TB := tg (tl5 10 rfl) rfl
theorem tw_5_11 : Cond.methodLink RX7 267 yX7_isFigureCell ∈ TB := tg (tl5 11 rfl) rfl
theorem tw_5_12 : Cond.static yX7_isFigureCell ∈ TB := tg (tl5 12 rfl) rfl
theorem tw_5_13 : Cond.code yX7_isFigureCell cX7_isFigureCell 1 (some .boolean) ∈ TB := tg (tl5 13 rfl) rfl
theorem tw_5_14 : Cond.constantLong RX7 237 (10) ∈ TB := tg (tl5 14 rfl) rfl
theorem tw_5_15 : Cond.methodLink RX7 279 yX7_readLetters ∈ TB := tg (tl5 15 rfl) rfl
theorem tw_5_17 : Cond.instanceMethod yX7_readLetters ∈ TB := tg (tl5 17 rfl) rfl
theorem tw_5_18 : Cond.code yX7_readLetters cX7_readLetters 4 (some .int) ∈ TB := tg (tl5 18 rfl) rfl
theorem tw_5_19 : Cond.constantLong RX7 282 (27) ∈ TB := tg (tl5 19 rfl) rfl
theorem tw_5_20 : Cond.constantLong RX7 284 (29) ∈ TB := tg (tl5 20 rfl) rfl
theorem tw_5_21 : Cond.methodLink RL 80 yX7_fault ∈ TB := tg (tl5 21 rfl) rfl
theorem tw_5_22 : Cond.instanceMethod yX7_fault ∈ TB := tg (tl5 22 rfl) rfl
theorem tw_5_23 : Cond.selects RX7 yX7_fault yX7_fault ∈ TB := tg (tl5 23 rfl) rfl
theorem tw_5_24 : Cond.code yX7_fault cX7_fault 1 (some .int) ∈ TB := tg (tl5 24 rfl) rfl
theorem tw_5_25 : Cond.methodLink RL 84 yX7_sign ∈ TB := tg (tl5 25 rfl) rfl
theorem tw_5_26 : Cond.instanceMethod yX7_sign ∈ TB := tg (tl5 26 rfl) rfl
theorem tw_5_27 : Cond.selects RX7 yX7_sign yX7_sign ∈ TB := tg (tl5 27 rfl) rfl
theorem tw_5_28 : Cond.code yX7_sign cX7_sign 2 (some .int) ∈ TB := tg (tl5 28 rfl) rfl
theorem tw_5_29 : Cond.methodLink RL 88 yX7_rest ∈ TB := tg (tl5 29 rfl) rfl
theorem tw_5_30 : Cond.instanceMethod yX7_rest ∈ TB := tg (tl5 30 rfl) rfl
theorem tw_5_31 : Cond.selects RX7 yX7_rest yX7_rest ∈ TB := tg (tl5 31 rfl) rfl
theorem tw_5_32 : Cond.code yX7_rest cX7_rest 2 (some .int) ∈ TB := tg (tl5 32 rfl) rfl
theorem tw_5_33 : Cond.methodLink RL 92 yX7_keep ∈ TB := tg (tl5 33 rfl) rfl
theorem tw_5_34 : Cond.instanceMethod yX7_keep ∈ TB := tg (tl5 34 rfl) rfl
theorem tw_5_35 : Cond.selects RX7 yX7_keep yX7_keep ∈ TB := tg (tl5 35 rfl) rfl
theorem tw_5_36 : Cond.code yX7_keep cX7_keep 3 (some .int) ∈ TB := tg (tl5 36 rfl) rfl
theorem tw_5_37 : Cond.methodLink RL 96 yX7_goBack ∈ TB := tg (tl5 37 rfl) rfl
theorem tw_5_38 : Cond.instanceMethod yX7_goBack ∈ TB := tg (tl5 38 rfl) rfl
theorem tw_5_39 : Cond.selects RX7 yX7_goBack yX7_goBack ∈ TB := tg (tl5 39 rfl) rfl
theorem tw_5_40 : Cond.code yX7_goBack cX7_goBack 3 (some .int) ∈ TB := tg (tl5 40 rfl) rfl
theorem ts_1_0 : Cond.selects RX6 yX6_setWidth yX6_setWidth ∈ TB := tps1 0 (q := (yX6_setWidth, 10)) rfl
theorem ts_1_1 : Cond.selects RX6 yX6_setHeight yX6_setHeight ∈ TB := tps1 1 (q := (yX6_setHeight, 10)) rfl
theorem ts_1_2 : Cond.selects RX6 yX6_addRuleByLots yX6_addRuleByLots ∈ TB := tps1 2 (q := (yX6_addRuleByLots, 10)) rfl
theorem ts_1_3 : Cond.selects RX5 yX5_begin yX5_begin ∈ TB := tps1 3 (q := (yX5_begin, 12)) rfl
theorem ts_1_4 : Cond.selects RX5 yX5_enterWord yX5_enterWord ∈ TB := tps1 4 (q := (yX5_enterWord, 12)) rfl
theorem ts_1_5 : Cond.selects RX5 yX5_writeWord yX5_writeWord ∈ TB := tps1 5 (q := (yX5_writeWord, 12)) rfl
theorem ts_1_6 : Cond.selects RX5 yX5_needsLetters yX5_needsLetters ∈ TB := tps1 6 (q := (yX5_needsLetters, 12)) rfl
theorem ts_1_7 : Cond.selects RX5 yX5_addCell yX5_addCell ∈ TB := tps1 7 (q := (yX5_addCell, 12)) rfl
theorem ts_1_8 : Cond.selects RX5 yX5_servingRule yX5_servingRule ∈ TB := tps1 8 (q := (yX5_servingRule, 12)) rfl
theorem ts_1_9 : Cond.selects RX5 yX5_ruleAt yX5_ruleAt ∈ TB := tps1 9 (q := (yX5_ruleAt, 12)) rfl
theorem ts_1_10 : Cond.selects RX5 yX5_mayStand yX5_mayStand ∈ TB := tps1 10 (q := (yX5_mayStand, 12)) rfl
theorem ts_1_11 : Cond.selects RX5 yX5_writeLetter yX5_writeLetter ∈ TB := tps1 11 (q := (yX5_writeLetter, 12)) rfl
theorem ts_1_12 : Cond.selects RX5 yX5_writeRule yX5_writeRule ∈ TB := tps1 12 (q := (yX5_writeRule, 12)) rfl
theorem ts_1_13 : Cond.selects RX5 yX5_writeFigure yX5_writeFigure ∈ TB := tps1 13 (q := (yX5_writeFigure, 12)) rfl
theorem ts_1_14 : Cond.selects RX5 yX5_fewestOfWord yX5_fewestOfWord ∈ TB := tps1 14 (q := (yX5_fewestOfWord, 12)) rfl
theorem ts_1_15 : Cond.selects RX6 yX6_layLines yX6_layLines ∈ TB := tps1 15 (q := (yX6_layLines, 10)) rfl
theorem ts_2_0 : Cond.selects RX2 yX2_layPiece yX2_layPiece ∈ TB := tps2 0 (q := (yX2_layPiece, 5)) rfl
theorem ts_2_1 : Cond.selects RX2 yX2_lengthOfLast yX2_lengthOfLast ∈ TB := tps2 1 (q := (yX2_lengthOfLast, 5)) rfl
theorem ts_2_2 : Cond.selects RX2 yX2_addLaid yX2_addLaid ∈ TB := tps2 2 (q := (yX2_addLaid, 5)) rfl
theorem ts_2_3 : Cond.selects RX2 yX2_beginLine yX2_beginLine ∈ TB := tps2 3 (q := (yX2_beginLine, 5)) rfl
theorem ts_2_4 : Cond.selects RX6 yX6_pagesOf yX6_pagesOf ∈ TB := tps2 4 (q := (yX6_pagesOf, 10)) rfl
theorem ts_2_5 : Cond.selects RX4 yX4_readAt yX4_readAt ∈ TB := tps2 5 (q := (yX4_readAt, 8)) rfl
theorem ts_2_6 : Cond.selects RX4 yX4_cellAt yX4_cellAt ∈ TB := tps2 6 (q := (yX4_cellAt, 8)) rfl
theorem ts_2_7 : Cond.selects RX4 yX4_readCapitals yX4_readCapitals ∈ TB := tps2 7 (q := (yX4_readCapitals, 8)) rfl
theorem ts_2_8 : Cond.selects RX4 yX4_isRule yX4_isRule ∈ TB := tps2 8 (q := (yX4_isRule, 8)) rfl
theorem ts_2_9 : Cond.selects RX4 yX4_addLetters yX4_addLetters ∈ TB := tps2 9 (q := (yX4_addLetters, 8)) rfl
theorem ts_2_10 : Cond.selects RX4 yX4_addSign yX4_addSign ∈ TB := tps2 10 (q := (yX4_addSign, 8)) rfl
theorem ts_2_11 : Cond.selects RX4 yX4_failWrongAt yX4_failWrongAt ∈ TB := tps2 11 (q := (yX4_failWrongAt, 8)) rfl
theorem ts_2_12 : Cond.selects RX4 yX4_isNoSuchCell yX4_isNoSuchCell ∈ TB := tps2 12 (q := (yX4_isNoSuchCell, 8)) rfl
theorem ts_2_13 : Cond.selects RX4 yX4_failAt yX4_failAt ∈ TB := tps2 13 (q := (yX4_failAt, 8)) rfl
theorem ts_2_14 : Cond.selects RX4 yX4_readCapital yX4_readCapital ∈ TB := tps2 14 (q := (yX4_readCapital, 8)) rfl
theorem ts_2_15 : Cond.selects RX4 yX4_readFigures yX4_readFigures ∈ TB := tps2 15 (q := (yX4_readFigures, 8)) rfl
theorem ts_3_0 : Cond.selects RX4 yX4_checkLetters yX4_checkLetters ∈ TB := tps3 0 (q := (yX4_checkLetters, 8)) rfl
theorem ts_3_1 : Cond.selects RX4 yX4_isBehindFigures yX4_isBehindFigures ∈ TB := tps3 1 (q := (yX4_isBehindFigures, 8)) rfl
theorem ts_3_2 : Cond.selects RX4 yX4_readPlain yX4_readPlain ∈ TB := tps3 2 (q := (yX4_readPlain, 8)) rfl
theorem ts_3_3 : Cond.selects RX7 yX7_isTaken yX7_isTaken ∈ TB := tps3 3 (q := (yX7_isTaken, 22)) rfl
theorem ts_3_4 : Cond.selects RX7 yX7_note yX7_note ∈ TB := tps3 4 (q := (yX7_note, 22)) rfl
theorem ts_3_5 : Cond.selects RX7 yX7_addRule yX7_addRule ∈ TB := tps3 5 (q := (yX7_addRule, 22)) rfl
theorem ts_3_6 : Cond.selects RX7 yX7_isRule yX7_isRule ∈ TB := tps3 6 (q := (yX7_isRule, 22)) rfl
theorem ts_3_7 : Cond.selects RX7 yX7_lotOf yX7_lotOf ∈ TB := tps3 7 (q := (yX7_lotOf, 22)) rfl
theorem ts_3_8 : Cond.selects RX7 yX7_words yX7_words ∈ TB := tps3 8 (q := (yX7_words, 22)) rfl
theorem ts_3_9 : Cond.selects RX7 yX7_sign0 yX7_sign0 ∈ TB := tps3 9 (q := (yX7_sign0, 22)) rfl
theorem ts_3_10 : Cond.selects RX7 yX7_wordFrom yX7_wordFrom ∈ TB := tps3 10 (q := (yX7_wordFrom, 22)) rfl
theorem ts_3_11 : Cond.selects RX7 yX7_cellsOf yX7_cellsOf ∈ TB := tps3 11 (q := (yX7_cellsOf, 22)) rfl
theorem ts_3_12 : Cond.selects RX7 yX7_putAll yX7_putAll ∈ TB := tps3 12 (q := (yX7_putAll, 22)) rfl
theorem ts_3_13 : Cond.selects RX7 yX7_wordTo yX7_wordTo ∈ TB := tps3 13 (q := (yX7_wordTo, 22)) rfl
theorem ts_3_14 : Cond.selects RX7 yX7_putWord yX7_putWord ∈ TB := tps3 14 (q := (yX7_putWord, 22)) rfl
theorem ts_3_15 : Cond.selects RX7 yX7_isAllGreat yX7_isAllGreat ∈ TB := tps3 15 (q := (yX7_isAllGreat, 22)) rfl
theorem ts_4_0 : Cond.selects RX7 yX7_addCell yX7_addCell ∈ TB := tps4 0 (q := (yX7_addCell, 22)) rfl
theorem ts_4_1 : Cond.selects RX7 yX7_ruleAt yX7_ruleAt ∈ TB := tps4 1 (q := (yX7_ruleAt, 22)) rfl
theorem ts_4_2 : Cond.selects RX7 yX7_mayServe yX7_mayServe ∈ TB := tps4 2 (q := (yX7_mayServe, 22)) rfl
theorem ts_4_3 : Cond.selects RX7 yX7_wantsLetters yX7_wantsLetters ∈ TB := tps4 3 (q := (yX7_wantsLetters, 22)) rfl
theorem ts_4_4 : Cond.selects RX7 yX7_isBehindFigures yX7_isBehindFigures ∈ TB := tps4 4 (q := (yX7_isBehindFigures, 22)) rfl
theorem ts_4_5 : Cond.selects RX7 yX7_putSign yX7_putSign ∈ TB := tps4 5 (q := (yX7_putSign, 22)) rfl
theorem ts_4_6 : Cond.selects RX7 yX7_isJoint yX7_isJoint ∈ TB := tps4 6 (q := (yX7_isJoint, 22)) rfl
theorem ts_4_7 : Cond.selects RX7 yX7_fewest yX7_fewest ∈ TB := tps4 7 (q := (yX7_fewest, 22)) rfl
theorem ts_4_8 : Cond.selects RX7 yX7_fewestOf yX7_fewestOf ∈ TB := tps4 8 (q := (yX7_fewestOf, 22)) rfl
theorem ts_4_9 : Cond.selects RX7 yX7_linesOf yX7_linesOf ∈ TB := tps4 9 (q := (yX7_linesOf, 22)) rfl
theorem ts_4_10 : Cond.selects RX7 yX7_layLines yX7_layLines ∈ TB := tps4 10 (q := (yX7_layLines, 22)) rfl
theorem ts_4_11 : Cond.selects RX7 yX7_layCell yX7_layCell ∈ TB := tps4 11 (q := (yX7_layCell, 22)) rfl
theorem ts_4_12 : Cond.selects RX7 yX7_pagesOf yX7_pagesOf ∈ TB := tps4 12 (q := (yX7_pagesOf, 22)) rfl
theorem ts_4_13 : Cond.selects RX7 yX7_cellsWithout yX7_cellsWithout ∈ TB := tps4 13 (q := (yX7_cellsWithout, 22)) rfl
theorem ts_4_14 : Cond.selects RX7 yX7_ruleBy yX7_ruleBy ∈ TB := tps4 14 (q := (yX7_ruleBy, 22)) rfl
theorem ts_4_15 : Cond.selects RX7 yX7_readAll yX7_readAll ∈ TB := tps4 15 (q := (yX7_readAll, 22)) rfl
theorem ts_5_0 : Cond.selects RX7 yX7_readOne yX7_readOne ∈ TB := tps5 0 (q := (yX7_readOne, 22)) rfl
theorem ts_5_1 : Cond.selects RX7 yX7_feltAt yX7_feltAt ∈ TB := tps5 1 (q := (yX7_feltAt, 22)) rfl
theorem ts_5_2 : Cond.selects RX7 yX7_isRuleCell yX7_isRuleCell ∈ TB := tps5 2 (q := (yX7_isRuleCell, 22)) rfl
theorem ts_5_3 : Cond.selects RX7 yX7_giveLetters yX7_giveLetters ∈ TB := tps5 3 (q := (yX7_giveLetters, 22)) rfl
theorem ts_5_4 : Cond.selects RX7 yX7_give yX7_give ∈ TB := tps5 4 (q := (yX7_give, 22)) rfl
theorem ts_5_5 : Cond.selects RX7 yX7_readGreat yX7_readGreat ∈ TB := tps5 5 (q := (yX7_readGreat, 22)) rfl
theorem ts_5_6 : Cond.selects RX7 yX7_faults yX7_faults ∈ TB := tps5 6 (q := (yX7_faults, 22)) rfl
theorem ts_5_7 : Cond.selects RX7 yX7_readFigures yX7_readFigures ∈ TB := tps5 7 (q := (yX7_readFigures, 22)) rfl
theorem ts_5_8 : Cond.selects RX7 yX7_readLetters yX7_readLetters ∈ TB := tps5 8 (q := (yX7_readLetters, 22)) rfl
def NWl : List (String × Nat × MethodName × String) := [(RX6, 11, yX0_init, "RaisedDots"), (RX1, 24, yX0_init, "RaisedDots"), (RX6, 42, yX2_init, "RaisedDots"), (RX6, 66, yX3_init, "RaisedDots"), (RX0, 53, yX6_isOfWord, "RaisedDots"), (RX5, 103, yX6_isCapital, "RaisedDots"), (RX5, 106, yX6_isSmall, "RaisedDots"), (RX5, 109, yX6_letterOf, "RaisedDots"), (RX0, 60, yX6_isFigure, "RaisedDots"), (RX0, 63, yX6_isPointOrComma, "RaisedDots"), (RX5, 132, yX6_lettersOf, "RaisedDots"), (RX5, 74, yX6_isFigure, "RaisedDots"), (RX5, 97, yX6_cellOfFigure, "RaisedDots"), (RX5, 81, yX6_isOfWord, "RaisedDots"), (RX5, 84, yX6_cellOfMark, "RaisedDots"), (RX4, 83, yX6_isLetterCell, "RaisedDots"), (RX4, 68, yX6_isRuleCell, "RaisedDots"), (RX4, 98, yX6_lettersOf, "RaisedDots"), (RX4, 107, yX6_isFigureCell, "RaisedDots"), (RX4, 110, yX6_signOfFigureCell, "RaisedDots"), (RX4, 113, yX6_isPointOrCommaCell, "RaisedDots"), (RX4, 89, yX6_signOfMarkCell, "RaisedDots")]
theorem NWl_in : ∀ q ∈ NWl, Cond.methodLinkNest q.1 q.2.1 q.2.2.1 q.2.2.2 ∈ lw_tbl := List.forall_mem_cons.mpr ⟨nw_1_21, List.forall_mem_cons.mpr ⟨nw_1_71, List.forall_mem_cons.mpr ⟨nw_1_132, List.forall_mem_cons.mpr ⟨nw_1_189, List.forall_mem_cons.mpr ⟨nw_2_133, List.forall_mem_cons.mpr ⟨nw_2_152, List.forall_mem_cons.mpr ⟨nw_2_153, List.forall_mem_cons.mpr ⟨nw_2_154, List.forall_mem_cons.mpr ⟨nw_2_169, List.forall_mem_cons.mpr ⟨nw_2_170, List.forall_mem_cons.mpr ⟨nw_2_196, List.forall_mem_cons.mpr ⟨nw_2_197, List.forall_mem_cons.mpr ⟨nw_2_202, List.forall_mem_cons.mpr ⟨nw_2_205, List.forall_mem_cons.mpr ⟨nw_2_206, List.forall_mem_cons.mpr ⟨nw_3_66, List.forall_mem_cons.mpr ⟨nw_3_73, List.forall_mem_cons.mpr ⟨nw_3_83, List.forall_mem_cons.mpr ⟨nw_3_104, List.forall_mem_cons.mpr ⟨nw_3_107, List.forall_mem_cons.mpr ⟨nw_3_110, List.forall_mem_cons.mpr ⟨nw_3_113, fun _ h => absurd h List.not_mem_nil⟩⟩⟩⟩⟩⟩⟩⟩⟩⟩⟩⟩⟩⟩⟩⟩⟩⟩⟩⟩⟩⟩
theorem ni_0 : (RX6, 11, yX0_init, "RaisedDots") ∈ NWl := List.mem_of_getElem? (i := 0) rfl
theorem ni_1 : (RX1, 24, yX0_init, "RaisedDots") ∈ NWl := List.mem_of_getElem? (i := 1) rfl
theorem ni_2 : (RX6, 42, yX2_init, "RaisedDots") ∈ NWl := List.mem_of_getElem? (i := 2) rfl
theorem ni_3 : (RX6, 66, yX3_init, "RaisedDots") ∈ NWl := List.mem_of_getElem? (i := 3) rfl
theorem ni_4 : (RX0, 53, yX6_isOfWord, "RaisedDots") ∈ NWl := List.mem_of_getElem? (i := 4) rfl
theorem ni_5 : (RX5, 103, yX6_isCapital, "RaisedDots") ∈ NWl := List.mem_of_getElem? (i := 5) rfl
theorem ni_6 : (RX5, 106, yX6_isSmall, "RaisedDots") ∈ NWl := List.mem_of_getElem? (i := 6) rfl
theorem ni_7 : (RX5, 109, yX6_letterOf, "RaisedDots") ∈ NWl := List.mem_of_getElem? (i := 7) rfl
theorem ni_8 : (RX0, 60, yX6_isFigure, "RaisedDots") ∈ NWl := List.mem_of_getElem? (i := 8) rfl
theorem ni_9 : (RX0, 63, yX6_isPointOrComma, "RaisedDots") ∈ NWl := List.mem_of_getElem? (i := 9) rfl
theorem ni_10 : (RX5, 132, yX6_lettersOf, "RaisedDots") ∈ NWl := List.mem_of_getElem? (i := 10) rfl
theorem ni_11 : (RX5, 74, yX6_isFigure, "RaisedDots") ∈ NWl := List.mem_of_getElem? (i := 11) rfl
theorem ni_12 : (RX5, 97, yX6_cellOfFigure, "RaisedDots") ∈ NWl := List.mem_of_getElem? (i := 12) rfl
theorem ni_13 : (RX5, 81, yX6_isOfWord, "RaisedDots") ∈ NWl := List.mem_of_getElem? (i := 13) rfl
theorem ni_14 : (RX5, 84, yX6_cellOfMark, "RaisedDots") ∈ NWl := List.mem_of_getElem? (i := 14) rfl
theorem ni_15 : (RX4, 83, yX6_isLetterCell, "RaisedDots") ∈ NWl := List.mem_of_getElem? (i := 15) rfl
theorem ni_16 : (RX4, 68, yX6_isRuleCell, "RaisedDots") ∈ NWl := List.mem_of_getElem? (i := 16) rfl
theorem ni_17 : (RX4, 98, yX6_lettersOf, "RaisedDots") ∈ NWl := List.mem_of_getElem? (i := 17) rfl
theorem ni_18 : (RX4, 107, yX6_isFigureCell, "RaisedDots") ∈ NWl := List.mem_of_getElem? (i := 18) rfl
theorem ni_19 : (RX4, 110, yX6_signOfFigureCell, "RaisedDots") ∈ NWl := List.mem_of_getElem? (i := 19) rfl
theorem ni_20 : (RX4, 113, yX6_isPointOrCommaCell, "RaisedDots") ∈ NWl := List.mem_of_getElem? (i := 20) rfl
theorem ni_21 : (RX4, 89, yX6_signOfMarkCell, "RaisedDots") ∈ NWl := List.mem_of_getElem? (i := 21) rfl
theorem inT0 : ∀ w ∈ u_ws RX0 TX0 8, w ∈ TB := by
  intro w h
  obtain ⟨k, hk, rfl⟩ := List.mem_map.mp h
  have hk := List.mem_range.mp hk
  match k, hk with
  | 0, _ => exact tg (tl1 45 rfl) rfl
  | 1, _ => exact tg (tl1 47 rfl) rfl
  | 2, _ => exact tg (tl1 49 rfl) rfl
  | 3, _ => exact tg (tl1 51 rfl) rfl
  | 4, _ => exact tg (tl1 53 rfl) rfl
  | 5, _ => exact tg (tl1 55 rfl) rfl
  | 6, _ => exact tg (tl1 57 rfl) rfl
  | 7, _ => exact tg (tl1 59 rfl) rfl
  | n + 8, h => exact absurd h (by omega)
theorem inT1 : ∀ w ∈ u_ws RX1 TX1 3, w ∈ TB := by
  intro w h
  obtain ⟨k, hk, rfl⟩ := List.mem_map.mp h
  have hk := List.mem_range.mp hk
  match k, hk with
  | 0, _ => exact tg (tl1 76 rfl) rfl
  | 1, _ => exact tg (tl1 78 rfl) rfl
  | 2, _ => exact tg (tl1 80 rfl) rfl
  | n + 3, h => exact absurd h (by omega)
theorem inT2 : ∀ w ∈ u_ws RX2 TX2 5, w ∈ TB := by
  intro w h
  obtain ⟨k, hk, rfl⟩ := List.mem_map.mp h
  have hk := List.mem_range.mp hk
  match k, hk with
  | 0, _ => exact tg (tl1 141 rfl) rfl
  | 1, _ => exact tg (tl1 143 rfl) rfl
  | 2, _ => exact tg (tl1 145 rfl) rfl
  | 3, _ => exact tg (tl1 147 rfl) rfl
  | 4, _ => exact tg (tl1 149 rfl) rfl
  | n + 5, h => exact absurd h (by omega)
theorem inT3 : ∀ w ∈ u_ws RX3 TX3 1, w ∈ TB := by
  intro w h
  obtain ⟨k, hk, rfl⟩ := List.mem_map.mp h
  have hk := List.mem_range.mp hk
  match k, hk with
  | 0, _ => exact tg (tl1 194 rfl) rfl
  | n + 1, h => exact absurd h (by omega)
theorem inT4 : ∀ w ∈ u_ws RX4 TX4 8, w ∈ TB := by
  intro w h
  obtain ⟨k, hk, rfl⟩ := List.mem_map.mp h
  have hk := List.mem_range.mp hk
  match k, hk with
  | 0, _ => exact tg (tl1 170 rfl) rfl
  | 1, _ => exact tg (tl1 172 rfl) rfl
  | 2, _ => exact tg (tl1 174 rfl) rfl
  | 3, _ => exact tg (tl1 176 rfl) rfl
  | 4, _ => exact tg (tl1 178 rfl) rfl
  | 5, _ => exact tg (tl1 180 rfl) rfl
  | 6, _ => exact tg (tl1 182 rfl) rfl
  | 7, _ => exact tg (tl1 184 rfl) rfl
  | n + 8, h => exact absurd h (by omega)
theorem inT5 : ∀ w ∈ u_ws RX5 TX5 12, w ∈ TB := by
  intro w h
  obtain ⟨k, hk, rfl⟩ := List.mem_map.mp h
  have hk := List.mem_range.mp hk
  match k, hk with
  | 0, _ => exact tg (tl1 104 rfl) rfl
  | 1, _ => exact tg (tl1 106 rfl) rfl
  | 2, _ => exact tg (tl1 108 rfl) rfl
  | 3, _ => exact tg (tl1 110 rfl) rfl
  | 4, _ => exact tg (tl1 112 rfl) rfl
  | 5, _ => exact tg (tl1 114 rfl) rfl
  | 6, _ => exact tg (tl1 116 rfl) rfl
  | 7, _ => exact tg (tl1 118 rfl) rfl
  | 8, _ => exact tg (tl1 120 rfl) rfl
  | 9, _ => exact tg (tl1 122 rfl) rfl
  | 10, _ => exact tg (tl1 124 rfl) rfl
  | 11, _ => exact tg (tl1 126 rfl) rfl
  | n + 12, h => exact absurd h (by omega)
theorem inT6 : ∀ w ∈ u_ws RX6 TX6 10, w ∈ TB := by
  intro w h
  obtain ⟨k, hk, rfl⟩ := List.mem_map.mp h
  have hk := List.mem_range.mp hk
  match k, hk with
  | 0, _ => exact tg (tl1 207 rfl) rfl
  | 1, _ => exact tg (tl1 209 rfl) rfl
  | 2, _ => exact tg (tl1 211 rfl) rfl
  | 3, _ => exact tg (tl1 213 rfl) rfl
  | 4, _ => exact tg (tl1 215 rfl) rfl
  | 5, _ => exact tg (tl1 217 rfl) rfl
  | 6, _ => exact tg (tl1 219 rfl) rfl
  | 7, _ => exact tg (tl1 221 rfl) rfl
  | 8, _ => exact tg (tl1 223 rfl) rfl
  | 9, _ => exact tg (tl1 225 rfl) rfl
  | n + 10, h => exact absurd h (by omega)
theorem inT7 : ∀ w ∈ u_ws RX7 TX7 22, w ∈ TB := by
  intro w h
  obtain ⟨k, hk, rfl⟩ := List.mem_map.mp h
  have hk := List.mem_range.mp hk
  match k, hk with
  | 0, _ => exact tg (tl3 181 rfl) rfl
  | 1, _ => exact tg (tl3 183 rfl) rfl
  | 2, _ => exact tg (tl3 185 rfl) rfl
  | 3, _ => exact tg (tl3 187 rfl) rfl
  | 4, _ => exact tg (tl3 189 rfl) rfl
  | 5, _ => exact tg (tl3 191 rfl) rfl
  | 6, _ => exact tg (tl3 193 rfl) rfl
  | 7, _ => exact tg (tl3 195 rfl) rfl
  | 8, _ => exact tg (tl3 197 rfl) rfl
  | 9, _ => exact tg (tl3 199 rfl) rfl
  | 10, _ => exact tg (tl3 201 rfl) rfl
  | 11, _ => exact tg (tl3 203 rfl) rfl
  | 12, _ => exact tg (tl3 205 rfl) rfl
  | 13, _ => exact tg (tl3 207 rfl) rfl
  | 14, _ => exact tg (tl3 209 rfl) rfl
  | 15, _ => exact tg (tl3 211 rfl) rfl
  | 16, _ => exact tg (tl3 213 rfl) rfl
  | 17, _ => exact tg (tl3 215 rfl) rfl
  | 18, _ => exact tg (tl3 217 rfl) rfl
  | 19, _ => exact tg (tl3 219 rfl) rfl
  | 20, _ => exact tg (tl3 221 rfl) rfl
  | 21, _ => exact tg (tl3 223 rfl) rfl
  | n + 22, h => exact absurd h (by omega)
end
section
/-! THE SMALL MACHINE: values are whole numbers or numbered cells, memory is a table of numbers -/
abbrev MV : Type := Int ⊕ (Int ⊕ Nat)
abbrev Mem : Type := Nat → Nat → Int
abbrev mi (z : Int) : MV := Sum.inl z
abbrev ml (z : Int) : MV := Sum.inr (Sum.inl z)
abbrev mr (k : Nat) : MV := Sum.inr (Sum.inr k)
def InR (z : Int) : Prop := -2147483648 ≤ z ∧ z ≤ 2147483647
def InL (z : Int) : Prop := -9223372036854775808 ≤ z ∧ z ≤ 9223372036854775807
def okV (v : MV) : Prop := match v with
  | .inl z => InR z
  | .inr (.inl z) => InL z
  | .inr (.inr _) => True
def toV (ad : Nat → Nat) (v : MV) : Value := match v with
  | .inl z => .int (Int32.ofInt z)
  | .inr (.inl z) => .long (Int64.ofInt z)
  | .inr (.inr k) => .ref (ad k)
def catV (v : MV) : Nat := match v with
  | .inr (.inl _) => 2
  | _ => 1
theorem cat_toV (ad : Nat → Nat) (v : MV) : (toV ad v).category = catV v := by
  rcases v with z | z | k <;> rfl
theorem i32_of {z : Int} (h : InR z) : (Int32.ofInt z).toInt = z := Int32.toInt_ofInt_of_le (by have := h.1; omega) (by have := h.2; omega)
theorem i64_of {z : Int} (h : InL z) : (Int64.ofInt z).toInt = z := Int64.toInt_ofInt_of_le (by have := h.1; omega) (by have := h.2; omega)
theorem i32_in (x : Int32) : InR x.toInt := ⟨by have := x.le_toInt; omega, by have := x.toInt_lt; omega⟩
theorem i64_in (x : Int64) : InL x.toInt := ⟨by have := x.le_toInt; omega, by have := x.toInt_lt; omega⟩
theorem i32_lt {x y : Int} (hx : InR x) (hy : InR y) : Int32.ofInt x < Int32.ofInt y ↔ x < y := by rw [Int32.lt_iff_toInt_lt, i32_of hx, i32_of hy]
theorem i32_le {x y : Int} (hx : InR x) (hy : InR y) : Int32.ofInt x ≤ Int32.ofInt y ↔ x ≤ y := by rw [Int32.le_iff_toInt_le, i32_of hx, i32_of hy]
theorem i32_eq {x y : Int} (hx : InR x) (hy : InR y) : Int32.ofInt x = Int32.ofInt y ↔ x = y := by rw [← Int32.toInt_inj, i32_of hx, i32_of hy]
theorem i64_lt {x y : Int} (hx : InL x) (hy : InL y) : Int64.ofInt x < Int64.ofInt y ↔ x < y := by rw [Int64.lt_iff_toInt_lt, i64_of hx, i64_of hy]
theorem i64_eq {x y : Int} (hx : InL x) (hy : InL y) : Int64.ofInt x = Int64.ofInt y ↔ x = y := by rw [← Int64.toInt_inj, i64_of hx, i64_of hy]
theorem InR_0 : InR 0 := ⟨by omega, by omega⟩
theorem i32_lt0 {x : Int} (hx : InR x) : Int32.ofInt x < 0 ↔ x < 0 := i32_lt hx InR_0
theorem i32_le0 {x : Int} (hx : InR x) : Int32.ofInt x ≤ 0 ↔ x ≤ 0 := i32_le hx InR_0
theorem i32_ge0 {x : Int} (hx : InR x) : 0 ≤ Int32.ofInt x ↔ 0 ≤ x := i32_le InR_0 hx
theorem i32_gt0 {x : Int} (hx : InR x) : 0 < Int32.ofInt x ↔ 0 < x := i32_lt InR_0 hx
theorem i32_eq0 {x : Int} (hx : InR x) : Int32.ofInt x = 0 ↔ x = 0 := i32_eq hx InR_0
theorem i32_nat {x : Int} (hx : InR x) : (Int32.ofInt x).toNatClampNeg = x.toNat := by
  show (Int32.ofInt x).toInt.toNat = x.toNat
  rw [i32_of hx]
theorem i32_vpin {x : Int} {n : Nat} (hx : InR x) (h0 : 0 ≤ x) (h1 : x < n) : vp_in (Int32.ofInt x) n := by
  rw [vp_in_iff, i32_of hx]; exact ⟨h0, h1⟩
/-! memory -/
def rup (f : Nat → Int) (i : Nat) (z : Int) : Nat → Int := fun j => if j = i then z else f j
def srow (M : Mem) (k : Nat) (f : Nat → Int) : Mem := fun j => if j = k then f else M j
def mup (M : Mem) (k i : Nat) (z : Int) : Mem := srow M k (rup (M k) i z)
theorem rup_same (f : Nat → Int) (i : Nat) (z : Int) : rup f i z i = z := by simp [rup]
theorem rup_ne (f : Nat → Int) {i j : Nat} (z : Int) (h : j ≠ i) : rup f i z j = f j := by simp [rup, h]
theorem srow_same (M : Mem) (k : Nat) (f : Nat → Int) : srow M k f k = f := by simp [srow]
theorem srow_ne (M : Mem) {k j : Nat} (f : Nat → Int) (h : j ≠ k) : srow M k f j = M j := by simp [srow, h]
/-- a cell's shape: an object (its class, what its fields are), a row of ints or booleans (0, 1; its length), a row of cells.
A field: 0 an int, 1 a boolean, 2 a long, n + 3 the cell n for good -/
abbrev Sh : Type := (Nat × List Nat) ⊕ ((Nat × Nat) ⊕ List Nat)
abbrev bkSh (k : Nat) : List Sh := [.inl (0, [k + 4, k + 5, k + 6, k + 7, 0, 0, 0, 0]), .inr (.inl (0, 12)), .inr (.inl (0, 12)), .inr (.inl (0, 12)), .inr (.inl (0, 120))]
def shp : List Sh := [
  .inl (6, [4, 9, 11, 12, 13, 19, 22, 0, 23, 25]),
  .inl (0, [5, 6, 7, 8, 0, 0, 0, 0]), .inr (.inl (0, 12)), .inr (.inl (0, 12)), .inr (.inl (0, 12)), .inr (.inl (0, 120)),
  .inl (1, [10, 0, 0]), .inr (.inr [23, 28, 33, 38, 43, 48, 53, 58]),
  .inr (.inr [63, 68]), .inr (.inl (1, 2)),
  .inl (5, [14, 15, 16, 4, 0, 0, 0, 0, 0, 1, 17, 18]), .inr (.inl (0, 240)), .inr (.inl (0, 12)), .inr (.inl (0, 12)), .inr (.inl (0, 120)), .inr (.inl (0, 121)),
  .inl (2, [20, 21, 0, 0, 0]), .inr (.inl (0, 240)), .inr (.inl (0, 240)),
  .inr (.inl (0, 240)),
  .inl (4, [24, 0, 0, 0, 4, 22, 0, 0]), .inr (.inl (0, 960)),
  .inl (3, [2])] ++ bkSh 23 ++ bkSh 28 ++ bkSh 33 ++ bkSh 38 ++ bkSh 43 ++ bkSh 48 ++ bkSh 53 ++ bkSh 58 ++ bkSh 63 ++ bkSh 68 ++ [
  .inl (7, [77, 78, 0, 79, 80, 2, 81, 0, 82, 83, 84, 0, 0, 0, 0, 85, 0, 86, 0, 0, 0, 0]),
  .inr (.inl (0, 160)), .inr (.inl (0, 1280)), .inr (.inl (0, 320)), .inr (.inl (1, 2)), .inr (.inl (0, 500)), .inr (.inl (0, 12)), .inr (.inl (0, 12)), .inr (.inl (0, 121)), .inr (.inl (0, 240)), .inr (.inl (0, 1000))]
def isL (k i : Nat) : Bool := match shp[k]? with
  | some (.inl q) => q.2[i]? == some 2
  | _ => false
abbrev WG : Type := va_G × (Nat → Nat) × (ClassId × ClassId × ClassId) × (Nat → Prop)
def slotV (ad : Nat → Nat) (d : Nat) (x : Int32) (y : Int64) : Value := match d with
  | 0 => .int x
  | 1 => .int x
  | 2 => .long y
  | n + 3 => .ref (ad n)
def ent (g : WG) (m32 : Nat → Nat → Int32) (m64 : Nat → Nat → Int64) (k : Nat) (sh : Sh) : va_E := match sh with
  | .inl q => .inr (q.1, q.2.mapIdx fun i d => slotV g.2.1 d (m32 k i) (m64 k i))
  | .inr (.inl q) => .inl (if q.1 = 0 then g.2.2.1.1 else g.2.2.1.2.1, q.2, .inl (m32 k))
  | .inr (.inr rs) => .inl (g.2.2.1.2.2, rs.length, .inr (.inr (.inr (.inr fun i => (rs[i]?).map g.2.1))))
def wsOf (g : WG) (m32 : Nat → Nat → Int32) (m64 : Nat → Nat → Int64) : va_W := shp.mapIdx fun k sh => (g.2.1 k, ent g m32 m64 k sh)
theorem wsOf_get (g : WG) (m32 : Nat → Nat → Int32) (m64 : Nat → Nat → Int64) {k : Nat} {sh : Sh} (h : shp[k]? = some sh) : (wsOf g m32 m64)[k]? = some (g.2.1 k, ent g m32 m64 k sh) := by
  rw [wsOf, List.getElem?_mapIdx, h]; rfl
theorem wsOf_inv (g : WG) (m32 : Nat → Nat → Int32) (m64 : Nat → Nat → Int64) {k : Nat} {q : Nat × va_E} (h : (wsOf g m32 m64)[k]? = some q) : k < shp.length ∧ q.1 = g.2.1 k := by
  rw [wsOf, List.getElem?_mapIdx] at h
  cases hs : shp[k]? with
  | none => rw [hs] at h; cases h
  | some sh =>
    rw [hs] at h
    cases h
    exact ⟨(List.getElem?_eq_some_iff.mp hs).1, rfl⟩
theorem wsOf_set (g : WG) {m32 n32 : Nat → Nat → Int32} {m64 n64 : Nat → Nat → Int64} {k : Nat} {sh : Sh} (h : shp[k]? = some sh) (h32 : ∀ j, j ≠ k → n32 j = m32 j) (h64 : ∀ j, j ≠ k → n64 j = m64 j) :
    (wsOf g m32 m64).set k (g.2.1 k, ent g n32 n64 k sh) = wsOf g n32 n64 := by
  apply List.ext_getElem?
  intro j
  by_cases hj : j = k
  · subst hj
    have hl : j < (wsOf g m32 m64).length := by
      have := (List.getElem?_eq_some_iff.mp (wsOf_get g m32 m64 h)).1
      exact this
    rw [List.getElem?_set_self hl, wsOf_get g n32 n64 h]
  · rw [List.getElem?_set_ne (Ne.symm hj)]
    simp only [wsOf, List.getElem?_mapIdx]
    cases hs : shp[j]? with
    | none => rfl
    | some s2 =>
      simp only [Option.map_some]
      have : ent g m32 m64 j s2 = ent g n32 n64 j s2 := by
        unfold ent
        rw [h32 j hj, h64 j hj]
      rw [this]
def adOk (g : WG) : Prop := (∀ i j, i < shp.length → j < shp.length → g.2.1 i = g.2.1 j → i = j) ∧ ∀ i, i < shp.length → g.2.2.2 (g.2.1 i)
theorem wsOf_D {g : WG} (h : adOk g) (m32 : Nat → Nat → Int32) (m64 : Nat → Nat → Int64) : va_D g.2.2.2 (wsOf g m32 m64) := by
  refine ⟨fun i j x y hi hj hxy => ?_, fun k q hk => ?_⟩
  · obtain ⟨a1, a2⟩ := wsOf_inv g m32 m64 hi
    obtain ⟨b1, b2⟩ := wsOf_inv g m32 m64 hj
    exact h.1 i j a1 b1 (by rw [← a2, ← b2]; exact hxy)
  · obtain ⟨a1, a2⟩ := wsOf_inv g m32 m64 hk
    rw [a2]; exact h.2 k a1
def MR (m32 : Nat → Nat → Int32) (m64 : Nat → Nat → Int64) (M : Mem) : Prop := ∀ k i, M k i = if isL k i then (m64 k i).toInt else (m32 k i).toInt
def Rp (g : WG) (M : Mem) (H : Heap) : Prop := ∃ m32 m64, MR m32 m64 M ∧ va_P g.1 vwCl (wsOf g m32 m64) H
def MOk (M : Mem) : Prop := ∀ k i, isL k i = false → InR (M k i)
theorem Rp.mok {g : WG} {M : Mem} {H : Heap} (h : Rp g M H) : MOk M := by
  obtain ⟨m32, m64, h1, -⟩ := h
  intro k i hk
  rw [h1 k i, hk]
  exact i32_in _
theorem MR.i {m32 : Nat → Nat → Int32} {m64 : Nat → Nat → Int64} {M : Mem} (h : MR m32 m64 M) {k i : Nat} (hl : isL k i = false) : Int32.ofInt (M k i) = m32 k i := by
  rw [h k i, hl]; simp
theorem MR.l {m32 : Nat → Nat → Int32} {m64 : Nat → Nat → Int64} {M : Mem} (h : MR m32 m64 M) {k i : Nat} (hl : isL k i = true) : Int64.ofInt (M k i) = m64 k i := by
  rw [h k i, hl]; simp
def tyL (g : WG) : List (ClassId × FieldType) := [(g.2.2.1.1, .int), (g.2.2.1.2.1, .boolean), (g.2.2.1.2.2, .object RX0)]
def Kn (g : WG) (U : State) : Prop := va_K g.1 vwCl (tyL g) U ∧ ∀ q ∈ NWl, va_Nw (.methodLinkNest q.1 q.2.1 q.2.2.1 q.2.2.2) U
theorem Kn.warm {g : WG} {s U : State} (hW : s.WarmedH U.vm) (h : Kn g s) : Kn g U := ⟨va_K.moved hW.alike h.1, fun q hq => va_Nw.warmM hW (h.2 q hq)⟩
theorem Kn.call {g : WG} {U : State} {f : JFrame} {mk : MethodId} {a : Array Value} (h : Kn g U) : Kn g (U.calling f mk a) := ⟨va_K.moved (u := U) (U := U.calling f mk a) (Vm.Alike.refl U.vm) h.1, fun q hq => va_Nw.same rfl rfl (h.2 q hq)⟩
/-! locals -/
def LR (ad : Nat → Nat) (nL : Nat) (lsA : Array Slot) (ls : List (Option MV)) : Prop := lsA.size = nL ∧ lv_wf lsA ∧ ls.length ≤ nL ∧ ∀ (i : Nat) (v : MV), ls[i]? = some (some v) → lsA[i]? = some (.val (toV ad v)) ∧ okV v
def lvl (ad : Nat → Nat) : Nat → List (Option MV) → List (Nat × Value)
  | _, [] => []
  | n, none :: r => lvl ad (n + 1) r
  | n, some v :: r => (n, toV ad v) :: lvl ad (n + 1) r
theorem lvl_mem (ad : Nat → Nat) : ∀ (ls : List (Option MV)) (n : Nat) (q : Nat × Value), q ∈ lvl ad n ls ↔ ∃ (i : Nat) (v : MV), ls[i]? = some (some v) ∧ q = (n + i, toV ad v)
  | [], n, q => by simp [lvl]
  | none :: r, n, q => by
    rw [lvl, lvl_mem ad r (n + 1) q]
    constructor
    · rintro ⟨i, v, h1, h2⟩
      exact ⟨i + 1, v, by simpa using h1, by rw [h2]; congr 1; omega⟩
    · rintro ⟨i, v, h1, h2⟩
      cases i with
      | zero => simp at h1
      | succ i => exact ⟨i, v, by simpa using h1, by rw [h2]; congr 1; omega⟩
  | some w :: r, n, q => by
    rw [lvl, List.mem_cons, lvl_mem ad r (n + 1) q]
    constructor
    · rintro (h | ⟨i, v, h1, h2⟩)
      · exact ⟨0, w, by simp, by simpa using h⟩
      · exact ⟨i + 1, v, by simpa using h1, by rw [h2]; congr 1; omega⟩
    · rintro ⟨i, v, h1, h2⟩
      cases i with
      | zero => left; simp at h1; subst h1; simpa using h2
      | succ i => right; exact ⟨i, v, by simpa using h1, by rw [h2]; congr 1; omega⟩
theorem LR.has {ad : Nat → Nat} {nL : Nat} {lsA : Array Slot} {ls : List (Option MV)} (h : LR ad nL lsA ls) : lv_has lsA nL (lvl ad 0 ls) := by
  refine ⟨h.1, h.2.1, fun q hq => ?_⟩
  obtain ⟨i, v, h1, h2⟩ := (lvl_mem ad ls 0 q).mp hq
  rw [h2, Nat.zero_add]
  exact (h.2.2.2 i v h1).1
def noL (ls : List (Option MV)) : Bool := ls.all fun o => match o with
  | some (.inr (.inl _)) => false
  | _ => true
theorem LR.set {ad : Nat → Nat} {nL : Nat} {lsA lsB : Array Slot} {ls : List (Option MV)} {i : Nat} {v : MV} (h : LR ad nL lsA ls) (hn : noL ls = true) (hv : okV v)
    (hB : lv_has lsB nL ((i, toV ad v) :: (lvl ad 0 ls).filter (fun q => !(q.1 == i) && !(q.1 + 1 == i && q.2.category == 2)))) : LR ad nL lsB (ls.set i (some v)) := by
  refine ⟨hB.1, hB.2.1, by rw [List.length_set]; exact h.2.2.1, fun j w hj => ?_⟩
  by_cases hji : j = i
  · subst hji
    have hl : j < ls.length := by
      have := (List.getElem?_eq_some_iff.mp hj).1
      rwa [List.length_set] at this
    rw [List.getElem?_set_self hl] at hj
    cases hj
    exact ⟨hB.2.2 _ List.mem_cons_self, hv⟩
  · rw [List.getElem?_set_ne (Ne.symm hji)] at hj
    refine ⟨hB.2.2 (j, toV ad w) (List.mem_cons_of_mem _ (List.mem_filter.mpr ⟨(lvl_mem ad ls 0 _).mpr ⟨j, w, hj, by simp⟩, ?_⟩)), (h.2.2.2 j w hj).2⟩
    have hw : (toV ad w).category = 1 := by
      have := List.all_eq_true.mp hn (some w) (List.mem_of_getElem? hj)
      rcases w with z | z | k
      · rfl
      · simp at this
      · rfl
    simp [hji, hw]
def initA : List MV → List (Option MV)
  | [] => []
  | .inr (.inl z) :: r => some (ml z) :: none :: initA r
  | .inl z :: r => some (mi z) :: initA r
  | .inr (.inr k) :: r => some (mr k) :: initA r
def initL (nL : Nat) (av : List MV) : List (Option MV) := initA av ++ List.replicate (nL - (initA av).length) none
theorem initA_len (ad : Nat → Nat) : ∀ av : List MV, (lg_sl (av.map (toV ad))).length = (initA av).length
  | [] => rfl
  | .inr (.inl z) :: r => by have := initA_len ad r; simp [initA, lg_sl, toV, Value.category] at this ⊢; omega
  | .inl z :: r => by have := initA_len ad r; simp [initA, lg_sl, toV, Value.category] at this ⊢; omega
  | .inr (.inr k) :: r => by have := initA_len ad r; simp [initA, lg_sl, toV, Value.category] at this ⊢; omega
theorem initA_mem (ad : Nat → Nat) : ∀ (av : List MV) (n i : Nat) (v : MV), (initA av)[i]? = some (some v) → (n + i, toV ad v) ∈ lv_args n (av.map (toV ad)) ∧ v ∈ av
  | [], n, i, v, h => by simp [initA] at h
  | .inr (.inl z) :: r, n, i, v, h => by
    match i, h with
    | 0, h => simp [initA] at h; subst h; exact ⟨by simp [lv_args, toV], List.mem_cons_self⟩
    | 1, h => simp [initA] at h
    | i + 2, h =>
      have h' : (initA r)[i]? = some (some v) := by simpa [initA] using h
      obtain ⟨a, b⟩ := initA_mem ad r (n + 2) i v h'
      refine ⟨?_, List.mem_cons_of_mem _ b⟩
      show (n + (i + 2), toV ad v) ∈ (n, toV ad (.inr (.inl z))) :: lv_args (n + 2) (r.map (toV ad))
      refine List.mem_cons_of_mem _ ?_
      have e : n + (i + 2) = n + 2 + i := by omega
      rw [e]; exact a
  | .inl z :: r, n, i, v, h => by
    match i, h with
    | 0, h => simp [initA] at h; subst h; exact ⟨by simp [lv_args, toV], List.mem_cons_self⟩
    | i + 1, h =>
      have h' : (initA r)[i]? = some (some v) := by simpa [initA] using h
      obtain ⟨a, b⟩ := initA_mem ad r (n + 1) i v h'
      refine ⟨?_, List.mem_cons_of_mem _ b⟩
      show (n + (i + 1), toV ad v) ∈ (n, toV ad (.inl z)) :: lv_args (n + 1) (r.map (toV ad))
      refine List.mem_cons_of_mem _ ?_
      have e : n + (i + 1) = n + 1 + i := by omega
      rw [e]; exact a
  | .inr (.inr k) :: r, n, i, v, h => by
    match i, h with
    | 0, h => simp [initA] at h; subst h; exact ⟨by simp [lv_args, toV], List.mem_cons_self⟩
    | i + 1, h =>
      have h' : (initA r)[i]? = some (some v) := by simpa [initA] using h
      obtain ⟨a, b⟩ := initA_mem ad r (n + 1) i v h'
      refine ⟨?_, List.mem_cons_of_mem _ b⟩
      show (n + (i + 1), toV ad v) ∈ (n, toV ad (.inr (.inr k))) :: lv_args (n + 1) (r.map (toV ad))
      refine List.mem_cons_of_mem _ ?_
      have e : n + (i + 1) = n + 1 + i := by omega
      rw [e]; exact a
theorem initL_LR (ad : Nat → Nat) {nL : Nat} {av : List MV} (h : (initA av).length ≤ nL) (hok : ∀ v ∈ av, okV v) : LR ad nL ((lg_sl (av.map (toV ad)) ++ List.replicate (nL - (lg_sl (av.map (toV ad))).length) Slot.unset).toArray) (initL nL av) := by
  have hl := lv_entry (av.map (toV ad)) (n := nL) (by rw [initA_len]; exact h)
  refine ⟨hl.1, hl.2.1, by simp [initL]; omega, fun i v hi => ?_⟩
  have hi' : (initA av)[i]? = some (some v) := by
    unfold initL at hi
    by_cases hlt : i < (initA av).length
    · rwa [List.getElem?_append_left hlt] at hi
    · rw [List.getElem?_append_right (by omega)] at hi
      have := List.eq_of_mem_replicate (List.mem_of_getElem? hi)
      cases this
  obtain ⟨a, b⟩ := initA_mem ad av 0 i v hi'
  rw [Nat.zero_add] at a
  exact ⟨hl.2.2 _ a, hok v b⟩
end
section
/-! WHAT AN INSTRUCTION ASKS OF WHAT FOLLOWS IT -/
abbrev KZ : Type := Nat → List (Option MV) → List MV → Mem → Prop
abbrev KR : Type := Option MV → Mem → Prop
abbrev SP : Type := List MV → Mem → KR → Prop
abbrev Sem : Type := Nat → KZ → KR → List (Option MV) → List MV → Mem → Prop
def catS (st : List MV) : Nat := (st.map catV).sum
def I_const (z : Int) : Sem := fun ip Z _ ls st M => Z (ip + 1) ls (mi z :: st) M
def I_lconst (z : Int) : Sem := fun ip Z _ ls st M => Z (ip + 1) ls (ml z :: st) M
def I_iload (i : Nat) : Sem := fun ip Z _ ls st M => ∃ z, ls[i]? = some (some (mi z)) ∧ Z (ip + 1) ls (mi z :: st) M
def I_lload (i : Nat) : Sem := fun ip Z _ ls st M => ∃ z, ls[i]? = some (some (ml z)) ∧ Z (ip + 1) ls (ml z :: st) M
def I_aload (i : Nat) : Sem := fun ip Z _ ls st M => ∃ k, ls[i]? = some (some (mr k)) ∧ Z (ip + 1) ls (mr k :: st) M
def I_istore (i : Nat) : Sem := fun ip Z _ ls st M => ∃ z r, st = mi z :: r ∧ i < ls.length ∧ noL ls = true ∧ Z (ip + 1) (ls.set i (some (mi z))) r M
def I_iinc (i : Nat) (n : Int) : Sem := fun ip Z _ ls st M => ∃ z, ls[i]? = some (some (mi z)) ∧ noL ls = true ∧ InR (z + n) ∧ Z (ip + 1) (ls.set i (some (mi (z + n)))) st M
def I_add : Sem := fun ip Z _ ls st M => ∃ x y r, st = mi y :: mi x :: r ∧ InR (x + y) ∧ Z (ip + 1) ls (mi (x + y) :: r) M
def I_sub : Sem := fun ip Z _ ls st M => ∃ x y r, st = mi y :: mi x :: r ∧ InR (x - y) ∧ Z (ip + 1) ls (mi (x - y) :: r) M
def I_mul : Sem := fun ip Z _ ls st M => ∃ x y r, st = mi y :: mi x :: r ∧ InR (x * y) ∧ Z (ip + 1) ls (mi (x * y) :: r) M
def I_div : Sem := fun ip Z _ ls st M => ∃ x y r, st = mi y :: mi x :: r ∧ 0 ≤ x ∧ 0 < y ∧ Z (ip + 1) ls (mi (x / y) :: r) M
def I_rem : Sem := fun ip Z _ ls st M => ∃ x y r, st = mi y :: mi x :: r ∧ 0 ≤ x ∧ 0 < y ∧ Z (ip + 1) ls (mi (x % y) :: r) M
def I_lmul : Sem := fun ip Z _ ls st M => ∃ x y r, st = ml y :: ml x :: r ∧ InL (x * y) ∧ Z (ip + 1) ls (ml (x * y) :: r) M
def I_lrem : Sem := fun ip Z _ ls st M => ∃ x y r, st = ml y :: ml x :: r ∧ 0 ≤ x ∧ 0 < y ∧ Z (ip + 1) ls (ml (x % y) :: r) M
def I_i2l : Sem := fun ip Z _ ls st M => ∃ x r, st = mi x :: r ∧ Z (ip + 1) ls (ml x :: r) M
def I_l2i : Sem := fun ip Z _ ls st M => ∃ x r, st = ml x :: r ∧ InR x ∧ Z (ip + 1) ls (mi x :: r) M
def cmp3 (x y : Int) : Int := if y < x then 1 else if x = y then 0 else -1
def I_lcmp : Sem := fun ip Z _ ls st M => ∃ x y r, st = ml y :: ml x :: r ∧ Z (ip + 1) ls (mi (cmp3 x y) :: r) M
def I_and31 : Sem := fun ip Z _ ls st M => ∃ x r, st = mi 31 :: mi x :: r ∧ Z (ip + 1) ls (mi (x % 32) :: r) M
def I_dup : Sem := fun ip Z _ ls st M => ∃ v r, st = v :: r ∧ catV v = 1 ∧ Z (ip + 1) ls (v :: v :: r) M
def I_dup2 : Sem := fun ip Z _ ls st M => ∃ v w r, st = v :: w :: r ∧ catV v = 1 ∧ catV w = 1 ∧ Z (ip + 1) ls (v :: w :: v :: w :: r) M
def I_pop : Sem := fun ip Z _ ls st M => ∃ v r, st = v :: r ∧ catV v = 1 ∧ Z (ip + 1) ls r M
def I_goto (t : Nat) : Sem := fun _ Z _ ls st M => Z t ls st M
def I_ifeq (t : Nat) : Sem := fun ip Z _ ls st M => ∃ x r, st = mi x :: r ∧ (x = 0 → Z t ls r M) ∧ (¬ x = 0 → Z (ip + 1) ls r M)
def I_ifne (t : Nat) : Sem := fun ip Z _ ls st M => ∃ x r, st = mi x :: r ∧ (¬ x = 0 → Z t ls r M) ∧ (x = 0 → Z (ip + 1) ls r M)
def I_iflt (t : Nat) : Sem := fun ip Z _ ls st M => ∃ x r, st = mi x :: r ∧ (x < 0 → Z t ls r M) ∧ (0 ≤ x → Z (ip + 1) ls r M)
def I_ifge (t : Nat) : Sem := fun ip Z _ ls st M => ∃ x r, st = mi x :: r ∧ (0 ≤ x → Z t ls r M) ∧ (x < 0 → Z (ip + 1) ls r M)
def I_ifle (t : Nat) : Sem := fun ip Z _ ls st M => ∃ x r, st = mi x :: r ∧ (x ≤ 0 → Z t ls r M) ∧ (0 < x → Z (ip + 1) ls r M)
def I_ifgt (t : Nat) : Sem := fun ip Z _ ls st M => ∃ x r, st = mi x :: r ∧ (0 < x → Z t ls r M) ∧ (x ≤ 0 → Z (ip + 1) ls r M)
def I_ceq (t : Nat) : Sem := fun ip Z _ ls st M => ∃ x y r, st = mi y :: mi x :: r ∧ (x = y → Z t ls r M) ∧ (¬ x = y → Z (ip + 1) ls r M)
def I_cne (t : Nat) : Sem := fun ip Z _ ls st M => ∃ x y r, st = mi y :: mi x :: r ∧ (¬ x = y → Z t ls r M) ∧ (x = y → Z (ip + 1) ls r M)
def I_clt (t : Nat) : Sem := fun ip Z _ ls st M => ∃ x y r, st = mi y :: mi x :: r ∧ (x < y → Z t ls r M) ∧ (y ≤ x → Z (ip + 1) ls r M)
def I_cge (t : Nat) : Sem := fun ip Z _ ls st M => ∃ x y r, st = mi y :: mi x :: r ∧ (y ≤ x → Z t ls r M) ∧ (x < y → Z (ip + 1) ls r M)
def I_cle (t : Nat) : Sem := fun ip Z _ ls st M => ∃ x y r, st = mi y :: mi x :: r ∧ (x ≤ y → Z t ls r M) ∧ (y < x → Z (ip + 1) ls r M)
def I_cgt (t : Nat) : Sem := fun ip Z _ ls st M => ∃ x y r, st = mi y :: mi x :: r ∧ (y < x → Z t ls r M) ∧ (x ≤ y → Z (ip + 1) ls r M)
def I_tsw (lo : Int) (ts : List Nat) (d : Nat) : Sem := fun _ Z _ ls st M => ∃ x r, st = mi x :: r ∧ (∀ (j t : Nat), ts[j]? = some t → x = lo + j → Z t ls r M) ∧ (x < lo ∨ lo + ts.length ≤ x → Z d ls r M)
def I_get (ci k : Nat) : Sem := fun ip Z _ ls st M => ∃ o r q d, st = mr o :: r ∧ shp[o]? = some (.inl q) ∧ q.1 = ci ∧ q.2[k]? = some d ∧ Z (ip + 1) ls ((match d with
  | 0 => mi (M o k)
  | 1 => mi (M o k)
  | 2 => ml (M o k)
  | n + 3 => mr n) :: r) M
def I_puti (ci k : Nat) : Sem := fun ip Z _ ls st M => ∃ o r q z, st = mi z :: mr o :: r ∧ shp[o]? = some (.inl q) ∧ q.1 = ci ∧ q.2[k]? = some 0 ∧ Z (ip + 1) ls r (mup M o k z)
def I_putz (ci k : Nat) : Sem := fun ip Z _ ls st M => ∃ o r q z, st = mi z :: mr o :: r ∧ shp[o]? = some (.inl q) ∧ q.1 = ci ∧ q.2[k]? = some 1 ∧ (z = 0 ∨ z = 1) ∧ Z (ip + 1) ls r (mup M o k z)
def I_putl (ci k : Nat) : Sem := fun ip Z _ ls st M => ∃ o r q z, st = ml z :: mr o :: r ∧ shp[o]? = some (.inl q) ∧ q.1 = ci ∧ q.2[k]? = some 2 ∧ Z (ip + 1) ls r (mup M o k z)
def I_iald : Sem := fun ip Z _ ls st M => ∃ i o r n, st = mi i :: mr o :: r ∧ shp[o]? = some (.inr (.inl (0, n))) ∧ 0 ≤ i ∧ i < n ∧ Z (ip + 1) ls (mi (M o i.toNat) :: r) M
def I_zald : Sem := fun ip Z _ ls st M => ∃ i o r n, st = mi i :: mr o :: r ∧ shp[o]? = some (.inr (.inl (1, n))) ∧ 0 ≤ i ∧ i < n ∧ Z (ip + 1) ls (mi (M o i.toNat) :: r) M
def I_iast : Sem := fun ip Z _ ls st M => ∃ z i o r n, st = mi z :: mi i :: mr o :: r ∧ shp[o]? = some (.inr (.inl (0, n))) ∧ 0 ≤ i ∧ i < n ∧ Z (ip + 1) ls r (mup M o i.toNat z)
def I_zast : Sem := fun ip Z _ ls st M => ∃ z i o r n, st = mi z :: mi i :: mr o :: r ∧ shp[o]? = some (.inr (.inl (1, n))) ∧ 0 ≤ i ∧ i < n ∧ (z = 0 ∨ z = 1) ∧ Z (ip + 1) ls r (mup M o i.toNat z)
def I_aald : Sem := fun ip Z _ ls st M => ∃ i o r rs, st = mi i :: mr o :: r ∧ shp[o]? = some (.inr (.inr rs)) ∧ 0 ≤ i ∧ i < rs.length ∧ ∀ (j t : Nat), rs[j]? = some t → i = j → Z (ip + 1) ls (mr t :: r) M
def I_alen : Sem := fun ip Z _ ls st M => ∃ o r n, st = mr o :: r ∧ shp[o]? = some (.inr (.inl (0, n))) ∧ n < 2147483648 ∧ Z (ip + 1) ls (mi n :: r) M
def I_siald (L : Nat) (xs : Nat → Int) : Sem := fun ip Z _ ls st M => ∃ i r, st = mi i :: mr 999 :: r ∧ 0 ≤ i ∧ i < L ∧ Z (ip + 1) ls (mi (xs i.toNat) :: r) M
def I_slen (L : Nat) : Sem := fun ip Z _ ls st M => ∃ r, st = mr 999 :: r ∧ L < 2147483648 ∧ Z (ip + 1) ls (mi L :: r) M
def I_min : Sem := fun ip Z _ ls st M => ∃ x y r, st = mi y :: mi x :: r ∧ catS r ≤ 8 ∧ Z (ip + 1) ls (mi (if y < x then y else x) :: r) M
def I_max : Sem := fun ip Z _ ls st M => ∃ x y r, st = mi y :: mi x :: r ∧ catS r ≤ 8 ∧ Z (ip + 1) ls (mi (if x < y then y else x) :: r) M
def cpyR (f h : Nat → Int) (sp dp n : Nat) : Nat → Int := fun k => if dp ≤ k ∧ k < dp + n then f (sp + (k - dp)) else h k
def I_copy : Sem := fun ip Z _ ls st M => ∃ n dp d sp s r n0 n1, st = mi n :: mi dp :: mr d :: mi sp :: mr s :: r ∧ shp[s]? = some (.inr (.inl (0, n0))) ∧ shp[d]? = some (.inr (.inl (0, n1))) ∧ 0 ≤ sp ∧ 0 ≤ dp ∧ 0 ≤ n ∧ sp + n ≤ n0 ∧ dp + n ≤ n1 ∧ catS r ≤ 8 ∧ Z (ip + 1) ls r (srow M d (cpyR (M s) (M d) sp.toNat dp.toNat n.toNat))
def I_callV (ci n : Nat) (sp : SP) : Sem := fun ip Z _ ls st M => ∃ As o r q, st = As.reverse ++ mr o :: r ∧ As.length = n ∧ shp[o]? = some (.inl q) ∧ q.1 = ci ∧ catS r ≤ 8 ∧ sp (mr o :: As) M (fun v M' => Z (ip + 1) ls (v.toList ++ r) M')
def I_callS (n : Nat) (sp : SP) : Sem := fun ip Z _ ls st M => ∃ As r, st = As.reverse ++ r ∧ As.length = n ∧ catS r ≤ 8 ∧ sp As M (fun v M' => Z (ip + 1) ls (v.toList ++ r) M')
def I_iret : Sem := fun _ _ Ret _ st M => ∃ z, st = [mi z] ∧ Ret (some (mi z)) M
def I_zret : Sem := fun _ _ Ret _ st M => ∃ z, st = [mi z] ∧ (z = 0 ∨ z = 1) ∧ Ret (some (mi z)) M
def I_vret : Sem := fun _ _ Ret _ st M => st = [] ∧ Ret none M
/-- a code by its instructions' numbers: what they ask is enough -/
def Sim (code : List Sem) (Z : KZ) (Ret : KR) : Prop := (∀ (ip : Nat) (ls : List (Option MV)) (st : List MV) (M : Mem) (sem : Sem), code[ip]? = some sem → sem ip Z Ret ls st M → Z ip ls st M) ∧
  ∀ (ip : Nat) (ls : List (Option MV)) (st : List MV) (M : Mem) (i : Nat), Z ip (ls.set i none) st M → Z ip ls st M
/-! the same over the machine -/
def Cx (p : Program) (s : State) (m : MethodId) (args : Array Value) (c : Code) (own : String) (cc : ByteArray) (nL : Nat) (g : WG) : Prop :=
  p.tables.exec = Jvm.exec ∧ c.code = cc ∧ c.maxLocals = nL ∧ s.vm.findClass own = some m.cls ∧ (∀ w ∈ TB, w.before args s = true) ∧ Kn g s ∧ adOk g
def ZW (p : Program) (l : Launch) (e : Env) (R : Room) (s : State) (m : MethodId) (args : Array Value) (below : List Frame) (meth : Method) (c : Code) (Q : State → Prop) (nC nS : Nat) (g : WG) (nL : Nat) (pcs : List Nat) : KZ := fun ip ls st M =>
  ∀ (H : Heap) (locs : List Loc) (lsA : Array Slot), Rp g M H → va_S g.2.2.2 s.heap H locs → LR g.2.1 nL lsA ls → (∀ v ∈ st, okV v) → W p l e R s m args below meth c H locs nC nS Q (F0 m (pcs.getD ip 0) lsA (st.map (toV g.2.1)))
def HR (p : Program) (l : Launch) (e : Env) (R : Room) (s : State) (m : MethodId) (args : Array Value) (below : List Frame) (meth : Method) (c : Code) (Q : State → Prop) (nC nS : Nat) (g : WG) (cc : ByteArray) (ret : Option FieldType) (Ret : KR) : Prop :=
  ∀ (pc : Nat) (H : Heap) (locs : List Loc) (lsA : Array Slot) (M : Mem), Rp g M H → va_S g.2.2.2 s.heap H locs →
    (decode cc pc = .ok (.return_, 1) → ret = none → Ret none M → W p l e R s m args below meth c H locs nC nS Q (F0 m pc lsA [])) ∧
    (∀ z : Int, decode cc pc = .ok (.ireturn, 1) → InR z → (ret = some .int ∨ ret = some .boolean ∧ (z = 0 ∨ z = 1)) → Ret (some (mi z)) M → W p l e R s m args below meth c H locs nC nS Q (F0 m pc lsA [.int (Int32.ofInt z)]))
def Rm (R : Room) (nC nS fr lo : Nat) : Prop := fr ≤ R.frames ∧ lo ≤ R.locals ∧ nC ≤ R.cells ∧ nS ≤ R.slots
/-- the script, where there is one -/
def Sx (s : State) (g : WG) (sx : Option (Nat × (Nat → Int))) : Prop := ∀ L xs, sx = some (L, xs) → ∃ x32 : Nat → Int32, va_X (g.2.1 999) L x32 s s.heap ∧ (∀ j, (x32 j).toInt = xs j) ∧ g.2.1 999 < s.heap.size ∧ ¬ g.2.2.2 (g.2.1 999)
def Snd (own : String) (cc : ByteArray) (nL fr lo : Nat) (ret : Option FieldType) (sx : Option (Nat × (Nat → Int))) (pcs : List Nat) (ip : Nat) (sem : Sem) : Prop :=
  ∀ (p : Program) (l : Launch) (e : Env) (R : Room) (s : State) (m : MethodId) (args : Array Value) (below : List Frame) (meth : Method) (c : Code) (Q : State → Prop) (nC nS : Nat) (g : WG) (Ret : KR),
    Cx p s m args c own cc nL g → Rm R nC nS fr lo → Sx s g sx → HR p l e R s m args below meth c Q nC nS g cc ret Ret →
    ∀ (ls : List (Option MV)) (st : List MV) (M : Mem), sem ip (ZW p l e R s m args below meth c Q nC nS g nL pcs) Ret ls st M → ZW p l e R s m args below meth c Q nC nS g nL pcs ip ls st M
section SND
variable {own : String} {cc : ByteArray} {nL fr lo : Nat} {ret : Option FieldType} {sx : Option (Nat × (Nat → Int))} {pcs : List Nat} {ip : Nat}
theorem ok_c {v : MV} {st : List MV} (hv : okV v) (h : ∀ w ∈ st, okV w) : ∀ w ∈ v :: st, okV w := fun w hw => by
  rcases List.mem_cons.mp hw with e | e
  · rw [e]; exact hv
  · exact h w e
theorem ok_h {v : MV} {st : List MV} (h : ∀ w ∈ v :: st, okV w) : okV v := h v List.mem_cons_self
theorem ok_t {v : MV} {st : List MV} (h : ∀ w ∈ v :: st, okV w) : ∀ w ∈ st, okV w := fun w hw => h w (List.mem_cons_of_mem _ hw)
theorem s_iconst {n : Int} (hd : decode cc (pcs.getD ip 0) = .ok (.iconst n, 1)) (hn : pcs.getD (ip + 1) 0 = pcs.getD ip 0 + 1) (hr : InR n) : Snd own cc nL fr lo ret sx pcs ip (I_const n) := by
  intro p l e R s m args below meth c Q nC nS g Ret hC _ _ _ ls st M h H locs lsA hR hS hL hok
  have h' := h H locs lsA hR hS hL (ok_c hr hok)
  rw [hn] at h'
  exact lv_iconst hC.1 hC.2.1 hd rfl h'
theorem s_bipush {n : Int} (hd : decode cc (pcs.getD ip 0) = .ok (.bipush n, 2)) (hn : pcs.getD (ip + 1) 0 = pcs.getD ip 0 + 2) (hr : InR n) (hv : (Int8.ofInt n).toInt32 = Int32.ofInt n) : Snd own cc nL fr lo ret sx pcs ip (I_const n) := by
  intro p l e R s m args below meth c Q nC nS g Ret hC _ _ _ ls st M h H locs lsA hR hS hL hok
  have h' := h H locs lsA hR hS hL (ok_c hr hok)
  rw [hn] at h'
  exact lv_bipush hC.1 hC.2.1 hd hv h'
theorem s_sipush {n : Int} (hd : decode cc (pcs.getD ip 0) = .ok (.sipush n, 3)) (hn : pcs.getD (ip + 1) 0 = pcs.getD ip 0 + 3) (hr : InR n) (hv : (Int16.ofInt n).toInt32 = Int32.ofInt n) : Snd own cc nL fr lo ret sx pcs ip (I_const n) := by
  intro p l e R s m args below meth c Q nC nS g Ret hC _ _ _ ls st M h H locs lsA hR hS hL hok
  have h' := h H locs lsA hR hS hL (ok_c hr hok)
  rw [hn] at h'
  exact lv_sipush hC.1 hC.2.1 hd hv h'
theorem s_ldc {n : Int} {index : Nat} {v : Int32} (hw : Cond.constant own index v ∈ TB) (hd : decode cc (pcs.getD ip 0) = .ok (.ldc index, 2)) (hn : pcs.getD (ip + 1) 0 = pcs.getD ip 0 + 2) (hr : InR n) (hv : v = Int32.ofInt n) : Snd own cc nL fr lo ret sx pcs ip (I_const n) := by
  intro p l e R s m args below meth c Q nC nS g Ret hC _ _ _ ls st M h H locs lsA hR hS hL hok
  have h' := h H locs lsA hR hS hL (ok_c hr hok)
  rw [hn] at h'
  subst hv
  exact lv_ldc hC.1 hC.2.1 hC.2.2.2.1 (hC.2.2.2.2.1 _ hw) hd h'
theorem s_lconst {n : Int} {k : Fin 2} (hd : decode cc (pcs.getD ip 0) = .ok (.lconst k, 1)) (hn : pcs.getD (ip + 1) 0 = pcs.getD ip 0 + 1) (hr : InL n) (hv : Int64.ofNat (k : Nat) = Int64.ofInt n) : Snd own cc nL fr lo ret sx pcs ip (I_lconst n) := by
  intro p l e R s m args below meth c Q nC nS g Ret hC _ _ _ ls st M h H locs lsA hR hS hL hok
  have h' := h H locs lsA hR hS hL (ok_c hr hok)
  rw [hn] at h'
  exact lv_lconst hC.1 hC.2.1 hd hv h'
theorem s_ldc2 {n : Int} {index : Nat} {v : Int64} (hw : Cond.constantLong own index v ∈ TB) (hd : decode cc (pcs.getD ip 0) = .ok (.ldc2_w index, 3)) (hn : pcs.getD (ip + 1) 0 = pcs.getD ip 0 + 3) (hr : InL n) (hv : v = Int64.ofInt n) : Snd own cc nL fr lo ret sx pcs ip (I_lconst n) := by
  intro p l e R s m args below meth c Q nC nS g Ret hC _ _ _ ls st M h H locs lsA hR hS hL hok
  have h' := h H locs lsA hR hS hL (ok_c hr hok)
  rw [hn] at h'
  subst hv
  exact lv_ldc2 hC.1 hC.2.1 hC.2.2.2.1 (hC.2.2.2.2.1 _ hw) hd h'
theorem s_iload_n {i : Nat} {k : Fin 4} (hd : decode cc (pcs.getD ip 0) = .ok (.iload_n k, 1)) (hn : pcs.getD (ip + 1) 0 = pcs.getD ip 0 + 1) (hk : (k : Nat) = i) : Snd own cc nL fr lo ret sx pcs ip (I_iload i) := by
  intro p l e R s m args below meth c Q nC nS g Ret hC _ _ _ ls st M h H locs lsA hR hS hL hok
  obtain ⟨z, h1, h⟩ := h
  have h2 := hL.2.2.2 i _ h1
  have h' := h H locs lsA hR hS hL (ok_c h2.2 hok)
  rw [hn] at h'
  exact lv_iload_n hC.1 hC.2.1 hd hk h2.1 h'
theorem s_iload {i : Nat} (hd : decode cc (pcs.getD ip 0) = .ok (.iload i, 2)) (hn : pcs.getD (ip + 1) 0 = pcs.getD ip 0 + 2) : Snd own cc nL fr lo ret sx pcs ip (I_iload i) := by
  intro p l e R s m args below meth c Q nC nS g Ret hC _ _ _ ls st M h H locs lsA hR hS hL hok
  obtain ⟨z, h1, h⟩ := h
  have h2 := hL.2.2.2 i _ h1
  have h' := h H locs lsA hR hS hL (ok_c h2.2 hok)
  rw [hn] at h'
  exact lv_iload hC.1 hC.2.1 hd h2.1 h'
theorem s_lload_n {i : Nat} {k : Fin 4} (hd : decode cc (pcs.getD ip 0) = .ok (.lload_n k, 1)) (hn : pcs.getD (ip + 1) 0 = pcs.getD ip 0 + 1) (hk : (k : Nat) = i) : Snd own cc nL fr lo ret sx pcs ip (I_lload i) := by
  intro p l e R s m args below meth c Q nC nS g Ret hC _ _ _ ls st M h H locs lsA hR hS hL hok
  obtain ⟨z, h1, h⟩ := h
  have h2 := hL.2.2.2 i _ h1
  have h' := h H locs lsA hR hS hL (ok_c h2.2 hok)
  rw [hn] at h'
  exact lv_lload_n hC.1 hC.2.1 hd hk h2.1 h'
theorem s_lload {i : Nat} (hd : decode cc (pcs.getD ip 0) = .ok (.lload i, 2)) (hn : pcs.getD (ip + 1) 0 = pcs.getD ip 0 + 2) : Snd own cc nL fr lo ret sx pcs ip (I_lload i) := by
  intro p l e R s m args below meth c Q nC nS g Ret hC _ _ _ ls st M h H locs lsA hR hS hL hok
  obtain ⟨z, h1, h⟩ := h
  have h2 := hL.2.2.2 i _ h1
  have h' := h H locs lsA hR hS hL (ok_c h2.2 hok)
  rw [hn] at h'
  exact lv_lload hC.1 hC.2.1 hd h2.1 h'
theorem s_aload_n {i : Nat} {k : Fin 4} (hd : decode cc (pcs.getD ip 0) = .ok (.aload_n k, 1)) (hn : pcs.getD (ip + 1) 0 = pcs.getD ip 0 + 1) (hk : (k : Nat) = i) : Snd own cc nL fr lo ret sx pcs ip (I_aload i) := by
  intro p l e R s m args below meth c Q nC nS g Ret hC _ _ _ ls st M h H locs lsA hR hS hL hok
  obtain ⟨z, h1, h⟩ := h
  have h2 := hL.2.2.2 i _ h1
  have h' := h H locs lsA hR hS hL (ok_c h2.2 hok)
  rw [hn] at h'
  exact lv_aload_n hC.1 hC.2.1 hd hk h2.1 h'
theorem s_istore_n {i : Nat} {k : Fin 4} (hd : decode cc (pcs.getD ip 0) = .ok (.istore_n k, 1)) (hn : pcs.getD (ip + 1) 0 = pcs.getD ip 0 + 1) (hk : (k : Nat) = i) : Snd own cc nL fr lo ret sx pcs ip (I_istore i) := by
  intro p l e R s m args below meth c Q nC nS g Ret hC _ _ _ ls st M h H locs lsA hR hS hL hok
  obtain ⟨z, r, rfl, h1, h2, h⟩ := h
  refine lv_istore_n hC.1 hC.2.1 hd hk hL.has (Nat.lt_of_lt_of_le h1 hL.2.2.1) rfl fun lsB hB => ?_
  have h' := h H locs lsB hR hS (hL.set h2 (ok_h hok) hB) (ok_t hok)
  rw [hn] at h'
  exact h'
theorem s_istore {i : Nat} (hd : decode cc (pcs.getD ip 0) = .ok (.istore i, 2)) (hn : pcs.getD (ip + 1) 0 = pcs.getD ip 0 + 2) : Snd own cc nL fr lo ret sx pcs ip (I_istore i) := by
  intro p l e R s m args below meth c Q nC nS g Ret hC _ _ _ ls st M h H locs lsA hR hS hL hok
  obtain ⟨z, r, rfl, h1, h2, h⟩ := h
  refine lv_istore hC.1 hC.2.1 hd hL.has (Nat.lt_of_lt_of_le h1 hL.2.2.1) rfl fun lsB hB => ?_
  have h' := h H locs lsB hR hS (hL.set h2 (ok_h hok) hB) (ok_t hok)
  rw [hn] at h'
  exact h'
theorem s_iinc {i : Nat} {n : Int} (hd : decode cc (pcs.getD ip 0) = .ok (.iinc i n, 3)) (hn : pcs.getD (ip + 1) 0 = pcs.getD ip 0 + 3) : Snd own cc nL fr lo ret sx pcs ip (I_iinc i n) := by
  intro p l e R s m args below meth c Q nC nS g Ret hC _ _ _ ls st M h H locs lsA hR hS hL hok
  obtain ⟨z, h1, h2, h3, h⟩ := h
  obtain ⟨j, hj⟩ := List.getElem?_of_mem ((lvl_mem g.2.1 ls 0 (i, .int (Int32.ofInt z))).mpr ⟨i, mi z, h1, by simp [toV]⟩)
  have hlt : i < nL := Nat.lt_of_lt_of_le (List.getElem?_eq_some_iff.mp h1).1 hL.2.2.1
  refine lv_iinc (v := Int32.ofInt (z + n)) hC.1 hC.2.1 hd hL.has hj (by simp) hlt rfl fun lsB hB => ?_
  have h' := h H locs lsB hR hS (hL.set h2 (v := mi (z + n)) h3 hB) hok
  rw [hn] at h'
  exact h'
theorem s_add (hd : decode cc (pcs.getD ip 0) = .ok (.iadd, 1)) (hn : pcs.getD (ip + 1) 0 = pcs.getD ip 0 + 1) : Snd own cc nL fr lo ret sx pcs ip I_add := by
  intro p l e R s m args below meth c Q nC nS g Ret hC _ _ _ ls st M h H locs lsA hR hS hL hok
  obtain ⟨x, y, r, rfl, h1, h⟩ := h
  have h' := h H locs lsA hR hS hL (ok_c h1 (ok_t (ok_t hok)))
  rw [hn] at h'
  refine lv_iadd hC.1 hC.2.1 hd ?_
  rw [← Int32.ofInt_add]
  exact h'
theorem s_sub (hd : decode cc (pcs.getD ip 0) = .ok (.isub, 1)) (hn : pcs.getD (ip + 1) 0 = pcs.getD ip 0 + 1) : Snd own cc nL fr lo ret sx pcs ip I_sub := by
  intro p l e R s m args below meth c Q nC nS g Ret hC _ _ _ ls st M h H locs lsA hR hS hL hok
  obtain ⟨x, y, r, rfl, h1, h⟩ := h
  have h' := h H locs lsA hR hS hL (ok_c h1 (ok_t (ok_t hok)))
  rw [hn] at h'
  refine lv_isub hC.1 hC.2.1 hd ?_
  rw [← Int32.ofInt_sub]
  exact h'
theorem s_mul (hd : decode cc (pcs.getD ip 0) = .ok (.imul, 1)) (hn : pcs.getD (ip + 1) 0 = pcs.getD ip 0 + 1) : Snd own cc nL fr lo ret sx pcs ip I_mul := by
  intro p l e R s m args below meth c Q nC nS g Ret hC _ _ _ ls st M h H locs lsA hR hS hL hok
  obtain ⟨x, y, r, rfl, h1, h⟩ := h
  have h' := h H locs lsA hR hS hL (ok_c h1 (ok_t (ok_t hok)))
  rw [hn] at h'
  refine lv_imul hC.1 hC.2.1 hd ?_
  rw [← Int32.ofInt_mul]
  exact h'
end SND
end
section
section SND2
variable {own : String} {cc : ByteArray} {nL fr lo : Nat} {ret : Option FieldType} {sx : Option (Nat × (Nat → Int))} {pcs : List Nat} {ip : Nat}
theorem in_div {x y : Int} (hx : InR x) (h0 : 0 ≤ x) (h1 : 0 < y) : InR (x / y) ∧ InR (x % y) := by
  have a := Int.ediv_nonneg h0 (Int.le_of_lt h1)
  have b := Int.ediv_le_self y h0
  have c := Int.emod_nonneg x (by omega : y ≠ 0)
  have d : x % y ≤ x := by
    have e := Int.mul_ediv_add_emod x y
    have f := Int.mul_nonneg (Int.le_of_lt h1) a
    omega
  exact ⟨⟨by omega, by have := hx.2; omega⟩, ⟨by omega, by have := hx.2; omega⟩⟩
theorem in_divL {x y : Int} (hx : InL x) (h0 : 0 ≤ x) (h1 : 0 < y) : InL (x % y) := by
  have a := Int.ediv_nonneg h0 (Int.le_of_lt h1)
  have c := Int.emod_nonneg x (by omega : y ≠ 0)
  have d : x % y ≤ x := by
    have e := Int.mul_ediv_add_emod x y
    have f := Int.mul_nonneg (Int.le_of_lt h1) a
    omega
  exact ⟨by omega, by have := hx.2; omega⟩
theorem i32_div {x y : Int} (hx : InR x) (hy : InR y) (h0 : 0 ≤ x) (h1 : 0 < y) : Int32.ofInt x / Int32.ofInt y = Int32.ofInt (x / y) := by
  rw [← Int32.toInt_inj, i32_of (in_div hx h0 h1).1, Int32.toInt_div_of_ne_right, i32_of hx, i32_of hy, Int.tdiv_eq_ediv_of_nonneg h0]
  intro q
  have := congrArg Int32.toInt q
  rw [i32_of hy] at this
  have e : (-1 : Int32).toInt = -1 := by decide
  omega
theorem i32_rem {x y : Int} (hx : InR x) (hy : InR y) (h0 : 0 ≤ x) (h1 : 0 < y) : Int32.ofInt x - Int32.ofInt x / Int32.ofInt y * Int32.ofInt y = Int32.ofInt (x % y) := by
  rw [i32_div hx hy h0 h1, ← Int32.ofInt_mul, ← Int32.ofInt_sub]
  congr 1
  have e := Int.mul_ediv_add_emod x y
  rw [Int.mul_comm] at e
  omega
theorem i64_rem {x y : Int} (hx : InL x) (hy : InL y) (h0 : 0 ≤ x) (h1 : 0 < y) : Int64.ofInt x - Int64.ofInt x / Int64.ofInt y * Int64.ofInt y = Int64.ofInt (x % y) := by
  have hd : InL (x / y) := by
    have a := Int.ediv_nonneg h0 (Int.le_of_lt h1)
    have b := Int.ediv_le_self y h0
    exact ⟨by omega, by have := hx.2; omega⟩
  have hdv : Int64.ofInt x / Int64.ofInt y = Int64.ofInt (x / y) := by
    rw [← Int64.toInt_inj, i64_of hd, Int64.toInt_div_of_ne_right, i64_of hx, i64_of hy, Int.tdiv_eq_ediv_of_nonneg h0]
    intro q
    have := congrArg Int64.toInt q
    rw [i64_of hy] at this
    have e : (-1 : Int64).toInt = -1 := by decide
    omega
  rw [hdv, ← Int64.ofInt_mul, ← Int64.ofInt_sub]
  congr 1
  have e := Int.mul_ediv_add_emod x y
  rw [Int.mul_comm] at e
  omega
theorem s_div (hd : decode cc (pcs.getD ip 0) = .ok (.idiv, 1)) (hn : pcs.getD (ip + 1) 0 = pcs.getD ip 0 + 1) : Snd own cc nL fr lo ret sx pcs ip I_div := by
  intro p l e R s m args below meth c Q nC nS g Ret hC hRm hSx hHR ls st M h H locs lsA hR hS hL hok
  obtain ⟨x, y, r, rfl, h0, h1, h⟩ := h
  have hy : InR y := ok_h hok
  have hx : InR x := ok_h (ok_t hok)
  have h' := h H locs lsA hR hS hL (ok_c (in_div hx h0 h1).1 (ok_t (ok_t hok)))
  rw [hn] at h'
  refine lv_idiv hC.1 hC.2.1 hd (fun q => ?_) ?_
  · rw [i32_eq0 hy] at q; omega
  · rw [i32_div hx hy h0 h1]; exact h'
theorem s_rem (hd : decode cc (pcs.getD ip 0) = .ok (.irem, 1)) (hn : pcs.getD (ip + 1) 0 = pcs.getD ip 0 + 1) : Snd own cc nL fr lo ret sx pcs ip I_rem := by
  intro p l e R s m args below meth c Q nC nS g Ret hC hRm hSx hHR ls st M h H locs lsA hR hS hL hok
  obtain ⟨x, y, r, rfl, h0, h1, h⟩ := h
  have hy : InR y := ok_h hok
  have hx : InR x := ok_h (ok_t hok)
  have h' := h H locs lsA hR hS hL (ok_c (in_div hx h0 h1).2 (ok_t (ok_t hok)))
  rw [hn] at h'
  refine lv_irem hC.1 hC.2.1 hd (fun q => ?_) ?_
  · rw [i32_eq0 hy] at q; omega
  · rw [i32_rem hx hy h0 h1]; exact h'
theorem s_lmul (hd : decode cc (pcs.getD ip 0) = .ok (.lmul, 1)) (hn : pcs.getD (ip + 1) 0 = pcs.getD ip 0 + 1) : Snd own cc nL fr lo ret sx pcs ip I_lmul := by
  intro p l e R s m args below meth c Q nC nS g Ret hC hRm hSx hHR ls st M h H locs lsA hR hS hL hok
  obtain ⟨x, y, r, rfl, h1, h⟩ := h
  have h' := h H locs lsA hR hS hL (ok_c h1 (ok_t (ok_t hok)))
  rw [hn] at h'
  refine lv_lmul hC.1 hC.2.1 hd ?_
  rw [← Int64.ofInt_mul]
  exact h'
theorem s_lrem (hd : decode cc (pcs.getD ip 0) = .ok (.lrem, 1)) (hn : pcs.getD (ip + 1) 0 = pcs.getD ip 0 + 1) : Snd own cc nL fr lo ret sx pcs ip I_lrem := by
  intro p l e R s m args below meth c Q nC nS g Ret hC hRm hSx hHR ls st M h H locs lsA hR hS hL hok
  obtain ⟨x, y, r, rfl, h0, h1, h⟩ := h
  have hy : InL y := ok_h hok
  have hx : InL x := ok_h (ok_t hok)
  have h' := h H locs lsA hR hS hL (ok_c (in_divL hx h0 h1) (ok_t (ok_t hok)))
  rw [hn] at h'
  refine lv_lrem hC.1 hC.2.1 hd (fun q => ?_) ?_
  · have : Int64.ofInt y = Int64.ofInt 0 := q
    rw [i64_eq hy ⟨by omega, by omega⟩] at this; omega
  · rw [i64_rem hx hy h0 h1]; exact h'
theorem s_i2l (hd : decode cc (pcs.getD ip 0) = .ok (.i2l, 1)) (hn : pcs.getD (ip + 1) 0 = pcs.getD ip 0 + 1) : Snd own cc nL fr lo ret sx pcs ip I_i2l := by
  intro p l e R s m args below meth c Q nC nS g Ret hC hRm hSx hHR ls st M h H locs lsA hR hS hL hok
  obtain ⟨x, r, rfl, h⟩ := h
  have hx : InR x := ok_h hok
  have h' := h H locs lsA hR hS hL (ok_c (show InL x from ⟨by have := hx.1; omega, by have := hx.2; omega⟩) (ok_t hok))
  rw [hn] at h'
  refine lv_i2l hC.1 hC.2.1 hd ?_ h'
  rw [← Int64.toInt_inj, Int32.toInt_toInt64, i32_of hx, i64_of ⟨by have := hx.1; omega, by have := hx.2; omega⟩]
theorem s_l2i (hd : decode cc (pcs.getD ip 0) = .ok (.l2i, 1)) (hn : pcs.getD (ip + 1) 0 = pcs.getD ip 0 + 1) : Snd own cc nL fr lo ret sx pcs ip I_l2i := by
  intro p l e R s m args below meth c Q nC nS g Ret hC hRm hSx hHR ls st M h H locs lsA hR hS hL hok
  obtain ⟨x, r, rfl, h1, h⟩ := h
  have h' := h H locs lsA hR hS hL (ok_c h1 (ok_t hok))
  rw [hn] at h'
  exact lv_l2i hC.1 hC.2.1 hd (by simp) h'
theorem s_lcmp (hd : decode cc (pcs.getD ip 0) = .ok (.lcmp, 1)) (hn : pcs.getD (ip + 1) 0 = pcs.getD ip 0 + 1) : Snd own cc nL fr lo ret sx pcs ip I_lcmp := by
  intro p l e R s m args below meth c Q nC nS g Ret hC hRm hSx hHR ls st M h H locs lsA hR hS hL hok
  obtain ⟨x, y, r, rfl, h⟩ := h
  have hy : InL y := ok_h hok
  have hx : InL x := ok_h (ok_t hok)
  have hc : InR (cmp3 x y) := by
    unfold cmp3; split
    · exact ⟨by omega, by omega⟩
    · split
      · exact ⟨by omega, by omega⟩
      · exact ⟨by omega, by omega⟩
  have h' := h H locs lsA hR hS hL (ok_c hc (ok_t (ok_t hok)))
  rw [hn] at h'
  refine W.lcmp hC.1 hC.2.1 hd ?_
  have e : lg_cmp (Int64.ofInt x) (Int64.ofInt y) = Int32.ofInt (cmp3 x y) := by
    unfold lg_cmp cmp3
    by_cases a : y < x
    · rw [if_pos a, if_pos ((i64_lt hy hx).mpr a)]; rfl
    · rw [if_neg a, if_neg (fun q => a ((i64_lt hy hx).mp q))]
      by_cases b : x = y
      · rw [if_pos b, if_pos ((i64_eq hx hy).mpr b)]; rfl
      · rw [if_neg b, if_neg (fun q => b ((i64_eq hx hy).mp q))]; rfl
  rw [e]
  exact h'
theorem i32_and31 {x : Int} (hx : InR x) : Int32.ofInt x &&& Int32.ofInt 31 = Int32.ofInt (x % 32) := by
  have e := pk_and (Int32.ofInt x) (m := Int32.ofInt 31) 5 (by decide)
  rw [e]
  have h2 : (Int32.ofInt x).toBitVec.toNat = (x % 4294967296).toNat := by
    show (BitVec.ofInt 32 x).toNat = _
    rw [BitVec.toNat_ofInt]; rfl
  have h3 : (Int32.ofInt x).toBitVec.toNat % 2 ^ 5 = (x % 32).toNat := by
    rw [h2]
    have : (2 : Nat) ^ 5 = 32 := rfl
    omega
  rw [h3, ← Int32.toInt_inj, i32_of ⟨by omega, by omega⟩, nI_toInt (by omega)]
  omega
theorem s_and31 (hd : decode cc (pcs.getD ip 0) = .ok (.iand, 1)) (hn : pcs.getD (ip + 1) 0 = pcs.getD ip 0 + 1) : Snd own cc nL fr lo ret sx pcs ip I_and31 := by
  intro p l e R s m args below meth c Q nC nS g Ret hC hRm hSx hHR ls st M h H locs lsA hR hS hL hok
  obtain ⟨x, r, rfl, h⟩ := h
  have hx : InR x := ok_h (ok_t hok)
  have h' := h H locs lsA hR hS hL (ok_c (show InR (x % 32) from ⟨by omega, by omega⟩) (ok_t (ok_t hok)))
  rw [hn] at h'
  refine lv_iand hC.1 hC.2.1 hd ?_
  rw [i32_and31 hx]
  exact h'
theorem s_dup (hd : decode cc (pcs.getD ip 0) = .ok (.dup, 1)) (hn : pcs.getD (ip + 1) 0 = pcs.getD ip 0 + 1) : Snd own cc nL fr lo ret sx pcs ip I_dup := by
  intro p l e R s m args below meth c Q nC nS g Ret hC hRm hSx hHR ls st M h H locs lsA hR hS hL hok
  obtain ⟨v, r, rfl, h1, h⟩ := h
  have h' := h H locs lsA hR hS hL (ok_c (ok_h hok) hok)
  rw [hn] at h'
  exact lv_dup hC.1 hC.2.1 hd (by rw [cat_toV]; exact h1) h'
theorem s_dup2 (hd : decode cc (pcs.getD ip 0) = .ok (.dup2, 1)) (hn : pcs.getD (ip + 1) 0 = pcs.getD ip 0 + 1) : Snd own cc nL fr lo ret sx pcs ip I_dup2 := by
  intro p l e R s m args below meth c Q nC nS g Ret hC hRm hSx hHR ls st M h H locs lsA hR hS hL hok
  obtain ⟨v, w, r, rfl, h1, h2, h⟩ := h
  have h' := h H locs lsA hR hS hL (ok_c (ok_h hok) (ok_c (ok_h (ok_t hok)) hok))
  rw [hn] at h'
  exact lv_dup2_11 hC.1 hC.2.1 hd (by rw [cat_toV]; exact h1) (by rw [cat_toV]; exact h2) h'
theorem s_pop (hd : decode cc (pcs.getD ip 0) = .ok (.pop, 1)) (hn : pcs.getD (ip + 1) 0 = pcs.getD ip 0 + 1) : Snd own cc nL fr lo ret sx pcs ip I_pop := by
  intro p l e R s m args below meth c Q nC nS g Ret hC hRm hSx hHR ls st M h H locs lsA hR hS hL hok
  obtain ⟨v, r, rfl, h1, h⟩ := h
  have h' := h H locs lsA hR hS hL (ok_t hok)
  rw [hn] at h'
  exact lv_pop hC.1 hC.2.1 hd (by rw [cat_toV]; exact h1) h'
theorem s_goto {t : Nat} {off : Int} (hd : decode cc (pcs.getD ip 0) = .ok (.goto off, 3)) (ht : (pcs.getD ip 0 : Int) + off = (pcs.getD t 0 : Int)) : Snd own cc nL fr lo ret sx pcs ip (I_goto t) := by
  intro p l e R s m args below meth c Q nC nS g Ret hC hRm hSx hHR ls st M h H locs lsA hR hS hL hok
  exact lv_goto hC.1 hC.2.1 hd ht (h H locs lsA hR hS hL hok)
theorem s_ifeq {t : Nat} {off : Int} (hd : decode cc (pcs.getD ip 0) = .ok (.ifCond .eq off, 3)) (hn : pcs.getD (ip + 1) 0 = pcs.getD ip 0 + 3) (ht : (pcs.getD ip 0 : Int) + off = (pcs.getD t 0 : Int)) : Snd own cc nL fr lo ret sx pcs ip (I_ifeq t) := by
  intro p l e R s m args below meth c Q nC nS g Ret hC hRm hSx hHR ls st M h H locs lsA hR hS hL hok
  obtain ⟨x, r, rfl, kt, kf⟩ := h
  have hx : InR x := ok_h hok
  have ht' := fun q => kt q H locs lsA hR hS hL (ok_t hok)
  have hf' := fun q => kf q H locs lsA hR hS hL (ok_t hok)
  rw [hn] at hf'
  exact lv_if_eq hC.1 hC.2.1 hd ht (fun q => ht' ((i32_eq0 hx).mp q)) (fun q => hf' (fun z => q ((i32_eq0 hx).mpr z)))
theorem s_ifne {t : Nat} {off : Int} (hd : decode cc (pcs.getD ip 0) = .ok (.ifCond .ne off, 3)) (hn : pcs.getD (ip + 1) 0 = pcs.getD ip 0 + 3) (ht : (pcs.getD ip 0 : Int) + off = (pcs.getD t 0 : Int)) : Snd own cc nL fr lo ret sx pcs ip (I_ifne t) := by
  intro p l e R s m args below meth c Q nC nS g Ret hC hRm hSx hHR ls st M h H locs lsA hR hS hL hok
  obtain ⟨x, r, rfl, kt, kf⟩ := h
  have hx : InR x := ok_h hok
  have ht' := fun q => kt q H locs lsA hR hS hL (ok_t hok)
  have hf' := fun q => kf q H locs lsA hR hS hL (ok_t hok)
  rw [hn] at hf'
  exact lv_if_ne hC.1 hC.2.1 hd ht (fun q => ht' (fun z => q ((i32_eq0 hx).mpr z))) (fun q => hf' ((i32_eq0 hx).mp q))
theorem s_iflt {t : Nat} {off : Int} (hd : decode cc (pcs.getD ip 0) = .ok (.ifCond .lt off, 3)) (hn : pcs.getD (ip + 1) 0 = pcs.getD ip 0 + 3) (ht : (pcs.getD ip 0 : Int) + off = (pcs.getD t 0 : Int)) : Snd own cc nL fr lo ret sx pcs ip (I_iflt t) := by
  intro p l e R s m args below meth c Q nC nS g Ret hC hRm hSx hHR ls st M h H locs lsA hR hS hL hok
  obtain ⟨x, r, rfl, kt, kf⟩ := h
  have hx : InR x := ok_h hok
  have ht' := fun q => kt q H locs lsA hR hS hL (ok_t hok)
  have hf' := fun q => kf q H locs lsA hR hS hL (ok_t hok)
  rw [hn] at hf'
  exact lv_if_lt hC.1 hC.2.1 hd ht (fun q => ht' ((i32_lt0 hx).mp q)) (fun q => hf' (Int.not_lt.mp fun z => q ((i32_lt0 hx).mpr z)))
theorem s_ifge {t : Nat} {off : Int} (hd : decode cc (pcs.getD ip 0) = .ok (.ifCond .ge off, 3)) (hn : pcs.getD (ip + 1) 0 = pcs.getD ip 0 + 3) (ht : (pcs.getD ip 0 : Int) + off = (pcs.getD t 0 : Int)) : Snd own cc nL fr lo ret sx pcs ip (I_ifge t) := by
  intro p l e R s m args below meth c Q nC nS g Ret hC hRm hSx hHR ls st M h H locs lsA hR hS hL hok
  obtain ⟨x, r, rfl, kt, kf⟩ := h
  have hx : InR x := ok_h hok
  have ht' := fun q => kt q H locs lsA hR hS hL (ok_t hok)
  have hf' := fun q => kf q H locs lsA hR hS hL (ok_t hok)
  rw [hn] at hf'
  exact lv_if_ge hC.1 hC.2.1 hd ht (fun q => ht' ((i32_ge0 hx).mp q)) (fun q => hf' (Int.not_le.mp fun z => q ((i32_ge0 hx).mpr z)))
theorem s_ifle {t : Nat} {off : Int} (hd : decode cc (pcs.getD ip 0) = .ok (.ifCond .le off, 3)) (hn : pcs.getD (ip + 1) 0 = pcs.getD ip 0 + 3) (ht : (pcs.getD ip 0 : Int) + off = (pcs.getD t 0 : Int)) : Snd own cc nL fr lo ret sx pcs ip (I_ifle t) := by
  intro p l e R s m args below meth c Q nC nS g Ret hC hRm hSx hHR ls st M h H locs lsA hR hS hL hok
  obtain ⟨x, r, rfl, kt, kf⟩ := h
  have hx : InR x := ok_h hok
  have ht' := fun q => kt q H locs lsA hR hS hL (ok_t hok)
  have hf' := fun q => kf q H locs lsA hR hS hL (ok_t hok)
  rw [hn] at hf'
  exact lv_if_le hC.1 hC.2.1 hd ht (fun q => ht' ((i32_le0 hx).mp q)) (fun q => hf' (Int.not_le.mp fun z => q ((i32_le0 hx).mpr z)))
theorem s_ifgt {t : Nat} {off : Int} (hd : decode cc (pcs.getD ip 0) = .ok (.ifCond .gt off, 3)) (hn : pcs.getD (ip + 1) 0 = pcs.getD ip 0 + 3) (ht : (pcs.getD ip 0 : Int) + off = (pcs.getD t 0 : Int)) : Snd own cc nL fr lo ret sx pcs ip (I_ifgt t) := by
  intro p l e R s m args below meth c Q nC nS g Ret hC hRm hSx hHR ls st M h H locs lsA hR hS hL hok
  obtain ⟨x, r, rfl, kt, kf⟩ := h
  have hx : InR x := ok_h hok
  have ht' := fun q => kt q H locs lsA hR hS hL (ok_t hok)
  have hf' := fun q => kf q H locs lsA hR hS hL (ok_t hok)
  rw [hn] at hf'
  exact lv_if_gt hC.1 hC.2.1 hd ht (fun q => ht' ((i32_gt0 hx).mp q)) (fun q => hf' (Int.not_lt.mp fun z => q ((i32_gt0 hx).mpr z)))
theorem s_ceq {t : Nat} {off : Int} (hd : decode cc (pcs.getD ip 0) = .ok (.if_icmp .eq off, 3)) (hn : pcs.getD (ip + 1) 0 = pcs.getD ip 0 + 3) (ht : (pcs.getD ip 0 : Int) + off = (pcs.getD t 0 : Int)) : Snd own cc nL fr lo ret sx pcs ip (I_ceq t) := by
  intro p l e R s m args below meth c Q nC nS g Ret hC hRm hSx hHR ls st M h H locs lsA hR hS hL hok
  obtain ⟨x, y, r, rfl, kt, kf⟩ := h
  have hy : InR y := ok_h hok
  have hx : InR x := ok_h (ok_t hok)
  have ht' := fun q => kt q H locs lsA hR hS hL (ok_t (ok_t hok))
  have hf' := fun q => kf q H locs lsA hR hS hL (ok_t (ok_t hok))
  rw [hn] at hf'
  exact lv_icmp_eq hC.1 hC.2.1 hd ht (fun q => ht' ((i32_eq hx hy).mp q)) (fun q => hf' (fun z => q ((i32_eq hx hy).mpr z)))
theorem s_cne {t : Nat} {off : Int} (hd : decode cc (pcs.getD ip 0) = .ok (.if_icmp .ne off, 3)) (hn : pcs.getD (ip + 1) 0 = pcs.getD ip 0 + 3) (ht : (pcs.getD ip 0 : Int) + off = (pcs.getD t 0 : Int)) : Snd own cc nL fr lo ret sx pcs ip (I_cne t) := by
  intro p l e R s m args below meth c Q nC nS g Ret hC hRm hSx hHR ls st M h H locs lsA hR hS hL hok
  obtain ⟨x, y, r, rfl, kt, kf⟩ := h
  have hy : InR y := ok_h hok
  have hx : InR x := ok_h (ok_t hok)
  have ht' := fun q => kt q H locs lsA hR hS hL (ok_t (ok_t hok))
  have hf' := fun q => kf q H locs lsA hR hS hL (ok_t (ok_t hok))
  rw [hn] at hf'
  exact lv_icmp_ne hC.1 hC.2.1 hd ht (fun q => ht' (fun z => q ((i32_eq hx hy).mpr z))) (fun q => hf' ((i32_eq hx hy).mp q))
theorem s_clt {t : Nat} {off : Int} (hd : decode cc (pcs.getD ip 0) = .ok (.if_icmp .lt off, 3)) (hn : pcs.getD (ip + 1) 0 = pcs.getD ip 0 + 3) (ht : (pcs.getD ip 0 : Int) + off = (pcs.getD t 0 : Int)) : Snd own cc nL fr lo ret sx pcs ip (I_clt t) := by
  intro p l e R s m args below meth c Q nC nS g Ret hC hRm hSx hHR ls st M h H locs lsA hR hS hL hok
  obtain ⟨x, y, r, rfl, kt, kf⟩ := h
  have hy : InR y := ok_h hok
  have hx : InR x := ok_h (ok_t hok)
  have ht' := fun q => kt q H locs lsA hR hS hL (ok_t (ok_t hok))
  have hf' := fun q => kf q H locs lsA hR hS hL (ok_t (ok_t hok))
  rw [hn] at hf'
  exact lv_icmp_lt hC.1 hC.2.1 hd ht (fun q => ht' ((i32_lt hx hy).mp q)) (fun q => hf' (Int.not_lt.mp fun z => q ((i32_lt hx hy).mpr z)))
theorem s_cge {t : Nat} {off : Int} (hd : decode cc (pcs.getD ip 0) = .ok (.if_icmp .ge off, 3)) (hn : pcs.getD (ip + 1) 0 = pcs.getD ip 0 + 3) (ht : (pcs.getD ip 0 : Int) + off = (pcs.getD t 0 : Int)) : Snd own cc nL fr lo ret sx pcs ip (I_cge t) := by
  intro p l e R s m args below meth c Q nC nS g Ret hC hRm hSx hHR ls st M h H locs lsA hR hS hL hok
  obtain ⟨x, y, r, rfl, kt, kf⟩ := h
  have hy : InR y := ok_h hok
  have hx : InR x := ok_h (ok_t hok)
  have ht' := fun q => kt q H locs lsA hR hS hL (ok_t (ok_t hok))
  have hf' := fun q => kf q H locs lsA hR hS hL (ok_t (ok_t hok))
  rw [hn] at hf'
  exact lv_icmp_ge hC.1 hC.2.1 hd ht (fun q => ht' ((i32_le hy hx).mp q)) (fun q => hf' (Int.not_le.mp fun z => q ((i32_le hy hx).mpr z)))
theorem s_cle {t : Nat} {off : Int} (hd : decode cc (pcs.getD ip 0) = .ok (.if_icmp .le off, 3)) (hn : pcs.getD (ip + 1) 0 = pcs.getD ip 0 + 3) (ht : (pcs.getD ip 0 : Int) + off = (pcs.getD t 0 : Int)) : Snd own cc nL fr lo ret sx pcs ip (I_cle t) := by
  intro p l e R s m args below meth c Q nC nS g Ret hC hRm hSx hHR ls st M h H locs lsA hR hS hL hok
  obtain ⟨x, y, r, rfl, kt, kf⟩ := h
  have hy : InR y := ok_h hok
  have hx : InR x := ok_h (ok_t hok)
  have ht' := fun q => kt q H locs lsA hR hS hL (ok_t (ok_t hok))
  have hf' := fun q => kf q H locs lsA hR hS hL (ok_t (ok_t hok))
  rw [hn] at hf'
  exact lv_icmp_le hC.1 hC.2.1 hd ht (fun q => ht' ((i32_le hx hy).mp q)) (fun q => hf' (Int.not_le.mp fun z => q ((i32_le hx hy).mpr z)))
theorem s_cgt {t : Nat} {off : Int} (hd : decode cc (pcs.getD ip 0) = .ok (.if_icmp .gt off, 3)) (hn : pcs.getD (ip + 1) 0 = pcs.getD ip 0 + 3) (ht : (pcs.getD ip 0 : Int) + off = (pcs.getD t 0 : Int)) : Snd own cc nL fr lo ret sx pcs ip (I_cgt t) := by
  intro p l e R s m args below meth c Q nC nS g Ret hC hRm hSx hHR ls st M h H locs lsA hR hS hL hok
  obtain ⟨x, y, r, rfl, kt, kf⟩ := h
  have hy : InR y := ok_h hok
  have hx : InR x := ok_h (ok_t hok)
  have ht' := fun q => kt q H locs lsA hR hS hL (ok_t (ok_t hok))
  have hf' := fun q => kf q H locs lsA hR hS hL (ok_t (ok_t hok))
  rw [hn] at hf'
  exact lv_icmp_gt hC.1 hC.2.1 hd ht (fun q => ht' ((i32_lt hy hx).mp q)) (fun q => hf' (Int.not_lt.mp fun z => q ((i32_lt hy hx).mpr z)))
theorem s_tsw {lo0 dfl hi0 : Int} {offs : Array Int} {len : Nat} {ts : List Nat} {d : Nat} (hd : decode cc (pcs.getD ip 0) = .ok (.tableswitch dfl lo0 hi0 offs, len)) (hh : hi0 = lo0 + ts.length - 1) (hts : offs.toList.map (fun off => (pcs.getD ip 0 : Int) + off) = ts.map (fun t => (pcs.getD t 0 : Int))) (ht : (pcs.getD ip 0 : Int) + dfl = (pcs.getD d 0 : Int)) : Snd own cc nL fr lo ret sx pcs ip (I_tsw lo0 ts d) := by
  intro p l e R s m args below meth c Q nC nS g Ret hC hRm hSx hHR ls st M h H locs lsA hR hS hL hok
  obtain ⟨x, r, rfl, kt, kf⟩ := h
  have hx : InR x := ok_h hok
  by_cases hb : x < lo0 ∨ lo0 + ts.length ≤ x
  · refine lv_tableOut hC.1 hC.2.1 hd ?_ ht (kf hb H locs lsA hR hS hL (ok_t hok))
    rw [i32_of hx]; omega
  · have hj : (x - lo0).toNat < ts.length := by omega
    have hlen : offs.toList.length = ts.length := by
      have := congrArg List.length hts
      simpa using this
    have e1 : ts[(x - lo0).toNat]? = some (ts[(x - lo0).toNat]) := List.getElem?_eq_getElem hj
    have e2 : offs.toList[(x - lo0).toNat]? = some (offs.toList[(x - lo0).toNat]'(by omega)) := List.getElem?_eq_getElem _
    have e3 := congrArg (fun l => l[(x - lo0).toNat]?) hts
    simp only [List.getElem?_map, e1, e2, Option.map_some, Option.some.injEq] at e3
    refine lv_tableIn hC.1 hC.2.1 hd (by rw [i32_of hx]; omega) (by rw [i32_of hx]; omega) (off := offs.toList[(x - lo0).toNat]'(by omega)) ?_ e3 (kt _ _ e1 (by omega) H locs lsA hR hS hL (ok_t hok))
    rw [i32_of hx, ← Array.getElem?_toList]
    exact e2
end SND2
end
section
/-! memory: fields and rows -/
theorem isL_obj {o k d : Nat} {q : Nat × List Nat} (h : shp[o]? = some (.inl q)) (hd : q.2[k]? = some d) : isL o k = (d == 2) := by
  unfold isL
  rw [h]
  simp only [hd]
  rfl
theorem isL_arr {o k : Nat} {x : (Nat × Nat) ⊕ List Nat} (h : shp[o]? = some (.inr x)) : isL o k = false := by
  unfold isL
  rw [h]
theorem obj_set {ad : Nat → Nat} {ds : List Nat} {a a' : Nat → Int32} {b b' : Nat → Int64} {k d : Nat} {v : Value} (hd : ds[k]? = some d) (hv : slotV ad d (a' k) (b' k) = v) (h1 : ∀ i, i ≠ k → a' i = a i) (h2 : ∀ i, i ≠ k → b' i = b i) :
    (ds.mapIdx fun i d => slotV ad d (a i) (b i)).set k v = ds.mapIdx fun i d => slotV ad d (a' i) (b' i) := by
  apply List.ext_getElem?
  intro j
  by_cases hj : j = k
  · subst hj
    rw [List.getElem?_set_self (by rw [List.length_mapIdx]; exact (List.getElem?_eq_some_iff.mp hd).1), List.getElem?_mapIdx, hd, ← hv]
    rfl
  · rw [List.getElem?_set_ne (Ne.symm hj)]
    simp only [List.getElem?_mapIdx]
    rw [h1 j hj, h2 j hj]
def v32 (m : Nat → Nat → Int32) (o k : Nat) (x : Int32) : Nat → Nat → Int32 := fun j => if j = o then (fun i => if i = k then x else m o i) else m j
def v64 (m : Nat → Nat → Int64) (o k : Nat) (x : Int64) : Nat → Nat → Int64 := fun j => if j = o then (fun i => if i = k then x else m o i) else m j
theorem u32_row (m : Nat → Nat → Int32) (o k : Nat) (x : Int32) : v32 m o k x o = upd (m o) k x := by
  funext i; simp [v32, upd]
theorem u32_ne (m : Nat → Nat → Int32) {o j : Nat} (k : Nat) (x : Int32) (h : j ≠ o) : v32 m o k x j = m j := by simp [v32, h]
theorem u64_ne (m : Nat → Nat → Int64) {o j : Nat} (k : Nat) (x : Int64) (h : j ≠ o) : v64 m o k x j = m j := by simp [v64, h]
theorem mup_at (M : Mem) (o k : Nat) (z : Int) (j i : Nat) : mup M o k z j i = if j = o ∧ i = k then z else M j i := by
  unfold mup srow rup
  by_cases hj : j = o
  · subst hj
    by_cases hi : i = k
    · simp [hi]
    · simp [hi]
  · simp [hj]
theorem v32_at (m : Nat → Nat → Int32) (o k : Nat) (x : Int32) (j i : Nat) : v32 m o k x j i = if j = o ∧ i = k then x else m j i := by
  unfold v32
  by_cases hj : j = o
  · subst hj
    by_cases hi : i = k
    · simp [hi]
    · simp [hi]
  · simp [hj]
theorem v64_at (m : Nat → Nat → Int64) (o k : Nat) (x : Int64) (j i : Nat) : v64 m o k x j i = if j = o ∧ i = k then x else m j i := by
  unfold v64
  by_cases hj : j = o
  · subst hj
    by_cases hi : i = k
    · simp [hi]
    · simp [hi]
  · simp [hj]
theorem MR.u32 {m32 : Nat → Nat → Int32} {m64 : Nat → Nat → Int64} {M : Mem} (h : MR m32 m64 M) {o k : Nat} {z : Int} (hz : InR z) (hl : isL o k = false) : MR (v32 m32 o k (Int32.ofInt z)) m64 (mup M o k z) := by
  intro j i
  rw [mup_at, v32_at]
  by_cases hc : j = o ∧ i = k
  · rw [if_pos hc, if_pos hc, hc.1, hc.2, hl, i32_of hz]; rfl
  · rw [if_neg hc, if_neg hc]; exact h j i
theorem MR.u64 {m32 : Nat → Nat → Int32} {m64 : Nat → Nat → Int64} {M : Mem} (h : MR m32 m64 M) {o k : Nat} {z : Int} (hz : InL z) (hl : isL o k = true) : MR m32 (v64 m64 o k (Int64.ofInt z)) (mup M o k z) := by
  intro j i
  rw [mup_at, v64_at]
  by_cases hc : j = o ∧ i = k
  · rw [if_pos hc, if_pos hc, hc.1, hc.2, hl, i64_of hz]; rfl
  · rw [if_neg hc, if_neg hc]; exact h j i
theorem i32_ofNat {n : Nat} (h : n < 2147483648) : Int32.ofNat n = Int32.ofInt (n : Int) := by
  rw [← Int32.toInt_inj, i32_of ⟨by omega, by omega⟩]
  exact nI_toInt (by omega)
section SND3
variable {own : String} {cc : ByteArray} {nL fr lo : Nat} {ret : Option FieldType} {sx : Option (Nat × (Nat → Int))} {pcs : List Nat} {ip : Nat}
theorem s_get {ci k index N : Nat} {C : String} {T : u_T} (hc : vwCl[ci]? = some (C, T, N)) (hin : ∀ w ∈ u_ws C T N, w ∈ TB) (hk : k < N) (hw : Cond.fieldLink own index (T k).1 (T k).2.1 (T k).2.2.1 ∈ TB)
    (hd : decode cc (pcs.getD ip 0) = .ok (.getfield index, 3)) (hn : pcs.getD (ip + 1) 0 = pcs.getD ip 0 + 3) : Snd own cc nL fr lo ret sx pcs ip (I_get ci k) := by
  intro p l e R s m args below meth c Q nC nS g Ret hC hRm hSx hHR ls st M h H locs lsA hR hS hL hok
  obtain ⟨o, r, q, d, rfl, hsh, hq, hqd, h⟩ := h
  obtain ⟨hx, hb, -, hown, hts, hKn, hA⟩ := hC
  subst hq
  obtain ⟨m32, m64, hM, hP⟩ := id hR
  have hmok := hR.mok
  have hv : (q.2.mapIdx fun i d => slotV g.2.1 d (m32 o i) (m64 o i))[k]? = some (slotV g.2.1 d (m32 o k) (m64 o k)) := by
    rw [List.getElem?_mapIdx, hqd]; rfl
  have hl := isL_obj hsh hqd
  refine va_get (ref := (T k).1) hx hb hts hin hown hKn.1 hP o (wsOf_get g m32 m64 hsh) hc k hk (hts _ hw) (fun _ h => h) hv hd ?_
  match d, hl, h with
  | 0, hl, h =>
    have h' := h H locs lsA hR hS hL (ok_c (hmok o k hl) (ok_t hok))
    rw [hn] at h'
    show W p l e R s m args below meth c H locs nC nS Q (F0 m _ lsA (Value.int (m32 o k) :: _))
    rw [← hM.i hl]
    exact h'
  | 1, hl, h =>
    have h' := h H locs lsA hR hS hL (ok_c (hmok o k hl) (ok_t hok))
    rw [hn] at h'
    show W p l e R s m args below meth c H locs nC nS Q (F0 m _ lsA (Value.int (m32 o k) :: _))
    rw [← hM.i hl]
    exact h'
  | 2, hl, h =>
    have hI : InL (M o k) := by rw [hM o k, hl]; exact i64_in _
    have h' := h H locs lsA hR hS hL (ok_c hI (ok_t hok))
    rw [hn] at h'
    show W p l e R s m args below meth c H locs nC nS Q (F0 m _ lsA (Value.long (m64 o k) :: _))
    rw [← hM.l hl]
    exact h'
  | n + 3, hl, h =>
    have h' := h H locs lsA hR hS hL (ok_c (v := mr n) trivial (ok_t hok))
    rw [hn] at h'
    exact h'
theorem s_puti {ci k index N : Nat} {C : String} {T : u_T} {tyf : Nat → FieldType} (hc : vwCl[ci]? = some (C, T, N)) (hin : ∀ w ∈ u_ws C T N, w ∈ TB) (hty : ∀ k, k < N → parseFieldDescriptor (T k).2.2.1 = some (tyf k)) (hnm : ∀ a, a < N → ∀ b, b < N → a ≠ b → (T a).2.1 ≠ (T b).2.1) (hk : k < N) (hfin : (T k).2.2.2 = false) (htk : tyf k = .int) (hw : Cond.fieldLink own index (T k).1 (T k).2.1 (T k).2.2.1 ∈ TB)
    (hd : decode cc (pcs.getD ip 0) = .ok (.putfield index, 3)) (hn : pcs.getD (ip + 1) 0 = pcs.getD ip 0 + 3) : Snd own cc nL fr lo ret sx pcs ip (I_puti ci k) := by
  intro p l e R s m args below meth c Q nC nS g Ret hC hRm hSx hHR ls st M h H locs lsA hR hS hL hok
  obtain ⟨o, r, q, z, rfl, hsh, hq, hqd, h⟩ := h
  obtain ⟨hx, hb, -, hown, hts, hKn, hA⟩ := hC
  subst hq
  obtain ⟨m32, m64, hM, hP⟩ := id hR
  have hz : InR z := ok_h hok
  have hl := isL_obj hsh hqd
  refine va_put (ref := (T k).1) (ty := .int) hx hb hts hin tyf hty hnm hown hKn.1 hP (wsOf_D hA m32 m64) hS o (wsOf_get g m32 m64 hsh) hc k hk (hts _ hw) (fun _ h => h) hfin (by rw [hty k hk, htk]) rfl rfl (by rw [List.length_mapIdx]; exact (List.getElem?_eq_some_iff.mp hqd).1) hd fun H1 locs1 hP1 _ hS1 => ?_
  rw [obj_set (a' := v32 m32 o k (Int32.ofInt z) o) (b' := m64 o) hqd (by simp [slotV, v32]; rfl) (fun i hi => by simp [v32, hi]) (fun _ _ => rfl)] at hP1
  have e := wsOf_set g (m32 := m32) (n32 := v32 m32 o k (Int32.ofInt z)) (m64 := m64) (n64 := m64) hsh (fun j hj => u32_ne _ _ _ hj) (fun _ _ => rfl)
  have hP2 : va_P g.1 vwCl ((wsOf g m32 m64).set o (g.2.1 o, ent g (v32 m32 o k (Int32.ofInt z)) m64 o (.inl q))) H1 := hP1
  rw [e] at hP2
  have h' := h H1 locs1 lsA ⟨_, _, hM.u32 hz hl, hP2⟩ hS1 hL (ok_t (ok_t hok))
  rw [hn] at h'
  exact h'
theorem bool_nar {z : Int} (h : z = 0 ∨ z = 1) : narrow .boolean (.int (Int32.ofInt z)) = .int (Int32.ofInt z) ∧ fits .boolean (.int (Int32.ofInt z)) = true ∧ vp_nar .boolean (Int32.ofInt z) = Int32.ofInt z := by
  rcases h with rfl | rfl
  · exact ⟨rfl, rfl, rfl⟩
  · exact ⟨rfl, rfl, rfl⟩
theorem s_putz {ci k index N : Nat} {C : String} {T : u_T} {tyf : Nat → FieldType} (hc : vwCl[ci]? = some (C, T, N)) (hin : ∀ w ∈ u_ws C T N, w ∈ TB) (hty : ∀ k, k < N → parseFieldDescriptor (T k).2.2.1 = some (tyf k)) (hnm : ∀ a, a < N → ∀ b, b < N → a ≠ b → (T a).2.1 ≠ (T b).2.1) (hk : k < N) (hfin : (T k).2.2.2 = false) (htk : tyf k = .boolean) (hw : Cond.fieldLink own index (T k).1 (T k).2.1 (T k).2.2.1 ∈ TB)
    (hd : decode cc (pcs.getD ip 0) = .ok (.putfield index, 3)) (hn : pcs.getD (ip + 1) 0 = pcs.getD ip 0 + 3) : Snd own cc nL fr lo ret sx pcs ip (I_putz ci k) := by
  intro p l e R s m args below meth c Q nC nS g Ret hC hRm hSx hHR ls st M h H locs lsA hR hS hL hok
  obtain ⟨o, r, q, z, rfl, hsh, hq, hqd, hz01, h⟩ := h
  obtain ⟨hx, hb, -, hown, hts, hKn, hA⟩ := hC
  subst hq
  obtain ⟨m32, m64, hM, hP⟩ := id hR
  have hz : InR z := ok_h hok
  have hl := isL_obj hsh hqd
  have hbn := bool_nar hz01
  refine va_put (ref := (T k).1) (ty := .boolean) hx hb hts hin tyf hty hnm hown hKn.1 hP (wsOf_D hA m32 m64) hS o (wsOf_get g m32 m64 hsh) hc k hk (hts _ hw) (fun _ h => h) hfin (by rw [hty k hk, htk]) hbn.1 hbn.2.1 (by rw [List.length_mapIdx]; exact (List.getElem?_eq_some_iff.mp hqd).1) hd fun H1 locs1 hP1 _ hS1 => ?_
  rw [obj_set (a' := v32 m32 o k (Int32.ofInt z) o) (b' := m64 o) hqd (by simp [slotV, v32]; rfl) (fun i hi => by simp [v32, hi]) (fun _ _ => rfl)] at hP1
  have e := wsOf_set g (m32 := m32) (n32 := v32 m32 o k (Int32.ofInt z)) (m64 := m64) (n64 := m64) hsh (fun j hj => u32_ne _ _ _ hj) (fun _ _ => rfl)
  have hP2 : va_P g.1 vwCl ((wsOf g m32 m64).set o (g.2.1 o, ent g (v32 m32 o k (Int32.ofInt z)) m64 o (.inl q))) H1 := hP1
  rw [e] at hP2
  have h' := h H1 locs1 lsA ⟨_, _, hM.u32 hz hl, hP2⟩ hS1 hL (ok_t (ok_t hok))
  rw [hn] at h'
  exact h'
theorem s_putl {ci k index N : Nat} {C : String} {T : u_T} {tyf : Nat → FieldType} (hc : vwCl[ci]? = some (C, T, N)) (hin : ∀ w ∈ u_ws C T N, w ∈ TB) (hty : ∀ k, k < N → parseFieldDescriptor (T k).2.2.1 = some (tyf k)) (hnm : ∀ a, a < N → ∀ b, b < N → a ≠ b → (T a).2.1 ≠ (T b).2.1) (hk : k < N) (hfin : (T k).2.2.2 = false) (htk : tyf k = .long) (hw : Cond.fieldLink own index (T k).1 (T k).2.1 (T k).2.2.1 ∈ TB)
    (hd : decode cc (pcs.getD ip 0) = .ok (.putfield index, 3)) (hn : pcs.getD (ip + 1) 0 = pcs.getD ip 0 + 3) : Snd own cc nL fr lo ret sx pcs ip (I_putl ci k) := by
  intro p l e R s m args below meth c Q nC nS g Ret hC hRm hSx hHR ls st M h H locs lsA hR hS hL hok
  obtain ⟨o, r, q, z, rfl, hsh, hq, hqd, h⟩ := h
  obtain ⟨hx, hb, -, hown, hts, hKn, hA⟩ := hC
  subst hq
  obtain ⟨m32, m64, hM, hP⟩ := id hR
  have hz : InL z := ok_h hok
  have hl := isL_obj hsh hqd
  refine va_put (ref := (T k).1) (ty := .long) hx hb hts hin tyf hty hnm hown hKn.1 hP (wsOf_D hA m32 m64) hS o (wsOf_get g m32 m64 hsh) hc k hk (hts _ hw) (fun _ h => h) hfin (by rw [hty k hk, htk]) rfl rfl (by rw [List.length_mapIdx]; exact (List.getElem?_eq_some_iff.mp hqd).1) hd fun H1 locs1 hP1 _ hS1 => ?_
  rw [obj_set (a' := m32 o) (b' := v64 m64 o k (Int64.ofInt z) o) hqd (by simp [slotV, v64]; rfl) (fun _ _ => rfl) (fun i hi => by simp [v64, hi])] at hP1
  have e := wsOf_set g (m32 := m32) (n32 := m32) (m64 := m64) (n64 := v64 m64 o k (Int64.ofInt z)) hsh (fun _ _ => rfl) (fun j hj => u64_ne _ _ _ hj)
  have hP2 : va_P g.1 vwCl ((wsOf g m32 m64).set o (g.2.1 o, ent g m32 (v64 m64 o k (Int64.ofInt z)) o (.inl q))) H1 := hP1
  rw [e] at hP2
  have h' := h H1 locs1 lsA ⟨_, _, hM.u64 hz hl, hP2⟩ hS1 hL (ok_t (ok_t hok))
  rw [hn] at h'
  exact h'
theorem s_iald (hd : decode cc (pcs.getD ip 0) = .ok (.iaload, 1)) (hn : pcs.getD (ip + 1) 0 = pcs.getD ip 0 + 1) : Snd own cc nL fr lo ret sx pcs ip I_iald := by
  intro p l e R s m args below meth c Q nC nS g Ret hC hRm hSx hHR ls st M h H locs lsA hR hS hL hok
  obtain ⟨i, o, r, n, rfl, hsh, h0, h1, h⟩ := h
  obtain ⟨hx, hb, -, hown, hts, hKn, hA⟩ := hC
  obtain ⟨m32, m64, hM, hP⟩ := id hR
  have hl := isL_arr (k := i.toNat) hsh
  have hi : InR i := ok_h hok
  have h' := h H locs lsA hR hS hL (ok_c (hR.mok o i.toNat hl) (ok_t (ok_t hok)))
  rw [hn] at h'
  refine va_iald hx hb hKn.1 hP o 0 (wsOf_get g m32 m64 hsh) rfl (i32_vpin hi h0 h1) hd ?_
  rw [i32_nat hi, ← hM.i hl]
  exact h'
theorem s_zald (hd : decode cc (pcs.getD ip 0) = .ok (.baload, 1)) (hn : pcs.getD (ip + 1) 0 = pcs.getD ip 0 + 1) : Snd own cc nL fr lo ret sx pcs ip I_zald := by
  intro p l e R s m args below meth c Q nC nS g Ret hC hRm hSx hHR ls st M h H locs lsA hR hS hL hok
  obtain ⟨i, o, r, n, rfl, hsh, h0, h1, h⟩ := h
  obtain ⟨hx, hb, -, hown, hts, hKn, hA⟩ := hC
  obtain ⟨m32, m64, hM, hP⟩ := id hR
  have hl := isL_arr (k := i.toNat) hsh
  have hi : InR i := ok_h hok
  have h' := h H locs lsA hR hS hL (ok_c (hR.mok o i.toNat hl) (ok_t (ok_t hok)))
  rw [hn] at h'
  refine va_zald hx hb hKn.1 hP o 1 (wsOf_get g m32 m64 hsh) rfl (i32_vpin hi h0 h1) hd ?_
  rw [i32_nat hi, ← hM.i hl]
  exact h'
theorem s_iast (hd : decode cc (pcs.getD ip 0) = .ok (.iastore, 1)) (hn : pcs.getD (ip + 1) 0 = pcs.getD ip 0 + 1) : Snd own cc nL fr lo ret sx pcs ip I_iast := by
  intro p l e R s m args below meth c Q nC nS g Ret hC hRm hSx hHR ls st M h H locs lsA hR hS hL hok
  obtain ⟨z, i, o, r, n, rfl, hsh, h0, h1, h⟩ := h
  obtain ⟨hx, hb, -, hown, hts, hKn, hA⟩ := hC
  obtain ⟨m32, m64, hM, hP⟩ := id hR
  have hl := isL_arr (k := i.toNat) hsh
  have hz : InR z := ok_h hok
  have hi : InR i := ok_h (ok_t hok)
  refine va_iast hx hb hKn.1 hP (wsOf_D hA m32 m64) hS o 0 (wsOf_get g m32 m64 hsh) rfl (i32_vpin hi h0 h1) hd fun H1 locs1 hP1 _ hS1 => ?_
  rw [i32_nat hi, ← u32_row] at hP1
  have e := wsOf_set g (m32 := m32) (n32 := v32 m32 o i.toNat (Int32.ofInt z)) (m64 := m64) (n64 := m64) hsh (fun j hj => u32_ne _ _ _ hj) (fun _ _ => rfl)
  have hP2 : va_P g.1 vwCl ((wsOf g m32 m64).set o (g.2.1 o, ent g (v32 m32 o i.toNat (Int32.ofInt z)) m64 o (.inr (.inl (0, n))))) H1 := hP1
  rw [e] at hP2
  have h' := h H1 locs1 lsA ⟨_, _, hM.u32 hz hl, hP2⟩ hS1 hL (ok_t (ok_t (ok_t hok)))
  rw [hn] at h'
  exact h'
theorem s_zast (hd : decode cc (pcs.getD ip 0) = .ok (.bastore, 1)) (hn : pcs.getD (ip + 1) 0 = pcs.getD ip 0 + 1) : Snd own cc nL fr lo ret sx pcs ip I_zast := by
  intro p l e R s m args below meth c Q nC nS g Ret hC hRm hSx hHR ls st M h H locs lsA hR hS hL hok
  obtain ⟨z, i, o, r, n, rfl, hsh, h0, h1, hz01, h⟩ := h
  obtain ⟨hx, hb, -, hown, hts, hKn, hA⟩ := hC
  obtain ⟨m32, m64, hM, hP⟩ := id hR
  have hl := isL_arr (k := i.toNat) hsh
  have hz : InR z := ok_h hok
  have hi : InR i := ok_h (ok_t hok)
  refine va_zast hx hb hKn.1 hP (wsOf_D hA m32 m64) hS o 1 (wsOf_get g m32 m64 hsh) rfl (i32_vpin hi h0 h1) hd fun H1 locs1 hP1 _ hS1 => ?_
  rw [i32_nat hi, (bool_nar hz01).2.2, ← u32_row] at hP1
  have e := wsOf_set g (m32 := m32) (n32 := v32 m32 o i.toNat (Int32.ofInt z)) (m64 := m64) (n64 := m64) hsh (fun j hj => u32_ne _ _ _ hj) (fun _ _ => rfl)
  have hP2 : va_P g.1 vwCl ((wsOf g m32 m64).set o (g.2.1 o, ent g (v32 m32 o i.toNat (Int32.ofInt z)) m64 o (.inr (.inl (1, n))))) H1 := hP1
  rw [e] at hP2
  have h' := h H1 locs1 lsA ⟨_, _, hM.u32 hz hl, hP2⟩ hS1 hL (ok_t (ok_t (ok_t hok)))
  rw [hn] at h'
  exact h'
theorem s_aald (hd : decode cc (pcs.getD ip 0) = .ok (.aaload, 1)) (hn : pcs.getD (ip + 1) 0 = pcs.getD ip 0 + 1) : Snd own cc nL fr lo ret sx pcs ip I_aald := by
  intro p l e R s m args below meth c Q nC nS g Ret hC hRm hSx hHR ls st M h H locs lsA hR hS hL hok
  obtain ⟨i, o, r, rs, rfl, hsh, h0, h1, h⟩ := h
  obtain ⟨hx, hb, -, hown, hts, hKn, hA⟩ := hC
  obtain ⟨m32, m64, hM, hP⟩ := id hR
  have hi : InR i := ok_h hok
  have hj : i.toNat < rs.length := by omega
  have e1 : rs[i.toNat]? = some rs[i.toNat] := List.getElem?_eq_getElem hj
  have h' := h i.toNat _ e1 (by omega) H locs lsA hR hS hL (ok_c (v := mr _) trivial (ok_t (ok_t hok)))
  rw [hn] at h'
  refine va_aldq (C := RX0) hx hb hKn.1 hP o 2 (wsOf_get g m32 m64 hsh) rfl (i32_vpin hi h0 h1) hd ?_
  rw [i32_nat hi, e1]
  exact h'
theorem s_alen (hd : decode cc (pcs.getD ip 0) = .ok (.arraylength, 1)) (hn : pcs.getD (ip + 1) 0 = pcs.getD ip 0 + 1) : Snd own cc nL fr lo ret sx pcs ip I_alen := by
  intro p l e R s m args below meth c Q nC nS g Ret hC hRm hSx hHR ls st M h H locs lsA hR hS hL hok
  obtain ⟨o, r, n, rfl, hsh, h0, h⟩ := h
  obtain ⟨hx, hb, -, hown, hts, hKn, hA⟩ := hC
  obtain ⟨m32, m64, hM, hP⟩ := id hR
  have h' := h H locs lsA hR hS hL (ok_c (show InR (n : Int) from ⟨by omega, by omega⟩) (ok_t hok))
  rw [hn] at h'
  exact va_alen hx hb hKn.1 hP o 0 (wsOf_get g m32 m64 hsh) rfl (v := Int32.ofInt (n : Int)) (i32_ofNat h0) hd h'
theorem s_siald {L : Nat} {xs : Nat → Int} (hs : sx = some (L, xs)) (hd : decode cc (pcs.getD ip 0) = .ok (.iaload, 1)) (hn : pcs.getD (ip + 1) 0 = pcs.getD ip 0 + 1) : Snd own cc nL fr lo ret sx pcs ip (I_siald L xs) := by
  intro p l e R s m args below meth c Q nC nS g Ret hC hRm hSx hHR ls st M h H locs lsA hR hS hL hok
  obtain ⟨i, r, rfl, h0, h1, h⟩ := h
  obtain ⟨hx, hb, -, hown, hts, hKn, hA⟩ := hC
  obtain ⟨x32, hX, hxs, hlt, hnA⟩ := hSx L xs hs
  have hi : InR i := ok_h hok
  have h' := h H locs lsA hR hS hL (ok_c (show InR (xs i.toNat) by rw [← hxs]; exact i32_in _) (ok_t (ok_t hok)))
  rw [hn] at h'
  refine va_sld hx hb hX hlt hnA hS (i32_vpin hi h0 h1) hd ?_
  rw [i32_nat hi]
  have e : x32 i.toNat = Int32.ofInt (xs i.toNat) := by rw [← hxs]; simp
  rw [e]
  exact h'
theorem s_slen {L : Nat} {xs : Nat → Int} (hs : sx = some (L, xs)) (hd : decode cc (pcs.getD ip 0) = .ok (.arraylength, 1)) (hn : pcs.getD (ip + 1) 0 = pcs.getD ip 0 + 1) : Snd own cc nL fr lo ret sx pcs ip (I_slen L) := by
  intro p l e R s m args below meth c Q nC nS g Ret hC hRm hSx hHR ls st M h H locs lsA hR hS hL hok
  obtain ⟨r, rfl, h0, h⟩ := h
  obtain ⟨hx, hb, -, hown, hts, hKn, hA⟩ := hC
  obtain ⟨x32, hX, hxs, hlt, hnA⟩ := hSx L xs hs
  have h' := h H locs lsA hR hS hL (ok_c (show InR (L : Int) from ⟨by omega, by omega⟩) (ok_t hok))
  rw [hn] at h'
  refine va_slen hx hb hX hlt hnA hS hd ?_
  have e : Int32.ofNat L = Int32.ofInt (L : Int) := i32_ofNat h0
  rw [e]
  exact h'
end SND3
end
section
/-! calls, copies, ends; a method's contract -/
theorem catS_toV (ad : Nat → Nat) (st : List MV) : ((st.map (toV ad)).map fun v => v.category).sum = catS st := by
  unfold catS
  rw [List.map_map]
  congr 1
  apply List.map_congr_left
  intro v _
  exact cat_toV ad v
theorem i32_cpy {f g : Nat → Int32} {a b : Nat → Int} (h1 : ∀ i, a i = (f i).toInt) (h2 : ∀ i, b i = (g i).toInt) (sp dp n i : Nat) : cpyR a b sp dp n i = (va_cpy f g sp dp n i).toInt := by
  unfold cpyR va_cpy
  split
  · exact h1 _
  · exact h2 _
def PcM (g : WG) (av : List MV) (M : Mem) : Array Value → State → Prop := va_Pc (av.map (toV g.2.1)) (fun U => Rp g M U.heap ∧ Kn g U)
def okR (r : Option MV) : Prop := ∀ v, r = some v → okV v
def QcM (g : WG) (Ret : KR) : Array Value → State → Outcome → State → Prop := fun _ st oc t => (∃ (r : Option MV) (M' : Mem), oc = .returned (r.map (toV g.2.1)) ∧ Ret r M' ∧ okR r ∧ Rp g M' t.heap) ∧ va_F g.2.2.2 st t
def rmZ (fr lo : Nat) : Room := { frames := fr, cells := 0, slots := 0, locals := lo }
/-- a method's contract: from every memory and arguments with sp it ends as sp says -/
def Ctr (y : MethodName) (cc : ByteArray) (nL : Nat) (ret : Option FieldType) (fr lo : Nat) (sp : SP) : Prop :=
  ∀ (l : Launch) (g : WG) (av : List MV) (M : Mem) (Ret : KR), sp av M Ret → (∀ v ∈ av, okV v) → adOk g → Met l y (.code y cc nL ret :: TB) (rmZ fr lo) (PcM g av M) (QcM g Ret) 0 0 g.2.2.2
theorem PcM_blind (g : WG) (av : List MV) (M : Mem) : FrameBlind (PcM g av M) := fun _ _ _ _ h => ⟨h.1, h.2.1, h.2.2.call⟩
section WCALL
variable {p : Program} {l : Launch} {e : Env} {R : Room} {s : State} {m : MethodId} {args : Array Value} {below : List Frame} {meth : Method} {c : Code} {H : Heap} {locs : List Loc} {cells slots : Nat} {Q : State → Prop}
theorem w_callR {pc : Nat} {ls : Array Slot} {rest st0 : List Value} {Qa : State → Outcome → State → Prop} {free : Addr → Prop} (hr : va_Run p l e R s m args below meth c H locs cells slots 0 0 (F0 m pc ls st0) rest Qa free)
    (kk : ∀ (v : Option Value) (st₀ t : State) (L : List Loc), st₀.heap = H → Qa st₀ (.returned v) t → (∀ q ∈ L, free q.base) → W p l e R s m args below meth c t.heap (locs ++ L) cells slots Q (F0 m (pc + 3) ls (v.toList ++ rest))) : W p l e R s m args below meth c H locs cells slots Q (F0 m pc ls st0) := by
  intro T hT X
  obtain ⟨v, st₀, t, T', L, h0, X', hL, e1, e2, hq, st⟩ := hr T hT X
  obtain ⟨t2, a1, b1⟩ := kk v st₀ t L h0 hq hL T' e1 X'
  exact ⟨t2, st t2 a1, b1⟩
end WCALL
section SND4
variable {own : String} {cc : ByteArray} {nL fr lo : Nat} {ret : Option FieldType} {sx : Option (Nat × (Nat → Int))} {pcs : List Nat} {ip : Nat}
theorem s_min {index : Nat} (hw : Cond.methodLink own index Lib.Math.min.name ∈ TB) (hw2 : Cond.static Lib.Math.min.name ∈ TB) (hw3 : Cond.initialized "java/lang/Math" ∈ TB) (hw4 : Cond.code Lib.Math.min.name Lib.Math.min.code 2 (some .int) ∈ TB) (hfr : 1 ≤ fr) (hlo : 21 ≤ lo)
    (hd : decode cc (pcs.getD ip 0) = .ok (.invokestatic index, 3)) (hn : pcs.getD (ip + 1) 0 = pcs.getD ip 0 + 3) : Snd own cc nL fr lo ret sx pcs ip I_min := by
  intro p l e R s m args below meth c Q nC nS g Ret hC hRm hSx hHR ls st M h H locs lsA hR hS hL hok
  obtain ⟨x, y, r, rfl, hcat, h⟩ := h
  obtain ⟨hx, hb, hml, hown, hts, hKn, hA⟩ := hC
  have hy' : InR y := ok_h hok
  have hx' : InR x := ok_h (ok_t hok)
  have hv : InR (if y < x then y else x) := by split <;> assumption
  have h' := h H locs lsA hR hS hL (ok_c hv (ok_t (ok_t hok)))
  rw [hn] at h'
  refine va_mmin hx hb (by rw [hml, hL.1]) hown (hts _ hw) (hts _ hw2) (hts _ hw3) (hts _ hw4) (Nat.le_trans hfr hRm.1) ?_ hRm.2.2.1 hRm.2.2.2 hd ?_
  · have := catS_toV g.2.1 r
    have h2 := hRm.2.1
    show ((r.map (toV g.2.1)).map fun v => v.category).sum + 13 ≤ _
    omega
  · have e : (if Int32.ofInt y < Int32.ofInt x then Int32.ofInt y else Int32.ofInt x) = Int32.ofInt (if y < x then y else x) := by
      by_cases q : y < x
      · rw [if_pos q, if_pos ((i32_lt hy' hx').mpr q)]
      · rw [if_neg q, if_neg (fun z => q ((i32_lt hy' hx').mp z))]
    rw [e]
    exact h'
theorem s_max {index : Nat} (hw : Cond.methodLink own index Lib.Math.max.name ∈ TB) (hw2 : Cond.static Lib.Math.max.name ∈ TB) (hw3 : Cond.initialized "java/lang/Math" ∈ TB) (hw4 : Cond.code Lib.Math.max.name Lib.Math.max.code 2 (some .int) ∈ TB) (hfr : 1 ≤ fr) (hlo : 21 ≤ lo)
    (hd : decode cc (pcs.getD ip 0) = .ok (.invokestatic index, 3)) (hn : pcs.getD (ip + 1) 0 = pcs.getD ip 0 + 3) : Snd own cc nL fr lo ret sx pcs ip I_max := by
  intro p l e R s m args below meth c Q nC nS g Ret hC hRm hSx hHR ls st M h H locs lsA hR hS hL hok
  obtain ⟨x, y, r, rfl, hcat, h⟩ := h
  obtain ⟨hx, hb, hml, hown, hts, hKn, hA⟩ := hC
  have hy' : InR y := ok_h hok
  have hx' : InR x := ok_h (ok_t hok)
  have hv : InR (if x < y then y else x) := by split <;> assumption
  have h' := h H locs lsA hR hS hL (ok_c hv (ok_t (ok_t hok)))
  rw [hn] at h'
  refine va_mmax hx hb (by rw [hml, hL.1]) hown (hts _ hw) (hts _ hw2) (hts _ hw3) (hts _ hw4) (Nat.le_trans hfr hRm.1) ?_ hRm.2.2.1 hRm.2.2.2 hd ?_
  · have := catS_toV g.2.1 r
    have h2 := hRm.2.1
    show ((r.map (toV g.2.1)).map fun v => v.category).sum + 13 ≤ _
    omega
  · have e : (if Int32.ofInt x < Int32.ofInt y then Int32.ofInt y else Int32.ofInt x) = Int32.ofInt (if x < y then y else x) := by
      by_cases q : x < y
      · rw [if_pos q, if_pos ((i32_lt hx' hy').mpr q)]
      · rw [if_neg q, if_neg (fun z => q ((i32_lt hx' hy').mp z))]
    rw [e]
    exact h'
theorem s_copy {index : Nat} (hw : Cond.methodLink own index arraycopyName ∈ TB) (hw2 : Cond.native arraycopyName ∈ TB) (hw3 : Cond.static arraycopyName ∈ TB) (hw4 : Cond.initialized "java/lang/System" ∈ TB) (hfr : 1 ≤ fr) (hlo : 26 ≤ lo)
    (hd : decode cc (pcs.getD ip 0) = .ok (.invokestatic index, 3)) (hn : pcs.getD (ip + 1) 0 = pcs.getD ip 0 + 3) : Snd own cc nL fr lo ret sx pcs ip I_copy := by
  intro p l e R s m args below meth c Q nC nS g Ret hC hRm hSx hHR ls st M h H locs lsA hR hS hL hok
  obtain ⟨n, dp, d, sp, sr, r, n0, n1, rfl, hs0, hs1, h0, h1, h2, h3, h4, hcat, h⟩ := h
  obtain ⟨hx, hb, hml, hown, hts, hKn, hA⟩ := hC
  obtain ⟨m32, m64, hM, hP⟩ := id hR
  have hn' : InR n := ok_h hok
  have hdp : InR dp := ok_h (ok_t hok)
  have hsp : InR sp := ok_h (ok_t (ok_t (ok_t hok)))
  refine va_copyi (ty := .int) hx hb (by rw [hml, hL.1]) hown (hts _ hw) (hts _ hw2) (hts _ hw3) (hts _ hw4) hKn.1 hP (wsOf_D hA m32 m64) hS sr d 0 0 (wsOf_get g m32 m64 hs0) (wsOf_get g m32 m64 hs1) rfl rfl rfl (by rw [i32_lt0 hsp]; omega) (by rw [i32_lt0 hdp]; omega) (by rw [i32_lt0 hn']; omega) (by rw [i32_nat hsp, i32_nat hn']; omega) (by rw [i32_nat hdp, i32_nat hn']; omega) (fun _ _ => rfl) (Nat.le_trans hfr hRm.1) ?_ hd fun H1 locs1 hP1 _ hS1 => ?_
  · have := catS_toV g.2.1 r
    have h2 := hRm.2.1
    have e : nativeFrameWords "java/lang/System" "arraycopy" 5 = 7 := by decide
    show ((r.map (toV g.2.1)).map fun v => v.category).sum + _ ≤ _
    omega
  · rw [i32_nat hsp, i32_nat hdp, i32_nat hn'] at hP1
    let n32 : Nat → Nat → Int32 := fun j => if j = d then va_cpy (m32 sr) (m32 d) sp.toNat dp.toNat n.toNat else m32 j
    have ed : n32 d = va_cpy (m32 sr) (m32 d) sp.toNat dp.toNat n.toNat := by simp [n32]
    have e := wsOf_set g (m32 := m32) (n32 := n32) (m64 := m64) (n64 := m64) hs1 (fun j hj => by simp [n32, hj]) (fun _ _ => rfl)
    have hP2 : va_P g.1 vwCl ((wsOf g m32 m64).set d (g.2.1 d, ent g n32 m64 d (.inr (.inl (0, n1))))) H1 := by
      have e2 : ent g n32 m64 d (.inr (.inl (0, n1))) = .inl (g.2.2.1.1, n1, .inl (va_cpy (m32 sr) (m32 d) sp.toNat dp.toNat n.toNat)) := by
        show Sum.inl (_, n1, Sum.inl (n32 d)) = _
        rw [ed]; rfl
      rw [e2]
      exact hP1
    rw [e] at hP2
    have hM2 : MR n32 m64 (srow M d (cpyR (M sr) (M d) sp.toNat dp.toNat n.toNat)) := by
      intro j i
      by_cases hj : j = d
      · subst hj
        rw [srow_same, isL_arr hs1, ed]
        exact i32_cpy (fun i => by rw [hM sr i, isL_arr hs0]; rfl) (fun i => by rw [hM j i, isL_arr hs1]; rfl) _ _ _ _
      · rw [srow_ne _ _ hj]
        have e3 : n32 j = m32 j := by simp [n32, hj]
        rw [e3]
        exact hM j i
    have h' := h H1 locs1 lsA ⟨_, _, hM2, hP2⟩ hS1 hL (ok_t (ok_t (ok_t (ok_t (ok_t hok)))))
    rw [hn] at h'
    exact h'
theorem ok_app {a b : List MV} (h : ∀ v ∈ a ++ b, okV v) : (∀ v ∈ a, okV v) ∧ ∀ v ∈ b, okV v := ⟨fun v hv => h v (List.mem_append_left _ hv), fun v hv => h v (List.mem_append_right _ hv)⟩
/-- behind any call -/
theorem after_call {p : Program} {l : Launch} {e : Env} {R : Room} {s : State} {m : MethodId} {args : Array Value} {below : List Frame} {meth : Method} {c : Code} {Q : State → Prop} {nC nS : Nat} {g : WG} {H : Heap} {locs : List Loc} {lsA : Array Slot} {ls : List (Option MV)} {r : List MV} {st0 : List Value} {a : Array Value} (hn : pcs.getD (ip + 1) 0 = pcs.getD ip 0 + 3)
    (hS : va_S g.2.2.2 s.heap H locs) (hL : LR g.2.1 nL lsA ls) (hok : ∀ v ∈ r, okV v)
    (hr : va_Run p l e R s m args below meth c H locs nC nS 0 0 (F0 m (pcs.getD ip 0) lsA st0) (r.map (toV g.2.1)) (QcM g (fun v M' => ZW p l e R s m args below meth c Q nC nS g nL pcs (ip + 1) ls (v.toList ++ r) M') a) g.2.2.2) : W p l e R s m args below meth c H locs nC nS Q (F0 m (pcs.getD ip 0) lsA st0) := by
  refine w_callR hr fun v st₀ t L h0 hq hL2 => ?_
  obtain ⟨⟨r', M', hv, hZ, hok2, hR2⟩, hz, hk⟩ := hq
  cases hv
  rw [h0] at hz hk
  have hS2 : va_S g.2.2.2 s.heap t.heap (locs ++ L) := ⟨Nat.le_trans hS.1 hz, fun q h1 h2 => by
      rw [hk q (Nat.lt_of_lt_of_le h1 hS.1) h2]; exact hS.2.1 q h1 h2, fun q hq => by
      rcases List.mem_append.mp hq with h | h
      · exact hS.2.2 q h
      · exact hL2 q h⟩
  have h' := hZ t.heap (locs ++ L) lsA hR2 hS2 hL (fun w hw => by
    rcases List.mem_append.mp hw with h | h
    · exact hok2 w (by simpa using h)
    · exact hok w h)
  rw [hn] at h'
  have e : (r'.map (toV g.2.1)).toList ++ r.map (toV g.2.1) = (r'.toList ++ r).map (toV g.2.1) := by
    cases r' <;> simp
  rw [e]
  exact h'
theorem s_callV {ci n index nL' fr' lo' N : Nat} {C : String} {T : u_T} {y : MethodName} {cy : ByteArray} {ry : Option FieldType} {sp : SP} (hc : vwCl[ci]? = some (C, T, N)) (hM : Ctr y cy nL' ry fr' lo' sp) (hfr : fr' + 1 ≤ fr) (hlo : 8 + (nL' + 11) + lo' ≤ lo) (hy : y.cls = C ∧ y.cls ≠ "java/lang/invoke/MethodHandle" ∧ y.cls ≠ "java/lang/invoke/VarHandle" ∧ (parseMethodDescriptor y.desc).map (fun d => d.parameters.length) = some n)
    (h1 : Cond.methodLink own index y ∈ TB) (h2 : Cond.instanceMethod y ∈ TB) (h3 : Cond.selects C y y ∈ TB) (h4 : Cond.initialized C ∈ TB) (h5 : Cond.code y cy nL' ry ∈ TB)
    (hd : decode cc (pcs.getD ip 0) = .ok (.invokevirtual index, 3)) (hn : pcs.getD (ip + 1) 0 = pcs.getD ip 0 + 3) : Snd own cc nL fr lo ret sx pcs ip (I_callV ci n sp) := by
  intro p l e R s m args below meth c Q nC nS g Ret hC hRm hSx hHR ls st M h H locs lsA hR hS hL hok
  obtain ⟨As, o, r, q, rfl, hlen, hsh, hq, hcat, h⟩ := h
  obtain ⟨hx, hb, hml, hown, hts, hKn, hA⟩ := hC
  obtain ⟨m32, m64, hMr, hP⟩ := id hR
  subst hq
  obtain ⟨ok1, ok2⟩ := ok_app hok
  have hMet := hM l g (mr o :: As) M _ h (fun v hv => by
    rcases List.mem_cons.mp hv with q | q
    · rw [q]; trivial
    · exact ok1 v (List.mem_reverse.mpr q)) hA
  have hT : GoodIn TB (wsV own index C y (.code y cy nL' ry :: TB)) := by
    intro w hw
    have hw' : w = .methodLink own index y ∨ w = .instanceMethod y ∨ w = .selects C y y ∨ w = .initialized C ∨ w ∈ Cond.code y cy nL' ry :: TB := by
      simpa [wsV] using hw
    have hm : w ∈ TB := by
      rcases hw' with rfl | rfl | rfl | rfl | hw'
      · exact h1
      · exact h2
      · exact h3
      · exact h4
      · exact (TB_self h5 w hw').1
    exact ⟨hm, TB_good w hm⟩
  have cw := cwV (R := R) (own := own) (index := index) (C := C) (rm := rmZ fr' lo') n hts hT rfl rfl rfl hy ⟨Nat.le_trans hfr hRm.1, Nat.le_trans hlo hRm.2.1⟩
  have hrun := va_runV (below := below) (meth := meth) (e := e) (locs := locs) (cells := nC) (slots := nS) (As := As.map (toV g.2.1)) (rest := r.map (toV g.2.1)) (b := g.2.1 o) (g := F0 m (pcs.getD ip 0) lsA ((As.reverse ++ mr o :: r).map (toV g.2.1))) ⟨hx, hb, hml, hown, hts⟩ hMet cw
    ⟨PcM_blind g _ M, va_recv hKn.1 hP hc (wsOf_get g m32 m64 hsh), fun U hU hW => ⟨rfl, by rw [hU]; exact hR, hKn.warm hW⟩⟩ rfl (by rw [List.length_map]; exact hlen) (hL.1) (by simp [List.map_reverse]; rfl) (by
      show 2 * 0 + ((r.map (toV g.2.1)).map fun v => v.category).sum ≤ 8
      have := catS_toV g.2.1 r
      omega) hd ⟨hRm.2.2.1, hRm.2.2.2⟩
  exact after_call hn hS hL (ok_t ok2) hrun
theorem s_callS {n index nL' fr' lo' : Nat} {y : MethodName} {cy : ByteArray} {ry : Option FieldType} {sp : SP} (hM : Ctr y cy nL' ry fr' lo' sp) (hfr : fr' + 1 ≤ fr) (hlo : 8 + (nL' + 11) + lo' ≤ lo) (hy : y.cls ≠ "java/lang/invoke/MethodHandle" ∧ y.cls ≠ "java/lang/invoke/VarHandle" ∧ (parseMethodDescriptor y.desc).map (fun d => d.parameters.length) = some n)
    (h1 : Cond.methodLink own index y ∈ TB) (h2 : Cond.static y ∈ TB) (h4 : Cond.initialized y.cls ∈ TB) (h5 : Cond.code y cy nL' ry ∈ TB)
    (hd : decode cc (pcs.getD ip 0) = .ok (.invokestatic index, 3)) (hn : pcs.getD (ip + 1) 0 = pcs.getD ip 0 + 3) : Snd own cc nL fr lo ret sx pcs ip (I_callS n sp) := by
  intro p l e R s m args below meth c Q nC nS g Ret hC hRm hSx hHR ls st M h H locs lsA hR hS hL hok
  obtain ⟨As, r, rfl, hlen, hcat, h⟩ := h
  obtain ⟨hx, hb, hml, hown, hts, hKn, hA⟩ := hC
  obtain ⟨ok1, ok2⟩ := ok_app hok
  have hMet := hM l g As M _ h (fun v hv => ok1 v (List.mem_reverse.mpr hv)) hA
  have hT : GoodIn TB (va_wsS own index y (.code y cy nL' ry :: TB)) := by
    intro w hw
    have hw' : w = .methodLink own index y ∨ w = .static y ∨ w = .initialized y.cls ∨ w ∈ Cond.code y cy nL' ry :: TB := by
      simpa [va_wsS] using hw
    have hm : w ∈ TB := by
      rcases hw' with rfl | rfl | rfl | hw'
      · exact h1
      · exact h2
      · exact h4
      · exact (TB_self h5 w hw').1
    exact ⟨hm, TB_good w hm⟩
  have cw := va_cwS (R := R) (own := own) (index := index) (rm := rmZ fr' lo') n hts hT rfl rfl rfl hy ⟨Nat.le_trans hfr hRm.1, Nat.le_trans hlo hRm.2.1⟩
  have hrun := va_runS (below := below) (meth := meth) (e := e) (locs := locs) (cells := nC) (slots := nS) (As := As.map (toV g.2.1)) (rest := r.map (toV g.2.1)) (g := F0 m (pcs.getD ip 0) lsA ((As.reverse ++ r).map (toV g.2.1))) ⟨hx, hb, hml, hown, hts⟩ hMet cw
    ⟨PcM_blind g _ M, fun U hU hW => ⟨rfl, by rw [hU]; exact hR, hKn.warm hW⟩⟩ rfl (by rw [List.length_map]; exact hlen) (hL.1) (by simp [List.map_reverse]) (by
      show 2 * 0 + ((r.map (toV g.2.1)).map fun v => v.category).sum ≤ 8
      have := catS_toV g.2.1 r
      omega) hd ⟨hRm.2.2.1, hRm.2.2.2⟩
  exact after_call hn hS hL ok2 hrun
theorem s_callN {n index nL' fr' lo' : Nat} {y : MethodName} {host : String} {cy : ByteArray} {ry : Option FieldType} {sp : SP} (hM : Ctr y cy nL' ry fr' lo' sp) (hfr : fr' + 1 ≤ fr) (hlo : 8 + (nL' + 11) + lo' ≤ lo) (hy : y.cls ≠ "java/lang/invoke/MethodHandle" ∧ y.cls ≠ "java/lang/invoke/VarHandle" ∧ (parseMethodDescriptor y.desc).map (fun d => d.parameters.length) = some n)
    (h1 : (own, index, y, host) ∈ NWl) (h2 : Cond.static y ∈ TB) (h4 : Cond.initialized y.cls ∈ TB) (h5 : Cond.code y cy nL' ry ∈ TB)
    (hd : decode cc (pcs.getD ip 0) = .ok (.invokestatic index, 3)) (hn : pcs.getD (ip + 1) 0 = pcs.getD ip 0 + 3) : Snd own cc nL fr lo ret sx pcs ip (I_callS n sp) := by
  intro p l e R s m args below meth c Q nC nS g Ret hC hRm hSx hHR ls st M h H locs lsA hR hS hL hok
  obtain ⟨As, r, rfl, hlen, hcat, h⟩ := h
  obtain ⟨hx, hb, hml, hown, hts, hKn, hA⟩ := hC
  obtain ⟨ok1, ok2⟩ := ok_app hok
  have hMet := hM l g As M _ h (fun v hv => ok1 v (List.mem_reverse.mpr hv)) hA
  have cw := va_cnB (R := R) (own := own) (index := index) (host := host) (rm := rmZ fr' lo') n hts (TB_self h5) rfl rfl rfl (hKn.2 _ h1) (hts _ h4) hy ⟨Nat.le_trans hfr hRm.1, Nat.le_trans hlo hRm.2.1⟩
  have hrun := va_runSN (below := below) (meth := meth) (e := e) (locs := locs) (cells := nC) (slots := nS) (As := As.map (toV g.2.1)) (rest := r.map (toV g.2.1)) (g := F0 m (pcs.getD ip 0) lsA ((As.reverse ++ r).map (toV g.2.1))) ⟨hx, hb, hml, hown, hts⟩ hMet ⟨cw, hts _ h2, trivial⟩
    ⟨PcM_blind g _ M, fun U hU hW => ⟨rfl, by rw [hU]; exact hR, hKn.warm hW⟩⟩ rfl (by rw [List.length_map]; exact hlen) (hL.1) (by simp [List.map_reverse]) (by
      show 2 * 0 + ((r.map (toV g.2.1)).map fun v => v.category).sum ≤ 8
      have := catS_toV g.2.1 r
      omega) hd ⟨hRm.2.2.1, hRm.2.2.2⟩
  exact after_call hn hS hL ok2 hrun
theorem s_iret (hret : ret = some .int) (hd : decode cc (pcs.getD ip 0) = .ok (.ireturn, 1)) : Snd own cc nL fr lo ret sx pcs ip I_iret := by
  intro p l e R s m args below meth c Q nC nS g Ret hC hRm hSx hHR ls st M h H locs lsA hR hS hL hok
  obtain ⟨z, rfl, h⟩ := h
  exact (hHR _ H locs lsA M hR hS).2 z hd (ok_h hok) (Or.inl hret) h
theorem s_zret (hret : ret = some .boolean) (hd : decode cc (pcs.getD ip 0) = .ok (.ireturn, 1)) : Snd own cc nL fr lo ret sx pcs ip I_zret := by
  intro p l e R s m args below meth c Q nC nS g Ret hC hRm hSx hHR ls st M h H locs lsA hR hS hL hok
  obtain ⟨z, rfl, hz, h⟩ := h
  exact (hHR _ H locs lsA M hR hS).2 z hd (ok_h hok) (Or.inr ⟨hret, hz⟩) h
theorem s_vret (hret : ret = none) (hd : decode cc (pcs.getD ip 0) = .ok (.return_, 1)) : Snd own cc nL fr lo ret sx pcs ip I_vret := by
  intro p l e R s m args below meth c Q nC nS g Ret hC hRm hSx hHR ls st M h H locs lsA hR hS hL hok
  obtain ⟨rfl, h⟩ := h
  exact (hHR _ H locs lsA M hR hS).1 hd hret h
end SND4
/-- all instructions of a code are sound -/
def AllOk (own : String) (cc : ByteArray) (nL fr lo : Nat) (ret : Option FieldType) (sx : Option (Nat × (Nat → Int))) (pcs : List Nat) : Nat → List Sem → Prop
  | _, [] => True
  | n, sem :: r => Snd own cc nL fr lo ret sx pcs n sem ∧ AllOk own cc nL fr lo ret sx pcs (n + 1) r
theorem AllOk.at {own : String} {cc : ByteArray} {nL fr lo : Nat} {ret : Option FieldType} {sx : Option (Nat × (Nat → Int))} {pcs : List Nat} : ∀ {code : List Sem} {n : Nat}, AllOk own cc nL fr lo ret sx pcs n code → ∀ {i : Nat} {sem : Sem}, code[i]? = some sem → Snd own cc nL fr lo ret sx pcs (n + i) sem
  | [], n, _, i, sem, hi => by simp at hi
  | s :: r, n, h, 0, sem, hi => by simp at hi; subst hi; exact h.1
  | s :: r, n, h, i + 1, sem, hi => by
    have := AllOk.at h.2 (i := i) (sem := sem) (by simpa using hi)
    rw [show n + (i + 1) = n + 1 + i by omega]
    exact this
theorem AllOk.app {own : String} {cc : ByteArray} {nL fr lo : Nat} {ret : Option FieldType} {sx : Option (Nat × (Nat → Int))} {pcs : List Nat} : ∀ {a b : List Sem} {n : Nat}, AllOk own cc nL fr lo ret sx pcs n a → AllOk own cc nL fr lo ret sx pcs (n + a.length) b → AllOk own cc nL fr lo ret sx pcs n (a ++ b)
  | [], b, n, _, h => by simpa using h
  | s :: a, b, n, h, h2 => ⟨h.1, AllOk.app h.2 (by rw [show n + 1 + a.length = n + (s :: a).length by simp; omega]; exact h2)⟩
theorem AllOk.sim {own : String} {cc : ByteArray} {nL fr lo : Nat} {ret : Option FieldType} {sx : Option (Nat × (Nat → Int))} {pcs : List Nat} {code : List Sem} (h : AllOk own cc nL fr lo ret sx pcs 0 code)
    {p : Program} {l : Launch} {e : Env} {R : Room} {s : State} {m : MethodId} {args : Array Value} {below : List Frame} {meth : Method} {c : Code} {Q : State → Prop} {nC nS : Nat} {g : WG} {Ret : KR}
    (hC : Cx p s m args c own cc nL g) (hRm : Rm R nC nS fr lo) (hSx : Sx s g sx) (hHR : HR p l e R s m args below meth c Q nC nS g cc ret Ret) : Sim code (ZW p l e R s m args below meth c Q nC nS g nL pcs) Ret := by
  refine ⟨fun ip ls st M sem hs hh => ?_, fun ip ls st M i hh => ?_⟩
  · have := h.at hs
    rw [Nat.zero_add] at this
    exact this p l e R s m args below meth c Q nC nS g Ret hC hRm hSx hHR ls st M hh
  · intro H locs lsA hR hS hL hok
    refine hh H locs lsA hR hS ⟨hL.1, hL.2.1, by rw [List.length_set]; exact hL.2.2.1, fun j v hj => ?_⟩ hok
    refine hL.2.2.2 j v ?_
    by_cases q : j = i
    · subst q
      have hl : j < ls.length := by
        have := (List.getElem?_eq_some_iff.mp hj).1
        rwa [List.length_set] at this
      rw [List.getElem?_set_self hl] at hj
      cases hj
    · rwa [List.getElem?_set_ne (Ne.symm q)] at hj
/-- THE CONTRACT OF A METHOD out of a walk over the small machine -/
theorem ctr_of {y : MethodName} {cc : ByteArray} {nL fr lo : Nat} {ret : Option FieldType} {sp : SP} {pcs : List Nat} {code : List Sem} (hy : plainName y.cls = true) (hall : AllOk y.cls cc nL fr lo ret none pcs 0 code) (hpc : pcs.getD 0 0 = 0)
    (body : ∀ (av : List MV) (M : Mem) (Ret : KR), sp av M Ret → (∀ v ∈ av, okV v) → MOk M → (initA av).length ≤ nL ∧ ∀ Z : KZ, Sim code Z Ret → Z 0 (initL nL av) [] M) : Ctr y cc nL ret fr lo sp := by
  intro l g av M Ret hsp hok hA
  refine Met.ofW (cc := cc) (maxL := nL) (ret := ret) hy rfl ?_
  intro p e s m args below meth c s₁ B hml hv
  obtain ⟨rfl, hR, hKn⟩ := hv
  have hx := B.exec
  have hb := B.bytes
  have hr := B.returns
  have hts0 := atoms_spec (ws := Cond.code y cc nL ret :: TB) B.pre
  have hts : ∀ w ∈ TB, w.before (av.map (toV g.2.1)).toArray s = true := fun w h => hts0 w (List.mem_cons_of_mem _ h)
  have hown : s.vm.findClass y.cls = some m.cls := findClass_of_methodNamed B.named
  have hlocks := B.notSynchronized
  obtain ⟨hlen, hbody⟩ := body av M Ret hsp hok hR.mok
  have hC : Cx p s m (av.map (toV g.2.1)).toArray c y.cls cc nL g := ⟨hx, hb, hml, hown, hts, hKn, hA⟩
  have hHR : HR p l e (headSpec (Cond.code y cc nL ret :: TB) (rmZ fr lo)).room s m (av.map (toV g.2.1)).toArray below meth c (MQ below (QcM g Ret) (av.map (toV g.2.1)).toArray s 0 0 g.2.2.2) 0 0 g cc ret Ret := by
    intro pc H locs lsA M2 hR2 hS2
    refine ⟨fun hd hrn hret => ?_, fun z hd hz hrt hret => ?_⟩
    · exact W.vret hx hb (by rw [hr, hrn]) (fun t ht hW => ⟨⟨none, M2, rfl, hret, fun v h => (by cases h), by rw [ht]; exact hR2⟩, hS2.F ht⟩) hS2.2.2 hd
    · rcases hrt with hrt | ⟨hrt, hz01⟩
      · exact W.zret (ty := .int) hx hb (by rw [hr, hrt]) rfl (fun t ht hW => ⟨⟨some (mi z), M2, rfl, hret, fun v h => by cases h; exact hz, by rw [ht]; exact hR2⟩, hS2.F ht⟩) hS2.2.2 hd
      · exact W.zret (ty := .boolean) hx hb (by rw [hr, hrt]) (bool_nar hz01).1 (fun t ht hW => ⟨⟨some (mi z), M2, rfl, hret, fun v h => by cases h; exact hz, by rw [ht]; exact hR2⟩, hS2.F ht⟩) hS2.2.2 hd
  have hsim := hall.sim (l := l) (e := e) (below := below) (meth := meth) hC (R := (headSpec (Cond.code y cc nL ret :: TB) (rmZ fr lo)).room) (nC := 0) (nS := 0) ⟨Nat.le_refl _, Nat.le_refl _, Nat.le_refl _, Nat.le_refl _⟩ (fun _ _ h => by cases h) hHR
  have hZ := hbody _ hsim s.heap [] _ hR va_S.rf (initL_LR g.2.1 hlen hok) (fun _ h => by cases h)
  rw [lg_entry_eq]
  rw [hpc] at hZ
  exact hZ
end
section
/-! ROWS: from what follows an instruction to the instruction, over any Z of a code -/
section ROWS
variable {code : List Sem} {Z : KZ} {Ret : KR} {ls : List (Option MV)} {M : Mem} {r : List MV}
theorem w_const (hZ : Sim code Z Ret) (ip np : Nat) {z : Int} (hc : code[ip]? = some (I_const z)) (hn : ip + 1 = np)  (k : Z np ls (mi z :: r) M) : Z ip ls r M := by
  subst hn
  exact hZ.1 ip _ _ M _ hc k
theorem w_lconst (hZ : Sim code Z Ret) (ip np : Nat) {z : Int} (hc : code[ip]? = some (I_lconst z)) (hn : ip + 1 = np)  (k : Z np ls (ml z :: r) M) : Z ip ls r M := by
  subst hn
  exact hZ.1 ip _ _ M _ hc k
theorem w_iload (hZ : Sim code Z Ret) (ip np : Nat) {i : Nat} {z : Int} (hc : code[ip]? = some (I_iload i)) (hn : ip + 1 = np) (hl : ls[i]? = some (some (mi z))) (k : Z np ls (mi z :: r) M) : Z ip ls r M := by
  subst hn
  exact hZ.1 ip _ _ M _ hc ⟨z, hl, k⟩
theorem w_lload (hZ : Sim code Z Ret) (ip np : Nat) {i : Nat} {z : Int} (hc : code[ip]? = some (I_lload i)) (hn : ip + 1 = np) (hl : ls[i]? = some (some (ml z))) (k : Z np ls (ml z :: r) M) : Z ip ls r M := by
  subst hn
  exact hZ.1 ip _ _ M _ hc ⟨z, hl, k⟩
theorem w_aload (hZ : Sim code Z Ret) (ip np : Nat) {i : Nat} {z : Nat} (hc : code[ip]? = some (I_aload i)) (hn : ip + 1 = np) (hl : ls[i]? = some (some (mr z))) (k : Z np ls (mr z :: r) M) : Z ip ls r M := by
  subst hn
  exact hZ.1 ip _ _ M _ hc ⟨z, hl, k⟩
theorem w_istore (hZ : Sim code Z Ret) (ip np : Nat) {i : Nat} {z : Int} {ls2 : List (Option MV)} (hc : code[ip]? = some (I_istore i)) (hn : ip + 1 = np) (h1 : i < ls.length) (h2 : noL ls = true) (h3 : ls.set i (some (mi z)) = ls2) (k : Z np ls2 r M) : Z ip ls (mi z :: r) M := by
  subst hn
  exact hZ.1 ip _ _ M _ hc ⟨z, r, rfl, h1, h2, by rw [h3]; exact k⟩
theorem w_iinc (hZ : Sim code Z Ret) (ip np : Nat) {i : Nat} {n z : Int} {ls2 : List (Option MV)} (hc : code[ip]? = some (I_iinc i n)) (hn : ip + 1 = np) (hl : ls[i]? = some (some (mi z))) (h2 : noL ls = true) (h3 : InR (z + n)) (h4 : ls.set i (some (mi (z + n))) = ls2) (k : Z np ls2 r M) : Z ip ls r M := by
  subst hn
  exact hZ.1 ip _ _ M _ hc ⟨z, hl, h2, h3, by rw [h4]; exact k⟩
theorem w_add (hZ : Sim code Z Ret) (ip np : Nat) {x y : Int} (hc : code[ip]? = some I_add) (hn : ip + 1 = np) (h : InR (x + y)) (k : Z np ls (mi (x + y) :: r) M) : Z ip ls (mi y :: mi x :: r) M := by
  subst hn
  exact hZ.1 ip _ _ M _ hc ⟨x, y, r, rfl, h, k⟩
theorem w_sub (hZ : Sim code Z Ret) (ip np : Nat) {x y : Int} (hc : code[ip]? = some I_sub) (hn : ip + 1 = np) (h : InR (x - y)) (k : Z np ls (mi (x - y) :: r) M) : Z ip ls (mi y :: mi x :: r) M := by
  subst hn
  exact hZ.1 ip _ _ M _ hc ⟨x, y, r, rfl, h, k⟩
theorem w_mul (hZ : Sim code Z Ret) (ip np : Nat) {x y : Int} (hc : code[ip]? = some I_mul) (hn : ip + 1 = np) (h : InR (x * y)) (k : Z np ls (mi (x * y) :: r) M) : Z ip ls (mi y :: mi x :: r) M := by
  subst hn
  exact hZ.1 ip _ _ M _ hc ⟨x, y, r, rfl, h, k⟩
theorem w_div (hZ : Sim code Z Ret) (ip np : Nat) {x y : Int} (hc : code[ip]? = some I_div) (hn : ip + 1 = np) (h0 : 0 ≤ x) (h1 : 0 < y) (k : Z np ls (mi (x / y) :: r) M) : Z ip ls (mi y :: mi x :: r) M := by
  subst hn
  exact hZ.1 ip _ _ M _ hc ⟨x, y, r, rfl, h0, h1, k⟩
theorem w_rem (hZ : Sim code Z Ret) (ip np : Nat) {x y : Int} (hc : code[ip]? = some I_rem) (hn : ip + 1 = np) (h0 : 0 ≤ x) (h1 : 0 < y) (k : Z np ls (mi (x % y) :: r) M) : Z ip ls (mi y :: mi x :: r) M := by
  subst hn
  exact hZ.1 ip _ _ M _ hc ⟨x, y, r, rfl, h0, h1, k⟩
theorem w_lmul (hZ : Sim code Z Ret) (ip np : Nat) {x y : Int} (hc : code[ip]? = some I_lmul) (hn : ip + 1 = np) (h : InL (x * y)) (k : Z np ls (ml (x * y) :: r) M) : Z ip ls (ml y :: ml x :: r) M := by
  subst hn
  exact hZ.1 ip _ _ M _ hc ⟨x, y, r, rfl, h, k⟩
theorem w_lrem (hZ : Sim code Z Ret) (ip np : Nat) {x y : Int} (hc : code[ip]? = some I_lrem) (hn : ip + 1 = np) (h0 : 0 ≤ x) (h1 : 0 < y) (k : Z np ls (ml (x % y) :: r) M) : Z ip ls (ml y :: ml x :: r) M := by
  subst hn
  exact hZ.1 ip _ _ M _ hc ⟨x, y, r, rfl, h0, h1, k⟩
theorem w_i2l (hZ : Sim code Z Ret) (ip np : Nat) {x : Int} (hc : code[ip]? = some I_i2l) (hn : ip + 1 = np)  (k : Z np ls (ml x :: r) M) : Z ip ls (mi x :: r) M := by
  subst hn
  exact hZ.1 ip _ _ M _ hc ⟨x, r, rfl, k⟩
theorem w_l2i (hZ : Sim code Z Ret) (ip np : Nat) {x : Int} (hc : code[ip]? = some I_l2i) (hn : ip + 1 = np) (h : InR x) (k : Z np ls (mi x :: r) M) : Z ip ls (ml x :: r) M := by
  subst hn
  exact hZ.1 ip _ _ M _ hc ⟨x, r, rfl, h, k⟩
theorem w_lcmp (hZ : Sim code Z Ret) (ip np : Nat) {x y : Int} (hc : code[ip]? = some I_lcmp) (hn : ip + 1 = np)  (k : Z np ls (mi (cmp3 x y) :: r) M) : Z ip ls (ml y :: ml x :: r) M := by
  subst hn
  exact hZ.1 ip _ _ M _ hc ⟨x, y, r, rfl, k⟩
theorem w_and31 (hZ : Sim code Z Ret) (ip np : Nat) {x : Int} (hc : code[ip]? = some I_and31) (hn : ip + 1 = np)  (k : Z np ls (mi (x % 32) :: r) M) : Z ip ls (mi 31 :: mi x :: r) M := by
  subst hn
  exact hZ.1 ip _ _ M _ hc ⟨x, r, rfl, k⟩
theorem w_dup (hZ : Sim code Z Ret) (ip np : Nat) {v : MV} (hc : code[ip]? = some I_dup) (hn : ip + 1 = np) (h : catV v = 1) (k : Z np ls (v :: v :: r) M) : Z ip ls (v :: r) M := by
  subst hn
  exact hZ.1 ip _ _ M _ hc ⟨v, r, rfl, h, k⟩
theorem w_dup2 (hZ : Sim code Z Ret) (ip np : Nat) {v w : MV} (hc : code[ip]? = some I_dup2) (hn : ip + 1 = np) (h : catV v = 1) (h2 : catV w = 1) (k : Z np ls (v :: w :: v :: w :: r) M) : Z ip ls (v :: w :: r) M := by
  subst hn
  exact hZ.1 ip _ _ M _ hc ⟨v, w, r, rfl, h, h2, k⟩
theorem w_pop (hZ : Sim code Z Ret) (ip np : Nat) {v : MV} (hc : code[ip]? = some I_pop) (hn : ip + 1 = np) (h : catV v = 1) (k : Z np ls r M) : Z ip ls (v :: r) M := by
  subst hn
  exact hZ.1 ip _ _ M _ hc ⟨v, r, rfl, h, k⟩
theorem w_goto (hZ : Sim code Z Ret) (ip t : Nat) (hc : code[ip]? = some (I_goto t)) (k : Z t ls r M) : Z ip ls r M := hZ.1 ip _ _ M _ hc k
theorem w_ifeq (hZ : Sim code Z Ret) (ip np : Nat) {t : Nat} {x : Int} (hc : code[ip]? = some (I_ifeq t)) (hn : ip + 1 = np) (kt : x = 0 → Z t ls r M) (kf : ¬ x = 0 → Z np ls r M)  : Z ip ls (mi x :: r) M := by
  subst hn
  exact hZ.1 ip _ _ M _ hc ⟨x, r, rfl, kt, kf⟩
theorem w_ifne (hZ : Sim code Z Ret) (ip np : Nat) {t : Nat} {x : Int} (hc : code[ip]? = some (I_ifne t)) (hn : ip + 1 = np) (kt : ¬ x = 0 → Z t ls r M) (kf : x = 0 → Z np ls r M)  : Z ip ls (mi x :: r) M := by
  subst hn
  exact hZ.1 ip _ _ M _ hc ⟨x, r, rfl, kt, kf⟩
theorem w_iflt (hZ : Sim code Z Ret) (ip np : Nat) {t : Nat} {x : Int} (hc : code[ip]? = some (I_iflt t)) (hn : ip + 1 = np) (kt : x < 0 → Z t ls r M) (kf : 0 ≤ x → Z np ls r M)  : Z ip ls (mi x :: r) M := by
  subst hn
  exact hZ.1 ip _ _ M _ hc ⟨x, r, rfl, kt, kf⟩
theorem w_ifge (hZ : Sim code Z Ret) (ip np : Nat) {t : Nat} {x : Int} (hc : code[ip]? = some (I_ifge t)) (hn : ip + 1 = np) (kt : 0 ≤ x → Z t ls r M) (kf : x < 0 → Z np ls r M)  : Z ip ls (mi x :: r) M := by
  subst hn
  exact hZ.1 ip _ _ M _ hc ⟨x, r, rfl, kt, kf⟩
theorem w_ifle (hZ : Sim code Z Ret) (ip np : Nat) {t : Nat} {x : Int} (hc : code[ip]? = some (I_ifle t)) (hn : ip + 1 = np) (kt : x ≤ 0 → Z t ls r M) (kf : 0 < x → Z np ls r M)  : Z ip ls (mi x :: r) M := by
  subst hn
  exact hZ.1 ip _ _ M _ hc ⟨x, r, rfl, kt, kf⟩
theorem w_ifgt (hZ : Sim code Z Ret) (ip np : Nat) {t : Nat} {x : Int} (hc : code[ip]? = some (I_ifgt t)) (hn : ip + 1 = np) (kt : 0 < x → Z t ls r M) (kf : x ≤ 0 → Z np ls r M)  : Z ip ls (mi x :: r) M := by
  subst hn
  exact hZ.1 ip _ _ M _ hc ⟨x, r, rfl, kt, kf⟩
theorem w_ceq (hZ : Sim code Z Ret) (ip np : Nat) {t : Nat} {x y : Int} (hc : code[ip]? = some (I_ceq t)) (hn : ip + 1 = np) (kt : x = y → Z t ls r M) (kf : ¬ x = y → Z np ls r M)  : Z ip ls (mi y :: mi x :: r) M := by
  subst hn
  exact hZ.1 ip _ _ M _ hc ⟨x, y, r, rfl, kt, kf⟩
theorem w_cne (hZ : Sim code Z Ret) (ip np : Nat) {t : Nat} {x y : Int} (hc : code[ip]? = some (I_cne t)) (hn : ip + 1 = np) (kt : ¬ x = y → Z t ls r M) (kf : x = y → Z np ls r M)  : Z ip ls (mi y :: mi x :: r) M := by
  subst hn
  exact hZ.1 ip _ _ M _ hc ⟨x, y, r, rfl, kt, kf⟩
theorem w_clt (hZ : Sim code Z Ret) (ip np : Nat) {t : Nat} {x y : Int} (hc : code[ip]? = some (I_clt t)) (hn : ip + 1 = np) (kt : x < y → Z t ls r M) (kf : y ≤ x → Z np ls r M)  : Z ip ls (mi y :: mi x :: r) M := by
  subst hn
  exact hZ.1 ip _ _ M _ hc ⟨x, y, r, rfl, kt, kf⟩
theorem w_cge (hZ : Sim code Z Ret) (ip np : Nat) {t : Nat} {x y : Int} (hc : code[ip]? = some (I_cge t)) (hn : ip + 1 = np) (kt : y ≤ x → Z t ls r M) (kf : x < y → Z np ls r M)  : Z ip ls (mi y :: mi x :: r) M := by
  subst hn
  exact hZ.1 ip _ _ M _ hc ⟨x, y, r, rfl, kt, kf⟩
theorem w_cle (hZ : Sim code Z Ret) (ip np : Nat) {t : Nat} {x y : Int} (hc : code[ip]? = some (I_cle t)) (hn : ip + 1 = np) (kt : x ≤ y → Z t ls r M) (kf : y < x → Z np ls r M)  : Z ip ls (mi y :: mi x :: r) M := by
  subst hn
  exact hZ.1 ip _ _ M _ hc ⟨x, y, r, rfl, kt, kf⟩
theorem w_cgt (hZ : Sim code Z Ret) (ip np : Nat) {t : Nat} {x y : Int} (hc : code[ip]? = some (I_cgt t)) (hn : ip + 1 = np) (kt : y < x → Z t ls r M) (kf : x ≤ y → Z np ls r M)  : Z ip ls (mi y :: mi x :: r) M := by
  subst hn
  exact hZ.1 ip _ _ M _ hc ⟨x, y, r, rfl, kt, kf⟩
theorem w_tsw (hZ : Sim code Z Ret) (ip : Nat) {lo x : Int} {ts : List Nat} {d : Nat} (hc : code[ip]? = some (I_tsw lo ts d)) (kt : ∀ (j t : Nat), ts[j]? = some t → x = lo + j → Z t ls r M) (kf : x < lo ∨ lo + ts.length ≤ x → Z d ls r M) : Z ip ls (mi x :: r) M := hZ.1 ip _ _ M _ hc ⟨x, r, rfl, kt, kf⟩
theorem w_geti (hZ : Sim code Z Ret) (ip np : Nat) {o ci f : Nat} {q : Nat × List Nat} (hc : code[ip]? = some (I_get ci f)) (hn : ip + 1 = np) (h1 : shp[o]? = some (.inl q)) (h2 : q.1 = ci) (h3 : q.2[f]? = some 0) (k : Z np ls (mi (M o f) :: r) M) : Z ip ls (mr o :: r) M := by
  subst hn
  exact hZ.1 ip _ _ M _ hc ⟨o, r, q, 0, rfl, h1, h2, h3, k⟩
theorem w_getz (hZ : Sim code Z Ret) (ip np : Nat) {o ci f : Nat} {q : Nat × List Nat} (hc : code[ip]? = some (I_get ci f)) (hn : ip + 1 = np) (h1 : shp[o]? = some (.inl q)) (h2 : q.1 = ci) (h3 : q.2[f]? = some 1) (k : Z np ls (mi (M o f) :: r) M) : Z ip ls (mr o :: r) M := by
  subst hn
  exact hZ.1 ip _ _ M _ hc ⟨o, r, q, 1, rfl, h1, h2, h3, k⟩
theorem w_getl (hZ : Sim code Z Ret) (ip np : Nat) {o ci f : Nat} {q : Nat × List Nat} (hc : code[ip]? = some (I_get ci f)) (hn : ip + 1 = np) (h1 : shp[o]? = some (.inl q)) (h2 : q.1 = ci) (h3 : q.2[f]? = some 2) (k : Z np ls (ml (M o f) :: r) M) : Z ip ls (mr o :: r) M := by
  subst hn
  exact hZ.1 ip _ _ M _ hc ⟨o, r, q, 2, rfl, h1, h2, h3, k⟩
theorem w_getr (hZ : Sim code Z Ret) (ip np : Nat) {o ci f n : Nat} {q : Nat × List Nat} (hc : code[ip]? = some (I_get ci f)) (hn : ip + 1 = np) (h1 : shp[o]? = some (.inl q)) (h2 : q.1 = ci) (h3 : q.2[f]? = some (n + 3)) (k : Z np ls (mr n :: r) M) : Z ip ls (mr o :: r) M := by
  subst hn
  exact hZ.1 ip _ _ M _ hc ⟨o, r, q, n + 3, rfl, h1, h2, h3, k⟩
theorem w_puti (hZ : Sim code Z Ret) (ip np : Nat) {o ci f : Nat} {z : Int} {q : Nat × List Nat} (hc : code[ip]? = some (I_puti ci f)) (hn : ip + 1 = np) (h1 : shp[o]? = some (.inl q)) (h2 : q.1 = ci) (h3 : q.2[f]? = some 0) (k : Z np ls r (mup M o f z)) : Z ip ls (mi z :: mr o :: r) M := by
  subst hn
  exact hZ.1 ip _ _ M _ hc ⟨o, r, q, z, rfl, h1, h2, h3, k⟩
theorem w_putz (hZ : Sim code Z Ret) (ip np : Nat) {o ci f : Nat} {z : Int} {q : Nat × List Nat} (hc : code[ip]? = some (I_putz ci f)) (hn : ip + 1 = np) (h1 : shp[o]? = some (.inl q)) (h2 : q.1 = ci) (h3 : q.2[f]? = some 1) (h4 : z = 0 ∨ z = 1) (k : Z np ls r (mup M o f z)) : Z ip ls (mi z :: mr o :: r) M := by
  subst hn
  exact hZ.1 ip _ _ M _ hc ⟨o, r, q, z, rfl, h1, h2, h3, h4, k⟩
theorem w_putl (hZ : Sim code Z Ret) (ip np : Nat) {o ci f : Nat} {z : Int} {q : Nat × List Nat} (hc : code[ip]? = some (I_putl ci f)) (hn : ip + 1 = np) (h1 : shp[o]? = some (.inl q)) (h2 : q.1 = ci) (h3 : q.2[f]? = some 2) (k : Z np ls r (mup M o f z)) : Z ip ls (ml z :: mr o :: r) M := by
  subst hn
  exact hZ.1 ip _ _ M _ hc ⟨o, r, q, z, rfl, h1, h2, h3, k⟩
theorem w_iald (hZ : Sim code Z Ret) (ip np : Nat) {o n : Nat} {i : Int} (hc : code[ip]? = some I_iald) (hn : ip + 1 = np) (h1 : shp[o]? = some (.inr (.inl (0, n)))) (h2 : 0 ≤ i) (h3 : i < n) (k : Z np ls (mi (M o i.toNat) :: r) M) : Z ip ls (mi i :: mr o :: r) M := by
  subst hn
  exact hZ.1 ip _ _ M _ hc ⟨i, o, r, n, rfl, h1, h2, h3, k⟩
theorem w_zald (hZ : Sim code Z Ret) (ip np : Nat) {o n : Nat} {i : Int} (hc : code[ip]? = some I_zald) (hn : ip + 1 = np) (h1 : shp[o]? = some (.inr (.inl (1, n)))) (h2 : 0 ≤ i) (h3 : i < n) (k : Z np ls (mi (M o i.toNat) :: r) M) : Z ip ls (mi i :: mr o :: r) M := by
  subst hn
  exact hZ.1 ip _ _ M _ hc ⟨i, o, r, n, rfl, h1, h2, h3, k⟩
theorem w_iast (hZ : Sim code Z Ret) (ip np : Nat) {o n : Nat} {i z : Int} (hc : code[ip]? = some I_iast) (hn : ip + 1 = np) (h1 : shp[o]? = some (.inr (.inl (0, n)))) (h2 : 0 ≤ i) (h3 : i < n) (k : Z np ls r (mup M o i.toNat z)) : Z ip ls (mi z :: mi i :: mr o :: r) M := by
  subst hn
  exact hZ.1 ip _ _ M _ hc ⟨z, i, o, r, n, rfl, h1, h2, h3, k⟩
theorem w_zast (hZ : Sim code Z Ret) (ip np : Nat) {o n : Nat} {i z : Int} (hc : code[ip]? = some I_zast) (hn : ip + 1 = np) (h1 : shp[o]? = some (.inr (.inl (1, n)))) (h2 : 0 ≤ i) (h3 : i < n) (h4 : z = 0 ∨ z = 1) (k : Z np ls r (mup M o i.toNat z)) : Z ip ls (mi z :: mi i :: mr o :: r) M := by
  subst hn
  exact hZ.1 ip _ _ M _ hc ⟨z, i, o, r, n, rfl, h1, h2, h3, h4, k⟩
theorem w_aald (hZ : Sim code Z Ret) (ip np : Nat) {o : Nat} {i : Int} {rs : List Nat} (hc : code[ip]? = some I_aald) (hn : ip + 1 = np) (h1 : shp[o]? = some (.inr (.inr rs))) (h2 : 0 ≤ i) (h3 : i < rs.length) (k : ∀ (j t : Nat), rs[j]? = some t → i = j → Z np ls (mr t :: r) M)  : Z ip ls (mi i :: mr o :: r) M := by
  subst hn
  exact hZ.1 ip _ _ M _ hc ⟨i, o, r, rs, rfl, h1, h2, h3, k⟩
theorem w_alen (hZ : Sim code Z Ret) (ip np : Nat) {o n : Nat} (hc : code[ip]? = some I_alen) (hn : ip + 1 = np) (h1 : shp[o]? = some (.inr (.inl (0, n)))) (h2 : n < 2147483648) (k : Z np ls (mi n :: r) M) : Z ip ls (mr o :: r) M := by
  subst hn
  exact hZ.1 ip _ _ M _ hc ⟨o, r, n, rfl, h1, h2, k⟩
theorem w_siald (hZ : Sim code Z Ret) (ip np : Nat) {L : Nat} {xs : Nat → Int} {i : Int} (hc : code[ip]? = some (I_siald L xs)) (hn : ip + 1 = np) (h2 : 0 ≤ i) (h3 : i < L) (k : Z np ls (mi (xs i.toNat) :: r) M) : Z ip ls (mi i :: mr 999 :: r) M := by
  subst hn
  exact hZ.1 ip _ _ M _ hc ⟨i, r, rfl, h2, h3, k⟩
theorem w_slen (hZ : Sim code Z Ret) (ip np : Nat) {L : Nat} (hc : code[ip]? = some (I_slen L)) (hn : ip + 1 = np) (h2 : L < 2147483648) (k : Z np ls (mi L :: r) M) : Z ip ls (mr 999 :: r) M := by
  subst hn
  exact hZ.1 ip _ _ M _ hc ⟨r, rfl, h2, k⟩
theorem w_min (hZ : Sim code Z Ret) (ip np : Nat) {x y : Int} (hc : code[ip]? = some I_min) (hn : ip + 1 = np) (h : catS r ≤ 8) (k : Z np ls (mi (if y < x then y else x) :: r) M) : Z ip ls (mi y :: mi x :: r) M := by
  subst hn
  exact hZ.1 ip _ _ M _ hc ⟨x, y, r, rfl, h, k⟩
theorem w_max (hZ : Sim code Z Ret) (ip np : Nat) {x y : Int} (hc : code[ip]? = some I_max) (hn : ip + 1 = np) (h : catS r ≤ 8) (k : Z np ls (mi (if x < y then y else x) :: r) M) : Z ip ls (mi y :: mi x :: r) M := by
  subst hn
  exact hZ.1 ip _ _ M _ hc ⟨x, y, r, rfl, h, k⟩
theorem w_copy (hZ : Sim code Z Ret) (ip np : Nat) {n dp sp : Int} {d s n0 n1 : Nat} (hc : code[ip]? = some I_copy) (hn : ip + 1 = np) (h1 : shp[s]? = some (.inr (.inl (0, n0)))) (h2 : shp[d]? = some (.inr (.inl (0, n1)))) (h3 : 0 ≤ sp) (h4 : 0 ≤ dp) (h5 : 0 ≤ n) (h6 : sp + n ≤ n0) (h7 : dp + n ≤ n1) (h8 : catS r ≤ 8) (k : Z np ls r (srow M d (cpyR (M s) (M d) sp.toNat dp.toNat n.toNat))) : Z ip ls (mi n :: mi dp :: mr d :: mi sp :: mr s :: r) M := by
  subst hn
  exact hZ.1 ip _ _ M _ hc ⟨n, dp, d, sp, s, r, n0, n1, rfl, h1, h2, h3, h4, h5, h6, h7, h8, k⟩
theorem w_callV0 (hZ : Sim code Z Ret) (ip np : Nat) {o ci : Nat} {sp : SP} {q : Nat × List Nat}  (hc : code[ip]? = some (I_callV ci 0 sp)) (hn : ip + 1 = np) (h1 : shp[o]? = some (.inl q)) (h2 : q.1 = ci) (h3 : catS r ≤ 8) (k : sp [mr o] M (fun v M2 => Z np ls (v.toList ++ r) M2)) : Z ip ls (mr o :: r) M := by
  subst hn
  exact hZ.1 ip _ _ M _ hc ⟨[], o, r, q, rfl, rfl, h1, h2, h3, k⟩
theorem w_callV1 (hZ : Sim code Z Ret) (ip np : Nat) {o ci : Nat} {sp : SP} {q : Nat × List Nat} {v1 : MV} (hc : code[ip]? = some (I_callV ci 1 sp)) (hn : ip + 1 = np) (h1 : shp[o]? = some (.inl q)) (h2 : q.1 = ci) (h3 : catS r ≤ 8) (k : sp [mr o, v1] M (fun v M2 => Z np ls (v.toList ++ r) M2)) : Z ip ls (v1 :: mr o :: r) M := by
  subst hn
  exact hZ.1 ip _ _ M _ hc ⟨[v1], o, r, q, rfl, rfl, h1, h2, h3, k⟩
theorem w_callV2 (hZ : Sim code Z Ret) (ip np : Nat) {o ci : Nat} {sp : SP} {q : Nat × List Nat} {v1 v2 : MV} (hc : code[ip]? = some (I_callV ci 2 sp)) (hn : ip + 1 = np) (h1 : shp[o]? = some (.inl q)) (h2 : q.1 = ci) (h3 : catS r ≤ 8) (k : sp [mr o, v1, v2] M (fun v M2 => Z np ls (v.toList ++ r) M2)) : Z ip ls (v2 :: v1 :: mr o :: r) M := by
  subst hn
  exact hZ.1 ip _ _ M _ hc ⟨[v1, v2], o, r, q, rfl, rfl, h1, h2, h3, k⟩
theorem w_callV3 (hZ : Sim code Z Ret) (ip np : Nat) {o ci : Nat} {sp : SP} {q : Nat × List Nat} {v1 v2 v3 : MV} (hc : code[ip]? = some (I_callV ci 3 sp)) (hn : ip + 1 = np) (h1 : shp[o]? = some (.inl q)) (h2 : q.1 = ci) (h3 : catS r ≤ 8) (k : sp [mr o, v1, v2, v3] M (fun v M2 => Z np ls (v.toList ++ r) M2)) : Z ip ls (v3 :: v2 :: v1 :: mr o :: r) M := by
  subst hn
  exact hZ.1 ip _ _ M _ hc ⟨[v1, v2, v3], o, r, q, rfl, rfl, h1, h2, h3, k⟩
theorem w_callS1 (hZ : Sim code Z Ret) (ip np : Nat) {sp : SP} {v1 : MV} (hc : code[ip]? = some (I_callS 1 sp)) (hn : ip + 1 = np) (h3 : catS r ≤ 8) (k : sp [v1] M (fun v M2 => Z np ls (v.toList ++ r) M2)) : Z ip ls (v1 :: r) M := by
  subst hn
  exact hZ.1 ip _ _ M _ hc ⟨[v1], r, rfl, rfl, h3, k⟩
theorem w_callS2 (hZ : Sim code Z Ret) (ip np : Nat) {sp : SP} {v1 v2 : MV} (hc : code[ip]? = some (I_callS 2 sp)) (hn : ip + 1 = np) (h3 : catS r ≤ 8) (k : sp [v1, v2] M (fun v M2 => Z np ls (v.toList ++ r) M2)) : Z ip ls (v2 :: v1 :: r) M := by
  subst hn
  exact hZ.1 ip _ _ M _ hc ⟨[v1, v2], r, rfl, rfl, h3, k⟩
theorem w_callS3 (hZ : Sim code Z Ret) (ip np : Nat) {sp : SP} {v1 v2 v3 : MV} (hc : code[ip]? = some (I_callS 3 sp)) (hn : ip + 1 = np) (h3 : catS r ≤ 8) (k : sp [v1, v2, v3] M (fun v M2 => Z np ls (v.toList ++ r) M2)) : Z ip ls (v3 :: v2 :: v1 :: r) M := by
  subst hn
  exact hZ.1 ip _ _ M _ hc ⟨[v1, v2, v3], r, rfl, rfl, h3, k⟩
theorem w_callS4 (hZ : Sim code Z Ret) (ip np : Nat) {sp : SP} {v1 v2 v3 v4 : MV} (hc : code[ip]? = some (I_callS 4 sp)) (hn : ip + 1 = np) (h3 : catS r ≤ 8) (k : sp [v1, v2, v3, v4] M (fun v M2 => Z np ls (v.toList ++ r) M2)) : Z ip ls (v4 :: v3 :: v2 :: v1 :: r) M := by
  subst hn
  exact hZ.1 ip _ _ M _ hc ⟨[v1, v2, v3, v4], r, rfl, rfl, h3, k⟩
theorem w_callS5 (hZ : Sim code Z Ret) (ip np : Nat) {sp : SP} {v1 v2 v3 v4 v5 : MV} (hc : code[ip]? = some (I_callS 5 sp)) (hn : ip + 1 = np) (h3 : catS r ≤ 8) (k : sp [v1, v2, v3, v4, v5] M (fun v M2 => Z np ls (v.toList ++ r) M2)) : Z ip ls (v5 :: v4 :: v3 :: v2 :: v1 :: r) M := by
  subst hn
  exact hZ.1 ip _ _ M _ hc ⟨[v1, v2, v3, v4, v5], r, rfl, rfl, h3, k⟩
theorem w_callV5 (hZ : Sim code Z Ret) (ip np : Nat) {o ci : Nat} {sp : SP} {q : Nat × List Nat} {v1 v2 v3 v4 v5 : MV} (hc : code[ip]? = some (I_callV ci 5 sp)) (hn : ip + 1 = np) (h1 : shp[o]? = some (.inl q)) (h2 : q.1 = ci) (h3 : catS r ≤ 8) (k : sp [mr o, v1, v2, v3, v4, v5] M (fun v M2 => Z np ls (v.toList ++ r) M2)) : Z ip ls (v5 :: v4 :: v3 :: v2 :: v1 :: mr o :: r) M := by
  subst hn
  exact hZ.1 ip _ _ M _ hc ⟨[v1, v2, v3, v4, v5], o, r, q, rfl, rfl, h1, h2, h3, k⟩
theorem w_iret (hZ : Sim code Z Ret) (ip : Nat) {z : Int} (hc : code[ip]? = some I_iret) (k : Ret (some (mi z)) M) : Z ip ls [mi z] M := hZ.1 ip _ _ M _ hc ⟨z, rfl, k⟩
theorem w_zret (hZ : Sim code Z Ret) (ip : Nat) {z : Int} (hc : code[ip]? = some I_zret) (h : z = 0 ∨ z = 1) (k : Ret (some (mi z)) M) : Z ip ls [mi z] M := hZ.1 ip _ _ M _ hc ⟨z, rfl, h, k⟩
theorem w_vret (hZ : Sim code Z Ret) (ip : Nat) (hc : code[ip]? = some I_vret) (k : Ret none M) : Z ip ls [] M := hZ.1 ip _ _ M _ hc ⟨rfl, k⟩
end ROWS
section ROWS2
variable {code : List Sem} {Z : KZ} {Ret : KR} {M : Mem} {r : List MV}
theorem gen_mem' {Ret : KR} {v : Option MV} {N0 : Mem} (P : Mem → Prop) (h : P N0) (k : ∀ N : Mem, P N → Ret v N) : Ret v N0 := k N0 h
theorem gen_mem {Z : KZ} {ip : Nat} {ls : List (Option MV)} {st : List MV} {N0 : Mem} (P : Mem → Prop) (h : P N0) (k : ∀ N : Mem, P N → Z ip ls st N) : Z ip ls st N0 := k N0 h
theorem ret_i {Ret : KR} {M : Mem} {z z2 : Int} (h : Ret (some (mi z)) M) (e : z = z2) : Ret (some (mi z2)) M := e ▸ h
theorem w_st2_0 (hZ : Sim code Z Ret) (ip np : Nat) {a0 a1 : Option MV} {z : Int} (hc : code[ip]? = some (I_istore 0)) (hn : ip + 1 = np) (h2 : noL [a0, a1] = true) (k : Z np [some (mi z), a1] r M) : Z ip [a0, a1] (mi z :: r) M := w_istore hZ ip np hc hn (Nat.le_of_ble_eq_true rfl) h2 rfl k
theorem w_in2_0 (hZ : Sim code Z Ret) (ip np : Nat) {a1 : Option MV} {z n : Int} (hc : code[ip]? = some (I_iinc 0 n)) (hn : ip + 1 = np) (h2 : noL [some (mi z), a1] = true) (h3 : InR (z + n)) (k : Z np [some (mi (z + n)), a1] r M) : Z ip [some (mi z), a1] r M := w_iinc hZ ip np hc hn rfl h2 h3 rfl k
theorem w_st2_1 (hZ : Sim code Z Ret) (ip np : Nat) {a0 a1 : Option MV} {z : Int} (hc : code[ip]? = some (I_istore 1)) (hn : ip + 1 = np) (h2 : noL [a0, a1] = true) (k : Z np [a0, some (mi z)] r M) : Z ip [a0, a1] (mi z :: r) M := w_istore hZ ip np hc hn (Nat.le_of_ble_eq_true rfl) h2 rfl k
theorem w_in2_1 (hZ : Sim code Z Ret) (ip np : Nat) {a0 : Option MV} {z n : Int} (hc : code[ip]? = some (I_iinc 1 n)) (hn : ip + 1 = np) (h2 : noL [a0, some (mi z)] = true) (h3 : InR (z + n)) (k : Z np [a0, some (mi (z + n))] r M) : Z ip [a0, some (mi z)] r M := w_iinc hZ ip np hc hn rfl h2 h3 rfl k
theorem w_st3_0 (hZ : Sim code Z Ret) (ip np : Nat) {a0 a1 a2 : Option MV} {z : Int} (hc : code[ip]? = some (I_istore 0)) (hn : ip + 1 = np) (h2 : noL [a0, a1, a2] = true) (k : Z np [some (mi z), a1, a2] r M) : Z ip [a0, a1, a2] (mi z :: r) M := w_istore hZ ip np hc hn (Nat.le_of_ble_eq_true rfl) h2 rfl k
theorem w_in3_0 (hZ : Sim code Z Ret) (ip np : Nat) {a1 a2 : Option MV} {z n : Int} (hc : code[ip]? = some (I_iinc 0 n)) (hn : ip + 1 = np) (h2 : noL [some (mi z), a1, a2] = true) (h3 : InR (z + n)) (k : Z np [some (mi (z + n)), a1, a2] r M) : Z ip [some (mi z), a1, a2] r M := w_iinc hZ ip np hc hn rfl h2 h3 rfl k
theorem w_st3_1 (hZ : Sim code Z Ret) (ip np : Nat) {a0 a1 a2 : Option MV} {z : Int} (hc : code[ip]? = some (I_istore 1)) (hn : ip + 1 = np) (h2 : noL [a0, a1, a2] = true) (k : Z np [a0, some (mi z), a2] r M) : Z ip [a0, a1, a2] (mi z :: r) M := w_istore hZ ip np hc hn (Nat.le_of_ble_eq_true rfl) h2 rfl k
theorem w_in3_1 (hZ : Sim code Z Ret) (ip np : Nat) {a0 a2 : Option MV} {z n : Int} (hc : code[ip]? = some (I_iinc 1 n)) (hn : ip + 1 = np) (h2 : noL [a0, some (mi z), a2] = true) (h3 : InR (z + n)) (k : Z np [a0, some (mi (z + n)), a2] r M) : Z ip [a0, some (mi z), a2] r M := w_iinc hZ ip np hc hn rfl h2 h3 rfl k
theorem w_st3_2 (hZ : Sim code Z Ret) (ip np : Nat) {a0 a1 a2 : Option MV} {z : Int} (hc : code[ip]? = some (I_istore 2)) (hn : ip + 1 = np) (h2 : noL [a0, a1, a2] = true) (k : Z np [a0, a1, some (mi z)] r M) : Z ip [a0, a1, a2] (mi z :: r) M := w_istore hZ ip np hc hn (Nat.le_of_ble_eq_true rfl) h2 rfl k
theorem w_in3_2 (hZ : Sim code Z Ret) (ip np : Nat) {a0 a1 : Option MV} {z n : Int} (hc : code[ip]? = some (I_iinc 2 n)) (hn : ip + 1 = np) (h2 : noL [a0, a1, some (mi z)] = true) (h3 : InR (z + n)) (k : Z np [a0, a1, some (mi (z + n))] r M) : Z ip [a0, a1, some (mi z)] r M := w_iinc hZ ip np hc hn rfl h2 h3 rfl k
theorem w_st4_0 (hZ : Sim code Z Ret) (ip np : Nat) {a0 a1 a2 a3 : Option MV} {z : Int} (hc : code[ip]? = some (I_istore 0)) (hn : ip + 1 = np) (h2 : noL [a0, a1, a2, a3] = true) (k : Z np [some (mi z), a1, a2, a3] r M) : Z ip [a0, a1, a2, a3] (mi z :: r) M := w_istore hZ ip np hc hn (Nat.le_of_ble_eq_true rfl) h2 rfl k
theorem w_in4_0 (hZ : Sim code Z Ret) (ip np : Nat) {a1 a2 a3 : Option MV} {z n : Int} (hc : code[ip]? = some (I_iinc 0 n)) (hn : ip + 1 = np) (h2 : noL [some (mi z), a1, a2, a3] = true) (h3 : InR (z + n)) (k : Z np [some (mi (z + n)), a1, a2, a3] r M) : Z ip [some (mi z), a1, a2, a3] r M := w_iinc hZ ip np hc hn rfl h2 h3 rfl k
theorem w_st4_1 (hZ : Sim code Z Ret) (ip np : Nat) {a0 a1 a2 a3 : Option MV} {z : Int} (hc : code[ip]? = some (I_istore 1)) (hn : ip + 1 = np) (h2 : noL [a0, a1, a2, a3] = true) (k : Z np [a0, some (mi z), a2, a3] r M) : Z ip [a0, a1, a2, a3] (mi z :: r) M := w_istore hZ ip np hc hn (Nat.le_of_ble_eq_true rfl) h2 rfl k
theorem w_in4_1 (hZ : Sim code Z Ret) (ip np : Nat) {a0 a2 a3 : Option MV} {z n : Int} (hc : code[ip]? = some (I_iinc 1 n)) (hn : ip + 1 = np) (h2 : noL [a0, some (mi z), a2, a3] = true) (h3 : InR (z + n)) (k : Z np [a0, some (mi (z + n)), a2, a3] r M) : Z ip [a0, some (mi z), a2, a3] r M := w_iinc hZ ip np hc hn rfl h2 h3 rfl k
theorem w_st4_2 (hZ : Sim code Z Ret) (ip np : Nat) {a0 a1 a2 a3 : Option MV} {z : Int} (hc : code[ip]? = some (I_istore 2)) (hn : ip + 1 = np) (h2 : noL [a0, a1, a2, a3] = true) (k : Z np [a0, a1, some (mi z), a3] r M) : Z ip [a0, a1, a2, a3] (mi z :: r) M := w_istore hZ ip np hc hn (Nat.le_of_ble_eq_true rfl) h2 rfl k
theorem w_in4_2 (hZ : Sim code Z Ret) (ip np : Nat) {a0 a1 a3 : Option MV} {z n : Int} (hc : code[ip]? = some (I_iinc 2 n)) (hn : ip + 1 = np) (h2 : noL [a0, a1, some (mi z), a3] = true) (h3 : InR (z + n)) (k : Z np [a0, a1, some (mi (z + n)), a3] r M) : Z ip [a0, a1, some (mi z), a3] r M := w_iinc hZ ip np hc hn rfl h2 h3 rfl k
theorem w_st4_3 (hZ : Sim code Z Ret) (ip np : Nat) {a0 a1 a2 a3 : Option MV} {z : Int} (hc : code[ip]? = some (I_istore 3)) (hn : ip + 1 = np) (h2 : noL [a0, a1, a2, a3] = true) (k : Z np [a0, a1, a2, some (mi z)] r M) : Z ip [a0, a1, a2, a3] (mi z :: r) M := w_istore hZ ip np hc hn (Nat.le_of_ble_eq_true rfl) h2 rfl k
theorem w_in4_3 (hZ : Sim code Z Ret) (ip np : Nat) {a0 a1 a2 : Option MV} {z n : Int} (hc : code[ip]? = some (I_iinc 3 n)) (hn : ip + 1 = np) (h2 : noL [a0, a1, a2, some (mi z)] = true) (h3 : InR (z + n)) (k : Z np [a0, a1, a2, some (mi (z + n))] r M) : Z ip [a0, a1, a2, some (mi z)] r M := w_iinc hZ ip np hc hn rfl h2 h3 rfl k
theorem w_st5_0 (hZ : Sim code Z Ret) (ip np : Nat) {a0 a1 a2 a3 a4 : Option MV} {z : Int} (hc : code[ip]? = some (I_istore 0)) (hn : ip + 1 = np) (h2 : noL [a0, a1, a2, a3, a4] = true) (k : Z np [some (mi z), a1, a2, a3, a4] r M) : Z ip [a0, a1, a2, a3, a4] (mi z :: r) M := w_istore hZ ip np hc hn (Nat.le_of_ble_eq_true rfl) h2 rfl k
theorem w_in5_0 (hZ : Sim code Z Ret) (ip np : Nat) {a1 a2 a3 a4 : Option MV} {z n : Int} (hc : code[ip]? = some (I_iinc 0 n)) (hn : ip + 1 = np) (h2 : noL [some (mi z), a1, a2, a3, a4] = true) (h3 : InR (z + n)) (k : Z np [some (mi (z + n)), a1, a2, a3, a4] r M) : Z ip [some (mi z), a1, a2, a3, a4] r M := w_iinc hZ ip np hc hn rfl h2 h3 rfl k
theorem w_st5_1 (hZ : Sim code Z Ret) (ip np : Nat) {a0 a1 a2 a3 a4 : Option MV} {z : Int} (hc : code[ip]? = some (I_istore 1)) (hn : ip + 1 = np) (h2 : noL [a0, a1, a2, a3, a4] = true) (k : Z np [a0, some (mi z), a2, a3, a4] r M) : Z ip [a0, a1, a2, a3, a4] (mi z :: r) M := w_istore hZ ip np hc hn (Nat.le_of_ble_eq_true rfl) h2 rfl k
theorem w_in5_1 (hZ : Sim code Z Ret) (ip np : Nat) {a0 a2 a3 a4 : Option MV} {z n : Int} (hc : code[ip]? = some (I_iinc 1 n)) (hn : ip + 1 = np) (h2 : noL [a0, some (mi z), a2, a3, a4] = true) (h3 : InR (z + n)) (k : Z np [a0, some (mi (z + n)), a2, a3, a4] r M) : Z ip [a0, some (mi z), a2, a3, a4] r M := w_iinc hZ ip np hc hn rfl h2 h3 rfl k
theorem w_st5_2 (hZ : Sim code Z Ret) (ip np : Nat) {a0 a1 a2 a3 a4 : Option MV} {z : Int} (hc : code[ip]? = some (I_istore 2)) (hn : ip + 1 = np) (h2 : noL [a0, a1, a2, a3, a4] = true) (k : Z np [a0, a1, some (mi z), a3, a4] r M) : Z ip [a0, a1, a2, a3, a4] (mi z :: r) M := w_istore hZ ip np hc hn (Nat.le_of_ble_eq_true rfl) h2 rfl k
theorem w_in5_2 (hZ : Sim code Z Ret) (ip np : Nat) {a0 a1 a3 a4 : Option MV} {z n : Int} (hc : code[ip]? = some (I_iinc 2 n)) (hn : ip + 1 = np) (h2 : noL [a0, a1, some (mi z), a3, a4] = true) (h3 : InR (z + n)) (k : Z np [a0, a1, some (mi (z + n)), a3, a4] r M) : Z ip [a0, a1, some (mi z), a3, a4] r M := w_iinc hZ ip np hc hn rfl h2 h3 rfl k
theorem w_st5_3 (hZ : Sim code Z Ret) (ip np : Nat) {a0 a1 a2 a3 a4 : Option MV} {z : Int} (hc : code[ip]? = some (I_istore 3)) (hn : ip + 1 = np) (h2 : noL [a0, a1, a2, a3, a4] = true) (k : Z np [a0, a1, a2, some (mi z), a4] r M) : Z ip [a0, a1, a2, a3, a4] (mi z :: r) M := w_istore hZ ip np hc hn (Nat.le_of_ble_eq_true rfl) h2 rfl k
theorem w_in5_3 (hZ : Sim code Z Ret) (ip np : Nat) {a0 a1 a2 a4 : Option MV} {z n : Int} (hc : code[ip]? = some (I_iinc 3 n)) (hn : ip + 1 = np) (h2 : noL [a0, a1, a2, some (mi z), a4] = true) (h3 : InR (z + n)) (k : Z np [a0, a1, a2, some (mi (z + n)), a4] r M) : Z ip [a0, a1, a2, some (mi z), a4] r M := w_iinc hZ ip np hc hn rfl h2 h3 rfl k
theorem w_st5_4 (hZ : Sim code Z Ret) (ip np : Nat) {a0 a1 a2 a3 a4 : Option MV} {z : Int} (hc : code[ip]? = some (I_istore 4)) (hn : ip + 1 = np) (h2 : noL [a0, a1, a2, a3, a4] = true) (k : Z np [a0, a1, a2, a3, some (mi z)] r M) : Z ip [a0, a1, a2, a3, a4] (mi z :: r) M := w_istore hZ ip np hc hn (Nat.le_of_ble_eq_true rfl) h2 rfl k
theorem w_in5_4 (hZ : Sim code Z Ret) (ip np : Nat) {a0 a1 a2 a3 : Option MV} {z n : Int} (hc : code[ip]? = some (I_iinc 4 n)) (hn : ip + 1 = np) (h2 : noL [a0, a1, a2, a3, some (mi z)] = true) (h3 : InR (z + n)) (k : Z np [a0, a1, a2, a3, some (mi (z + n))] r M) : Z ip [a0, a1, a2, a3, some (mi z)] r M := w_iinc hZ ip np hc hn rfl h2 h3 rfl k
theorem w_st6_0 (hZ : Sim code Z Ret) (ip np : Nat) {a0 a1 a2 a3 a4 a5 : Option MV} {z : Int} (hc : code[ip]? = some (I_istore 0)) (hn : ip + 1 = np) (h2 : noL [a0, a1, a2, a3, a4, a5] = true) (k : Z np [some (mi z), a1, a2, a3, a4, a5] r M) : Z ip [a0, a1, a2, a3, a4, a5] (mi z :: r) M := w_istore hZ ip np hc hn (Nat.le_of_ble_eq_true rfl) h2 rfl k
theorem w_in6_0 (hZ : Sim code Z Ret) (ip np : Nat) {a1 a2 a3 a4 a5 : Option MV} {z n : Int} (hc : code[ip]? = some (I_iinc 0 n)) (hn : ip + 1 = np) (h2 : noL [some (mi z), a1, a2, a3, a4, a5] = true) (h3 : InR (z + n)) (k : Z np [some (mi (z + n)), a1, a2, a3, a4, a5] r M) : Z ip [some (mi z), a1, a2, a3, a4, a5] r M := w_iinc hZ ip np hc hn rfl h2 h3 rfl k
theorem w_st6_1 (hZ : Sim code Z Ret) (ip np : Nat) {a0 a1 a2 a3 a4 a5 : Option MV} {z : Int} (hc : code[ip]? = some (I_istore 1)) (hn : ip + 1 = np) (h2 : noL [a0, a1, a2, a3, a4, a5] = true) (k : Z np [a0, some (mi z), a2, a3, a4, a5] r M) : Z ip [a0, a1, a2, a3, a4, a5] (mi z :: r) M := w_istore hZ ip np hc hn (Nat.le_of_ble_eq_true rfl) h2 rfl k
theorem w_in6_1 (hZ : Sim code Z Ret) (ip np : Nat) {a0 a2 a3 a4 a5 : Option MV} {z n : Int} (hc : code[ip]? = some (I_iinc 1 n)) (hn : ip + 1 = np) (h2 : noL [a0, some (mi z), a2, a3, a4, a5] = true) (h3 : InR (z + n)) (k : Z np [a0, some (mi (z + n)), a2, a3, a4, a5] r M) : Z ip [a0, some (mi z), a2, a3, a4, a5] r M := w_iinc hZ ip np hc hn rfl h2 h3 rfl k
theorem w_st6_2 (hZ : Sim code Z Ret) (ip np : Nat) {a0 a1 a2 a3 a4 a5 : Option MV} {z : Int} (hc : code[ip]? = some (I_istore 2)) (hn : ip + 1 = np) (h2 : noL [a0, a1, a2, a3, a4, a5] = true) (k : Z np [a0, a1, some (mi z), a3, a4, a5] r M) : Z ip [a0, a1, a2, a3, a4, a5] (mi z :: r) M := w_istore hZ ip np hc hn (Nat.le_of_ble_eq_true rfl) h2 rfl k
theorem w_in6_2 (hZ : Sim code Z Ret) (ip np : Nat) {a0 a1 a3 a4 a5 : Option MV} {z n : Int} (hc : code[ip]? = some (I_iinc 2 n)) (hn : ip + 1 = np) (h2 : noL [a0, a1, some (mi z), a3, a4, a5] = true) (h3 : InR (z + n)) (k : Z np [a0, a1, some (mi (z + n)), a3, a4, a5] r M) : Z ip [a0, a1, some (mi z), a3, a4, a5] r M := w_iinc hZ ip np hc hn rfl h2 h3 rfl k
theorem w_st6_3 (hZ : Sim code Z Ret) (ip np : Nat) {a0 a1 a2 a3 a4 a5 : Option MV} {z : Int} (hc : code[ip]? = some (I_istore 3)) (hn : ip + 1 = np) (h2 : noL [a0, a1, a2, a3, a4, a5] = true) (k : Z np [a0, a1, a2, some (mi z), a4, a5] r M) : Z ip [a0, a1, a2, a3, a4, a5] (mi z :: r) M := w_istore hZ ip np hc hn (Nat.le_of_ble_eq_true rfl) h2 rfl k
theorem w_in6_3 (hZ : Sim code Z Ret) (ip np : Nat) {a0 a1 a2 a4 a5 : Option MV} {z n : Int} (hc : code[ip]? = some (I_iinc 3 n)) (hn : ip + 1 = np) (h2 : noL [a0, a1, a2, some (mi z), a4, a5] = true) (h3 : InR (z + n)) (k : Z np [a0, a1, a2, some (mi (z + n)), a4, a5] r M) : Z ip [a0, a1, a2, some (mi z), a4, a5] r M := w_iinc hZ ip np hc hn rfl h2 h3 rfl k
theorem w_st6_4 (hZ : Sim code Z Ret) (ip np : Nat) {a0 a1 a2 a3 a4 a5 : Option MV} {z : Int} (hc : code[ip]? = some (I_istore 4)) (hn : ip + 1 = np) (h2 : noL [a0, a1, a2, a3, a4, a5] = true) (k : Z np [a0, a1, a2, a3, some (mi z), a5] r M) : Z ip [a0, a1, a2, a3, a4, a5] (mi z :: r) M := w_istore hZ ip np hc hn (Nat.le_of_ble_eq_true rfl) h2 rfl k
theorem w_in6_4 (hZ : Sim code Z Ret) (ip np : Nat) {a0 a1 a2 a3 a5 : Option MV} {z n : Int} (hc : code[ip]? = some (I_iinc 4 n)) (hn : ip + 1 = np) (h2 : noL [a0, a1, a2, a3, some (mi z), a5] = true) (h3 : InR (z + n)) (k : Z np [a0, a1, a2, a3, some (mi (z + n)), a5] r M) : Z ip [a0, a1, a2, a3, some (mi z), a5] r M := w_iinc hZ ip np hc hn rfl h2 h3 rfl k
theorem w_st6_5 (hZ : Sim code Z Ret) (ip np : Nat) {a0 a1 a2 a3 a4 a5 : Option MV} {z : Int} (hc : code[ip]? = some (I_istore 5)) (hn : ip + 1 = np) (h2 : noL [a0, a1, a2, a3, a4, a5] = true) (k : Z np [a0, a1, a2, a3, a4, some (mi z)] r M) : Z ip [a0, a1, a2, a3, a4, a5] (mi z :: r) M := w_istore hZ ip np hc hn (Nat.le_of_ble_eq_true rfl) h2 rfl k
theorem w_in6_5 (hZ : Sim code Z Ret) (ip np : Nat) {a0 a1 a2 a3 a4 : Option MV} {z n : Int} (hc : code[ip]? = some (I_iinc 5 n)) (hn : ip + 1 = np) (h2 : noL [a0, a1, a2, a3, a4, some (mi z)] = true) (h3 : InR (z + n)) (k : Z np [a0, a1, a2, a3, a4, some (mi (z + n))] r M) : Z ip [a0, a1, a2, a3, a4, some (mi z)] r M := w_iinc hZ ip np hc hn rfl h2 h3 rfl k
theorem w_st7_0 (hZ : Sim code Z Ret) (ip np : Nat) {a0 a1 a2 a3 a4 a5 a6 : Option MV} {z : Int} (hc : code[ip]? = some (I_istore 0)) (hn : ip + 1 = np) (h2 : noL [a0, a1, a2, a3, a4, a5, a6] = true) (k : Z np [some (mi z), a1, a2, a3, a4, a5, a6] r M) : Z ip [a0, a1, a2, a3, a4, a5, a6] (mi z :: r) M := w_istore hZ ip np hc hn (Nat.le_of_ble_eq_true rfl) h2 rfl k
theorem w_in7_0 (hZ : Sim code Z Ret) (ip np : Nat) {a1 a2 a3 a4 a5 a6 : Option MV} {z n : Int} (hc : code[ip]? = some (I_iinc 0 n)) (hn : ip + 1 = np) (h2 : noL [some (mi z), a1, a2, a3, a4, a5, a6] = true) (h3 : InR (z + n)) (k : Z np [some (mi (z + n)), a1, a2, a3, a4, a5, a6] r M) : Z ip [some (mi z), a1, a2, a3, a4, a5, a6] r M := w_iinc hZ ip np hc hn rfl h2 h3 rfl k
theorem w_st7_1 (hZ : Sim code Z Ret) (ip np : Nat) {a0 a1 a2 a3 a4 a5 a6 : Option MV} {z : Int} (hc : code[ip]? = some (I_istore 1)) (hn : ip + 1 = np) (h2 : noL [a0, a1, a2, a3, a4, a5, a6] = true) (k : Z np [a0, some (mi z), a2, a3, a4, a5, a6] r M) : Z ip [a0, a1, a2, a3, a4, a5, a6] (mi z :: r) M := w_istore hZ ip np hc hn (Nat.le_of_ble_eq_true rfl) h2 rfl k
theorem w_in7_1 (hZ : Sim code Z Ret) (ip np : Nat) {a0 a2 a3 a4 a5 a6 : Option MV} {z n : Int} (hc : code[ip]? = some (I_iinc 1 n)) (hn : ip + 1 = np) (h2 : noL [a0, some (mi z), a2, a3, a4, a5, a6] = true) (h3 : InR (z + n)) (k : Z np [a0, some (mi (z + n)), a2, a3, a4, a5, a6] r M) : Z ip [a0, some (mi z), a2, a3, a4, a5, a6] r M := w_iinc hZ ip np hc hn rfl h2 h3 rfl k
theorem w_st7_2 (hZ : Sim code Z Ret) (ip np : Nat) {a0 a1 a2 a3 a4 a5 a6 : Option MV} {z : Int} (hc : code[ip]? = some (I_istore 2)) (hn : ip + 1 = np) (h2 : noL [a0, a1, a2, a3, a4, a5, a6] = true) (k : Z np [a0, a1, some (mi z), a3, a4, a5, a6] r M) : Z ip [a0, a1, a2, a3, a4, a5, a6] (mi z :: r) M := w_istore hZ ip np hc hn (Nat.le_of_ble_eq_true rfl) h2 rfl k
theorem w_in7_2 (hZ : Sim code Z Ret) (ip np : Nat) {a0 a1 a3 a4 a5 a6 : Option MV} {z n : Int} (hc : code[ip]? = some (I_iinc 2 n)) (hn : ip + 1 = np) (h2 : noL [a0, a1, some (mi z), a3, a4, a5, a6] = true) (h3 : InR (z + n)) (k : Z np [a0, a1, some (mi (z + n)), a3, a4, a5, a6] r M) : Z ip [a0, a1, some (mi z), a3, a4, a5, a6] r M := w_iinc hZ ip np hc hn rfl h2 h3 rfl k
theorem w_st7_3 (hZ : Sim code Z Ret) (ip np : Nat) {a0 a1 a2 a3 a4 a5 a6 : Option MV} {z : Int} (hc : code[ip]? = some (I_istore 3)) (hn : ip + 1 = np) (h2 : noL [a0, a1, a2, a3, a4, a5, a6] = true) (k : Z np [a0, a1, a2, some (mi z), a4, a5, a6] r M) : Z ip [a0, a1, a2, a3, a4, a5, a6] (mi z :: r) M := w_istore hZ ip np hc hn (Nat.le_of_ble_eq_true rfl) h2 rfl k
theorem w_in7_3 (hZ : Sim code Z Ret) (ip np : Nat) {a0 a1 a2 a4 a5 a6 : Option MV} {z n : Int} (hc : code[ip]? = some (I_iinc 3 n)) (hn : ip + 1 = np) (h2 : noL [a0, a1, a2, some (mi z), a4, a5, a6] = true) (h3 : InR (z + n)) (k : Z np [a0, a1, a2, some (mi (z + n)), a4, a5, a6] r M) : Z ip [a0, a1, a2, some (mi z), a4, a5, a6] r M := w_iinc hZ ip np hc hn rfl h2 h3 rfl k
theorem w_st7_4 (hZ : Sim code Z Ret) (ip np : Nat) {a0 a1 a2 a3 a4 a5 a6 : Option MV} {z : Int} (hc : code[ip]? = some (I_istore 4)) (hn : ip + 1 = np) (h2 : noL [a0, a1, a2, a3, a4, a5, a6] = true) (k : Z np [a0, a1, a2, a3, some (mi z), a5, a6] r M) : Z ip [a0, a1, a2, a3, a4, a5, a6] (mi z :: r) M := w_istore hZ ip np hc hn (Nat.le_of_ble_eq_true rfl) h2 rfl k
theorem w_in7_4 (hZ : Sim code Z Ret) (ip np : Nat) {a0 a1 a2 a3 a5 a6 : Option MV} {z n : Int} (hc : code[ip]? = some (I_iinc 4 n)) (hn : ip + 1 = np) (h2 : noL [a0, a1, a2, a3, some (mi z), a5, a6] = true) (h3 : InR (z + n)) (k : Z np [a0, a1, a2, a3, some (mi (z + n)), a5, a6] r M) : Z ip [a0, a1, a2, a3, some (mi z), a5, a6] r M := w_iinc hZ ip np hc hn rfl h2 h3 rfl k
theorem w_st7_5 (hZ : Sim code Z Ret) (ip np : Nat) {a0 a1 a2 a3 a4 a5 a6 : Option MV} {z : Int} (hc : code[ip]? = some (I_istore 5)) (hn : ip + 1 = np) (h2 : noL [a0, a1, a2, a3, a4, a5, a6] = true) (k : Z np [a0, a1, a2, a3, a4, some (mi z), a6] r M) : Z ip [a0, a1, a2, a3, a4, a5, a6] (mi z :: r) M := w_istore hZ ip np hc hn (Nat.le_of_ble_eq_true rfl) h2 rfl k
theorem w_in7_5 (hZ : Sim code Z Ret) (ip np : Nat) {a0 a1 a2 a3 a4 a6 : Option MV} {z n : Int} (hc : code[ip]? = some (I_iinc 5 n)) (hn : ip + 1 = np) (h2 : noL [a0, a1, a2, a3, a4, some (mi z), a6] = true) (h3 : InR (z + n)) (k : Z np [a0, a1, a2, a3, a4, some (mi (z + n)), a6] r M) : Z ip [a0, a1, a2, a3, a4, some (mi z), a6] r M := w_iinc hZ ip np hc hn rfl h2 h3 rfl k
theorem w_st7_6 (hZ : Sim code Z Ret) (ip np : Nat) {a0 a1 a2 a3 a4 a5 a6 : Option MV} {z : Int} (hc : code[ip]? = some (I_istore 6)) (hn : ip + 1 = np) (h2 : noL [a0, a1, a2, a3, a4, a5, a6] = true) (k : Z np [a0, a1, a2, a3, a4, a5, some (mi z)] r M) : Z ip [a0, a1, a2, a3, a4, a5, a6] (mi z :: r) M := w_istore hZ ip np hc hn (Nat.le_of_ble_eq_true rfl) h2 rfl k
theorem w_in7_6 (hZ : Sim code Z Ret) (ip np : Nat) {a0 a1 a2 a3 a4 a5 : Option MV} {z n : Int} (hc : code[ip]? = some (I_iinc 6 n)) (hn : ip + 1 = np) (h2 : noL [a0, a1, a2, a3, a4, a5, some (mi z)] = true) (h3 : InR (z + n)) (k : Z np [a0, a1, a2, a3, a4, a5, some (mi (z + n))] r M) : Z ip [a0, a1, a2, a3, a4, a5, some (mi z)] r M := w_iinc hZ ip np hc hn rfl h2 h3 rfl k
theorem w_st8_0 (hZ : Sim code Z Ret) (ip np : Nat) {a0 a1 a2 a3 a4 a5 a6 a7 : Option MV} {z : Int} (hc : code[ip]? = some (I_istore 0)) (hn : ip + 1 = np) (h2 : noL [a0, a1, a2, a3, a4, a5, a6, a7] = true) (k : Z np [some (mi z), a1, a2, a3, a4, a5, a6, a7] r M) : Z ip [a0, a1, a2, a3, a4, a5, a6, a7] (mi z :: r) M := w_istore hZ ip np hc hn (Nat.le_of_ble_eq_true rfl) h2 rfl k
theorem w_in8_0 (hZ : Sim code Z Ret) (ip np : Nat) {a1 a2 a3 a4 a5 a6 a7 : Option MV} {z n : Int} (hc : code[ip]? = some (I_iinc 0 n)) (hn : ip + 1 = np) (h2 : noL [some (mi z), a1, a2, a3, a4, a5, a6, a7] = true) (h3 : InR (z + n)) (k : Z np [some (mi (z + n)), a1, a2, a3, a4, a5, a6, a7] r M) : Z ip [some (mi z), a1, a2, a3, a4, a5, a6, a7] r M := w_iinc hZ ip np hc hn rfl h2 h3 rfl k
theorem w_st8_1 (hZ : Sim code Z Ret) (ip np : Nat) {a0 a1 a2 a3 a4 a5 a6 a7 : Option MV} {z : Int} (hc : code[ip]? = some (I_istore 1)) (hn : ip + 1 = np) (h2 : noL [a0, a1, a2, a3, a4, a5, a6, a7] = true) (k : Z np [a0, some (mi z), a2, a3, a4, a5, a6, a7] r M) : Z ip [a0, a1, a2, a3, a4, a5, a6, a7] (mi z :: r) M := w_istore hZ ip np hc hn (Nat.le_of_ble_eq_true rfl) h2 rfl k
theorem w_in8_1 (hZ : Sim code Z Ret) (ip np : Nat) {a0 a2 a3 a4 a5 a6 a7 : Option MV} {z n : Int} (hc : code[ip]? = some (I_iinc 1 n)) (hn : ip + 1 = np) (h2 : noL [a0, some (mi z), a2, a3, a4, a5, a6, a7] = true) (h3 : InR (z + n)) (k : Z np [a0, some (mi (z + n)), a2, a3, a4, a5, a6, a7] r M) : Z ip [a0, some (mi z), a2, a3, a4, a5, a6, a7] r M := w_iinc hZ ip np hc hn rfl h2 h3 rfl k
theorem w_st8_2 (hZ : Sim code Z Ret) (ip np : Nat) {a0 a1 a2 a3 a4 a5 a6 a7 : Option MV} {z : Int} (hc : code[ip]? = some (I_istore 2)) (hn : ip + 1 = np) (h2 : noL [a0, a1, a2, a3, a4, a5, a6, a7] = true) (k : Z np [a0, a1, some (mi z), a3, a4, a5, a6, a7] r M) : Z ip [a0, a1, a2, a3, a4, a5, a6, a7] (mi z :: r) M := w_istore hZ ip np hc hn (Nat.le_of_ble_eq_true rfl) h2 rfl k
theorem w_in8_2 (hZ : Sim code Z Ret) (ip np : Nat) {a0 a1 a3 a4 a5 a6 a7 : Option MV} {z n : Int} (hc : code[ip]? = some (I_iinc 2 n)) (hn : ip + 1 = np) (h2 : noL [a0, a1, some (mi z), a3, a4, a5, a6, a7] = true) (h3 : InR (z + n)) (k : Z np [a0, a1, some (mi (z + n)), a3, a4, a5, a6, a7] r M) : Z ip [a0, a1, some (mi z), a3, a4, a5, a6, a7] r M := w_iinc hZ ip np hc hn rfl h2 h3 rfl k
theorem w_st8_3 (hZ : Sim code Z Ret) (ip np : Nat) {a0 a1 a2 a3 a4 a5 a6 a7 : Option MV} {z : Int} (hc : code[ip]? = some (I_istore 3)) (hn : ip + 1 = np) (h2 : noL [a0, a1, a2, a3, a4, a5, a6, a7] = true) (k : Z np [a0, a1, a2, some (mi z), a4, a5, a6, a7] r M) : Z ip [a0, a1, a2, a3, a4, a5, a6, a7] (mi z :: r) M := w_istore hZ ip np hc hn (Nat.le_of_ble_eq_true rfl) h2 rfl k
theorem w_in8_3 (hZ : Sim code Z Ret) (ip np : Nat) {a0 a1 a2 a4 a5 a6 a7 : Option MV} {z n : Int} (hc : code[ip]? = some (I_iinc 3 n)) (hn : ip + 1 = np) (h2 : noL [a0, a1, a2, some (mi z), a4, a5, a6, a7] = true) (h3 : InR (z + n)) (k : Z np [a0, a1, a2, some (mi (z + n)), a4, a5, a6, a7] r M) : Z ip [a0, a1, a2, some (mi z), a4, a5, a6, a7] r M := w_iinc hZ ip np hc hn rfl h2 h3 rfl k
theorem w_st8_4 (hZ : Sim code Z Ret) (ip np : Nat) {a0 a1 a2 a3 a4 a5 a6 a7 : Option MV} {z : Int} (hc : code[ip]? = some (I_istore 4)) (hn : ip + 1 = np) (h2 : noL [a0, a1, a2, a3, a4, a5, a6, a7] = true) (k : Z np [a0, a1, a2, a3, some (mi z), a5, a6, a7] r M) : Z ip [a0, a1, a2, a3, a4, a5, a6, a7] (mi z :: r) M := w_istore hZ ip np hc hn (Nat.le_of_ble_eq_true rfl) h2 rfl k
theorem w_in8_4 (hZ : Sim code Z Ret) (ip np : Nat) {a0 a1 a2 a3 a5 a6 a7 : Option MV} {z n : Int} (hc : code[ip]? = some (I_iinc 4 n)) (hn : ip + 1 = np) (h2 : noL [a0, a1, a2, a3, some (mi z), a5, a6, a7] = true) (h3 : InR (z + n)) (k : Z np [a0, a1, a2, a3, some (mi (z + n)), a5, a6, a7] r M) : Z ip [a0, a1, a2, a3, some (mi z), a5, a6, a7] r M := w_iinc hZ ip np hc hn rfl h2 h3 rfl k
theorem w_st8_5 (hZ : Sim code Z Ret) (ip np : Nat) {a0 a1 a2 a3 a4 a5 a6 a7 : Option MV} {z : Int} (hc : code[ip]? = some (I_istore 5)) (hn : ip + 1 = np) (h2 : noL [a0, a1, a2, a3, a4, a5, a6, a7] = true) (k : Z np [a0, a1, a2, a3, a4, some (mi z), a6, a7] r M) : Z ip [a0, a1, a2, a3, a4, a5, a6, a7] (mi z :: r) M := w_istore hZ ip np hc hn (Nat.le_of_ble_eq_true rfl) h2 rfl k
theorem w_in8_5 (hZ : Sim code Z Ret) (ip np : Nat) {a0 a1 a2 a3 a4 a6 a7 : Option MV} {z n : Int} (hc : code[ip]? = some (I_iinc 5 n)) (hn : ip + 1 = np) (h2 : noL [a0, a1, a2, a3, a4, some (mi z), a6, a7] = true) (h3 : InR (z + n)) (k : Z np [a0, a1, a2, a3, a4, some (mi (z + n)), a6, a7] r M) : Z ip [a0, a1, a2, a3, a4, some (mi z), a6, a7] r M := w_iinc hZ ip np hc hn rfl h2 h3 rfl k
theorem w_st8_6 (hZ : Sim code Z Ret) (ip np : Nat) {a0 a1 a2 a3 a4 a5 a6 a7 : Option MV} {z : Int} (hc : code[ip]? = some (I_istore 6)) (hn : ip + 1 = np) (h2 : noL [a0, a1, a2, a3, a4, a5, a6, a7] = true) (k : Z np [a0, a1, a2, a3, a4, a5, some (mi z), a7] r M) : Z ip [a0, a1, a2, a3, a4, a5, a6, a7] (mi z :: r) M := w_istore hZ ip np hc hn (Nat.le_of_ble_eq_true rfl) h2 rfl k
theorem w_in8_6 (hZ : Sim code Z Ret) (ip np : Nat) {a0 a1 a2 a3 a4 a5 a7 : Option MV} {z n : Int} (hc : code[ip]? = some (I_iinc 6 n)) (hn : ip + 1 = np) (h2 : noL [a0, a1, a2, a3, a4, a5, some (mi z), a7] = true) (h3 : InR (z + n)) (k : Z np [a0, a1, a2, a3, a4, a5, some (mi (z + n)), a7] r M) : Z ip [a0, a1, a2, a3, a4, a5, some (mi z), a7] r M := w_iinc hZ ip np hc hn rfl h2 h3 rfl k
theorem w_st8_7 (hZ : Sim code Z Ret) (ip np : Nat) {a0 a1 a2 a3 a4 a5 a6 a7 : Option MV} {z : Int} (hc : code[ip]? = some (I_istore 7)) (hn : ip + 1 = np) (h2 : noL [a0, a1, a2, a3, a4, a5, a6, a7] = true) (k : Z np [a0, a1, a2, a3, a4, a5, a6, some (mi z)] r M) : Z ip [a0, a1, a2, a3, a4, a5, a6, a7] (mi z :: r) M := w_istore hZ ip np hc hn (Nat.le_of_ble_eq_true rfl) h2 rfl k
theorem w_in8_7 (hZ : Sim code Z Ret) (ip np : Nat) {a0 a1 a2 a3 a4 a5 a6 : Option MV} {z n : Int} (hc : code[ip]? = some (I_iinc 7 n)) (hn : ip + 1 = np) (h2 : noL [a0, a1, a2, a3, a4, a5, a6, some (mi z)] = true) (h3 : InR (z + n)) (k : Z np [a0, a1, a2, a3, a4, a5, a6, some (mi (z + n))] r M) : Z ip [a0, a1, a2, a3, a4, a5, a6, some (mi z)] r M := w_iinc hZ ip np hc hn rfl h2 h3 rfl k
theorem w_st9_0 (hZ : Sim code Z Ret) (ip np : Nat) {a0 a1 a2 a3 a4 a5 a6 a7 a8 : Option MV} {z : Int} (hc : code[ip]? = some (I_istore 0)) (hn : ip + 1 = np) (h2 : noL [a0, a1, a2, a3, a4, a5, a6, a7, a8] = true) (k : Z np [some (mi z), a1, a2, a3, a4, a5, a6, a7, a8] r M) : Z ip [a0, a1, a2, a3, a4, a5, a6, a7, a8] (mi z :: r) M := w_istore hZ ip np hc hn (Nat.le_of_ble_eq_true rfl) h2 rfl k
theorem w_in9_0 (hZ : Sim code Z Ret) (ip np : Nat) {a1 a2 a3 a4 a5 a6 a7 a8 : Option MV} {z n : Int} (hc : code[ip]? = some (I_iinc 0 n)) (hn : ip + 1 = np) (h2 : noL [some (mi z), a1, a2, a3, a4, a5, a6, a7, a8] = true) (h3 : InR (z + n)) (k : Z np [some (mi (z + n)), a1, a2, a3, a4, a5, a6, a7, a8] r M) : Z ip [some (mi z), a1, a2, a3, a4, a5, a6, a7, a8] r M := w_iinc hZ ip np hc hn rfl h2 h3 rfl k
theorem w_st9_1 (hZ : Sim code Z Ret) (ip np : Nat) {a0 a1 a2 a3 a4 a5 a6 a7 a8 : Option MV} {z : Int} (hc : code[ip]? = some (I_istore 1)) (hn : ip + 1 = np) (h2 : noL [a0, a1, a2, a3, a4, a5, a6, a7, a8] = true) (k : Z np [a0, some (mi z), a2, a3, a4, a5, a6, a7, a8] r M) : Z ip [a0, a1, a2, a3, a4, a5, a6, a7, a8] (mi z :: r) M := w_istore hZ ip np hc hn (Nat.le_of_ble_eq_true rfl) h2 rfl k
theorem w_in9_1 (hZ : Sim code Z Ret) (ip np : Nat) {a0 a2 a3 a4 a5 a6 a7 a8 : Option MV} {z n : Int} (hc : code[ip]? = some (I_iinc 1 n)) (hn : ip + 1 = np) (h2 : noL [a0, some (mi z), a2, a3, a4, a5, a6, a7, a8] = true) (h3 : InR (z + n)) (k : Z np [a0, some (mi (z + n)), a2, a3, a4, a5, a6, a7, a8] r M) : Z ip [a0, some (mi z), a2, a3, a4, a5, a6, a7, a8] r M := w_iinc hZ ip np hc hn rfl h2 h3 rfl k
theorem w_st9_2 (hZ : Sim code Z Ret) (ip np : Nat) {a0 a1 a2 a3 a4 a5 a6 a7 a8 : Option MV} {z : Int} (hc : code[ip]? = some (I_istore 2)) (hn : ip + 1 = np) (h2 : noL [a0, a1, a2, a3, a4, a5, a6, a7, a8] = true) (k : Z np [a0, a1, some (mi z), a3, a4, a5, a6, a7, a8] r M) : Z ip [a0, a1, a2, a3, a4, a5, a6, a7, a8] (mi z :: r) M := w_istore hZ ip np hc hn (Nat.le_of_ble_eq_true rfl) h2 rfl k
theorem w_in9_2 (hZ : Sim code Z Ret) (ip np : Nat) {a0 a1 a3 a4 a5 a6 a7 a8 : Option MV} {z n : Int} (hc : code[ip]? = some (I_iinc 2 n)) (hn : ip + 1 = np) (h2 : noL [a0, a1, some (mi z), a3, a4, a5, a6, a7, a8] = true) (h3 : InR (z + n)) (k : Z np [a0, a1, some (mi (z + n)), a3, a4, a5, a6, a7, a8] r M) : Z ip [a0, a1, some (mi z), a3, a4, a5, a6, a7, a8] r M := w_iinc hZ ip np hc hn rfl h2 h3 rfl k
theorem w_st9_3 (hZ : Sim code Z Ret) (ip np : Nat) {a0 a1 a2 a3 a4 a5 a6 a7 a8 : Option MV} {z : Int} (hc : code[ip]? = some (I_istore 3)) (hn : ip + 1 = np) (h2 : noL [a0, a1, a2, a3, a4, a5, a6, a7, a8] = true) (k : Z np [a0, a1, a2, some (mi z), a4, a5, a6, a7, a8] r M) : Z ip [a0, a1, a2, a3, a4, a5, a6, a7, a8] (mi z :: r) M := w_istore hZ ip np hc hn (Nat.le_of_ble_eq_true rfl) h2 rfl k
theorem w_in9_3 (hZ : Sim code Z Ret) (ip np : Nat) {a0 a1 a2 a4 a5 a6 a7 a8 : Option MV} {z n : Int} (hc : code[ip]? = some (I_iinc 3 n)) (hn : ip + 1 = np) (h2 : noL [a0, a1, a2, some (mi z), a4, a5, a6, a7, a8] = true) (h3 : InR (z + n)) (k : Z np [a0, a1, a2, some (mi (z + n)), a4, a5, a6, a7, a8] r M) : Z ip [a0, a1, a2, some (mi z), a4, a5, a6, a7, a8] r M := w_iinc hZ ip np hc hn rfl h2 h3 rfl k
theorem w_st9_4 (hZ : Sim code Z Ret) (ip np : Nat) {a0 a1 a2 a3 a4 a5 a6 a7 a8 : Option MV} {z : Int} (hc : code[ip]? = some (I_istore 4)) (hn : ip + 1 = np) (h2 : noL [a0, a1, a2, a3, a4, a5, a6, a7, a8] = true) (k : Z np [a0, a1, a2, a3, some (mi z), a5, a6, a7, a8] r M) : Z ip [a0, a1, a2, a3, a4, a5, a6, a7, a8] (mi z :: r) M := w_istore hZ ip np hc hn (Nat.le_of_ble_eq_true rfl) h2 rfl k
theorem w_in9_4 (hZ : Sim code Z Ret) (ip np : Nat) {a0 a1 a2 a3 a5 a6 a7 a8 : Option MV} {z n : Int} (hc : code[ip]? = some (I_iinc 4 n)) (hn : ip + 1 = np) (h2 : noL [a0, a1, a2, a3, some (mi z), a5, a6, a7, a8] = true) (h3 : InR (z + n)) (k : Z np [a0, a1, a2, a3, some (mi (z + n)), a5, a6, a7, a8] r M) : Z ip [a0, a1, a2, a3, some (mi z), a5, a6, a7, a8] r M := w_iinc hZ ip np hc hn rfl h2 h3 rfl k
theorem w_st9_5 (hZ : Sim code Z Ret) (ip np : Nat) {a0 a1 a2 a3 a4 a5 a6 a7 a8 : Option MV} {z : Int} (hc : code[ip]? = some (I_istore 5)) (hn : ip + 1 = np) (h2 : noL [a0, a1, a2, a3, a4, a5, a6, a7, a8] = true) (k : Z np [a0, a1, a2, a3, a4, some (mi z), a6, a7, a8] r M) : Z ip [a0, a1, a2, a3, a4, a5, a6, a7, a8] (mi z :: r) M := w_istore hZ ip np hc hn (Nat.le_of_ble_eq_true rfl) h2 rfl k
theorem w_in9_5 (hZ : Sim code Z Ret) (ip np : Nat) {a0 a1 a2 a3 a4 a6 a7 a8 : Option MV} {z n : Int} (hc : code[ip]? = some (I_iinc 5 n)) (hn : ip + 1 = np) (h2 : noL [a0, a1, a2, a3, a4, some (mi z), a6, a7, a8] = true) (h3 : InR (z + n)) (k : Z np [a0, a1, a2, a3, a4, some (mi (z + n)), a6, a7, a8] r M) : Z ip [a0, a1, a2, a3, a4, some (mi z), a6, a7, a8] r M := w_iinc hZ ip np hc hn rfl h2 h3 rfl k
theorem w_st9_6 (hZ : Sim code Z Ret) (ip np : Nat) {a0 a1 a2 a3 a4 a5 a6 a7 a8 : Option MV} {z : Int} (hc : code[ip]? = some (I_istore 6)) (hn : ip + 1 = np) (h2 : noL [a0, a1, a2, a3, a4, a5, a6, a7, a8] = true) (k : Z np [a0, a1, a2, a3, a4, a5, some (mi z), a7, a8] r M) : Z ip [a0, a1, a2, a3, a4, a5, a6, a7, a8] (mi z :: r) M := w_istore hZ ip np hc hn (Nat.le_of_ble_eq_true rfl) h2 rfl k
theorem w_in9_6 (hZ : Sim code Z Ret) (ip np : Nat) {a0 a1 a2 a3 a4 a5 a7 a8 : Option MV} {z n : Int} (hc : code[ip]? = some (I_iinc 6 n)) (hn : ip + 1 = np) (h2 : noL [a0, a1, a2, a3, a4, a5, some (mi z), a7, a8] = true) (h3 : InR (z + n)) (k : Z np [a0, a1, a2, a3, a4, a5, some (mi (z + n)), a7, a8] r M) : Z ip [a0, a1, a2, a3, a4, a5, some (mi z), a7, a8] r M := w_iinc hZ ip np hc hn rfl h2 h3 rfl k
theorem w_st9_7 (hZ : Sim code Z Ret) (ip np : Nat) {a0 a1 a2 a3 a4 a5 a6 a7 a8 : Option MV} {z : Int} (hc : code[ip]? = some (I_istore 7)) (hn : ip + 1 = np) (h2 : noL [a0, a1, a2, a3, a4, a5, a6, a7, a8] = true) (k : Z np [a0, a1, a2, a3, a4, a5, a6, some (mi z), a8] r M) : Z ip [a0, a1, a2, a3, a4, a5, a6, a7, a8] (mi z :: r) M := w_istore hZ ip np hc hn (Nat.le_of_ble_eq_true rfl) h2 rfl k
theorem w_in9_7 (hZ : Sim code Z Ret) (ip np : Nat) {a0 a1 a2 a3 a4 a5 a6 a8 : Option MV} {z n : Int} (hc : code[ip]? = some (I_iinc 7 n)) (hn : ip + 1 = np) (h2 : noL [a0, a1, a2, a3, a4, a5, a6, some (mi z), a8] = true) (h3 : InR (z + n)) (k : Z np [a0, a1, a2, a3, a4, a5, a6, some (mi (z + n)), a8] r M) : Z ip [a0, a1, a2, a3, a4, a5, a6, some (mi z), a8] r M := w_iinc hZ ip np hc hn rfl h2 h3 rfl k
theorem w_st9_8 (hZ : Sim code Z Ret) (ip np : Nat) {a0 a1 a2 a3 a4 a5 a6 a7 a8 : Option MV} {z : Int} (hc : code[ip]? = some (I_istore 8)) (hn : ip + 1 = np) (h2 : noL [a0, a1, a2, a3, a4, a5, a6, a7, a8] = true) (k : Z np [a0, a1, a2, a3, a4, a5, a6, a7, some (mi z)] r M) : Z ip [a0, a1, a2, a3, a4, a5, a6, a7, a8] (mi z :: r) M := w_istore hZ ip np hc hn (Nat.le_of_ble_eq_true rfl) h2 rfl k
theorem w_in9_8 (hZ : Sim code Z Ret) (ip np : Nat) {a0 a1 a2 a3 a4 a5 a6 a7 : Option MV} {z n : Int} (hc : code[ip]? = some (I_iinc 8 n)) (hn : ip + 1 = np) (h2 : noL [a0, a1, a2, a3, a4, a5, a6, a7, some (mi z)] = true) (h3 : InR (z + n)) (k : Z np [a0, a1, a2, a3, a4, a5, a6, a7, some (mi (z + n))] r M) : Z ip [a0, a1, a2, a3, a4, a5, a6, a7, some (mi z)] r M := w_iinc hZ ip np hc hn rfl h2 h3 rfl k
theorem w_st10_0 (hZ : Sim code Z Ret) (ip np : Nat) {a0 a1 a2 a3 a4 a5 a6 a7 a8 a9 : Option MV} {z : Int} (hc : code[ip]? = some (I_istore 0)) (hn : ip + 1 = np) (h2 : noL [a0, a1, a2, a3, a4, a5, a6, a7, a8, a9] = true) (k : Z np [some (mi z), a1, a2, a3, a4, a5, a6, a7, a8, a9] r M) : Z ip [a0, a1, a2, a3, a4, a5, a6, a7, a8, a9] (mi z :: r) M := w_istore hZ ip np hc hn (Nat.le_of_ble_eq_true rfl) h2 rfl k
theorem w_in10_0 (hZ : Sim code Z Ret) (ip np : Nat) {a1 a2 a3 a4 a5 a6 a7 a8 a9 : Option MV} {z n : Int} (hc : code[ip]? = some (I_iinc 0 n)) (hn : ip + 1 = np) (h2 : noL [some (mi z), a1, a2, a3, a4, a5, a6, a7, a8, a9] = true) (h3 : InR (z + n)) (k : Z np [some (mi (z + n)), a1, a2, a3, a4, a5, a6, a7, a8, a9] r M) : Z ip [some (mi z), a1, a2, a3, a4, a5, a6, a7, a8, a9] r M := w_iinc hZ ip np hc hn rfl h2 h3 rfl k
theorem w_st10_1 (hZ : Sim code Z Ret) (ip np : Nat) {a0 a1 a2 a3 a4 a5 a6 a7 a8 a9 : Option MV} {z : Int} (hc : code[ip]? = some (I_istore 1)) (hn : ip + 1 = np) (h2 : noL [a0, a1, a2, a3, a4, a5, a6, a7, a8, a9] = true) (k : Z np [a0, some (mi z), a2, a3, a4, a5, a6, a7, a8, a9] r M) : Z ip [a0, a1, a2, a3, a4, a5, a6, a7, a8, a9] (mi z :: r) M := w_istore hZ ip np hc hn (Nat.le_of_ble_eq_true rfl) h2 rfl k
theorem w_in10_1 (hZ : Sim code Z Ret) (ip np : Nat) {a0 a2 a3 a4 a5 a6 a7 a8 a9 : Option MV} {z n : Int} (hc : code[ip]? = some (I_iinc 1 n)) (hn : ip + 1 = np) (h2 : noL [a0, some (mi z), a2, a3, a4, a5, a6, a7, a8, a9] = true) (h3 : InR (z + n)) (k : Z np [a0, some (mi (z + n)), a2, a3, a4, a5, a6, a7, a8, a9] r M) : Z ip [a0, some (mi z), a2, a3, a4, a5, a6, a7, a8, a9] r M := w_iinc hZ ip np hc hn rfl h2 h3 rfl k
theorem w_st10_2 (hZ : Sim code Z Ret) (ip np : Nat) {a0 a1 a2 a3 a4 a5 a6 a7 a8 a9 : Option MV} {z : Int} (hc : code[ip]? = some (I_istore 2)) (hn : ip + 1 = np) (h2 : noL [a0, a1, a2, a3, a4, a5, a6, a7, a8, a9] = true) (k : Z np [a0, a1, some (mi z), a3, a4, a5, a6, a7, a8, a9] r M) : Z ip [a0, a1, a2, a3, a4, a5, a6, a7, a8, a9] (mi z :: r) M := w_istore hZ ip np hc hn (Nat.le_of_ble_eq_true rfl) h2 rfl k
theorem w_in10_2 (hZ : Sim code Z Ret) (ip np : Nat) {a0 a1 a3 a4 a5 a6 a7 a8 a9 : Option MV} {z n : Int} (hc : code[ip]? = some (I_iinc 2 n)) (hn : ip + 1 = np) (h2 : noL [a0, a1, some (mi z), a3, a4, a5, a6, a7, a8, a9] = true) (h3 : InR (z + n)) (k : Z np [a0, a1, some (mi (z + n)), a3, a4, a5, a6, a7, a8, a9] r M) : Z ip [a0, a1, some (mi z), a3, a4, a5, a6, a7, a8, a9] r M := w_iinc hZ ip np hc hn rfl h2 h3 rfl k
theorem w_st10_3 (hZ : Sim code Z Ret) (ip np : Nat) {a0 a1 a2 a3 a4 a5 a6 a7 a8 a9 : Option MV} {z : Int} (hc : code[ip]? = some (I_istore 3)) (hn : ip + 1 = np) (h2 : noL [a0, a1, a2, a3, a4, a5, a6, a7, a8, a9] = true) (k : Z np [a0, a1, a2, some (mi z), a4, a5, a6, a7, a8, a9] r M) : Z ip [a0, a1, a2, a3, a4, a5, a6, a7, a8, a9] (mi z :: r) M := w_istore hZ ip np hc hn (Nat.le_of_ble_eq_true rfl) h2 rfl k
theorem w_in10_3 (hZ : Sim code Z Ret) (ip np : Nat) {a0 a1 a2 a4 a5 a6 a7 a8 a9 : Option MV} {z n : Int} (hc : code[ip]? = some (I_iinc 3 n)) (hn : ip + 1 = np) (h2 : noL [a0, a1, a2, some (mi z), a4, a5, a6, a7, a8, a9] = true) (h3 : InR (z + n)) (k : Z np [a0, a1, a2, some (mi (z + n)), a4, a5, a6, a7, a8, a9] r M) : Z ip [a0, a1, a2, some (mi z), a4, a5, a6, a7, a8, a9] r M := w_iinc hZ ip np hc hn rfl h2 h3 rfl k
theorem w_st10_4 (hZ : Sim code Z Ret) (ip np : Nat) {a0 a1 a2 a3 a4 a5 a6 a7 a8 a9 : Option MV} {z : Int} (hc : code[ip]? = some (I_istore 4)) (hn : ip + 1 = np) (h2 : noL [a0, a1, a2, a3, a4, a5, a6, a7, a8, a9] = true) (k : Z np [a0, a1, a2, a3, some (mi z), a5, a6, a7, a8, a9] r M) : Z ip [a0, a1, a2, a3, a4, a5, a6, a7, a8, a9] (mi z :: r) M := w_istore hZ ip np hc hn (Nat.le_of_ble_eq_true rfl) h2 rfl k
theorem w_in10_4 (hZ : Sim code Z Ret) (ip np : Nat) {a0 a1 a2 a3 a5 a6 a7 a8 a9 : Option MV} {z n : Int} (hc : code[ip]? = some (I_iinc 4 n)) (hn : ip + 1 = np) (h2 : noL [a0, a1, a2, a3, some (mi z), a5, a6, a7, a8, a9] = true) (h3 : InR (z + n)) (k : Z np [a0, a1, a2, a3, some (mi (z + n)), a5, a6, a7, a8, a9] r M) : Z ip [a0, a1, a2, a3, some (mi z), a5, a6, a7, a8, a9] r M := w_iinc hZ ip np hc hn rfl h2 h3 rfl k
theorem w_st10_5 (hZ : Sim code Z Ret) (ip np : Nat) {a0 a1 a2 a3 a4 a5 a6 a7 a8 a9 : Option MV} {z : Int} (hc : code[ip]? = some (I_istore 5)) (hn : ip + 1 = np) (h2 : noL [a0, a1, a2, a3, a4, a5, a6, a7, a8, a9] = true) (k : Z np [a0, a1, a2, a3, a4, some (mi z), a6, a7, a8, a9] r M) : Z ip [a0, a1, a2, a3, a4, a5, a6, a7, a8, a9] (mi z :: r) M := w_istore hZ ip np hc hn (Nat.le_of_ble_eq_true rfl) h2 rfl k
theorem w_in10_5 (hZ : Sim code Z Ret) (ip np : Nat) {a0 a1 a2 a3 a4 a6 a7 a8 a9 : Option MV} {z n : Int} (hc : code[ip]? = some (I_iinc 5 n)) (hn : ip + 1 = np) (h2 : noL [a0, a1, a2, a3, a4, some (mi z), a6, a7, a8, a9] = true) (h3 : InR (z + n)) (k : Z np [a0, a1, a2, a3, a4, some (mi (z + n)), a6, a7, a8, a9] r M) : Z ip [a0, a1, a2, a3, a4, some (mi z), a6, a7, a8, a9] r M := w_iinc hZ ip np hc hn rfl h2 h3 rfl k
theorem w_st10_6 (hZ : Sim code Z Ret) (ip np : Nat) {a0 a1 a2 a3 a4 a5 a6 a7 a8 a9 : Option MV} {z : Int} (hc : code[ip]? = some (I_istore 6)) (hn : ip + 1 = np) (h2 : noL [a0, a1, a2, a3, a4, a5, a6, a7, a8, a9] = true) (k : Z np [a0, a1, a2, a3, a4, a5, some (mi z), a7, a8, a9] r M) : Z ip [a0, a1, a2, a3, a4, a5, a6, a7, a8, a9] (mi z :: r) M := w_istore hZ ip np hc hn (Nat.le_of_ble_eq_true rfl) h2 rfl k
theorem w_in10_6 (hZ : Sim code Z Ret) (ip np : Nat) {a0 a1 a2 a3 a4 a5 a7 a8 a9 : Option MV} {z n : Int} (hc : code[ip]? = some (I_iinc 6 n)) (hn : ip + 1 = np) (h2 : noL [a0, a1, a2, a3, a4, a5, some (mi z), a7, a8, a9] = true) (h3 : InR (z + n)) (k : Z np [a0, a1, a2, a3, a4, a5, some (mi (z + n)), a7, a8, a9] r M) : Z ip [a0, a1, a2, a3, a4, a5, some (mi z), a7, a8, a9] r M := w_iinc hZ ip np hc hn rfl h2 h3 rfl k
theorem w_st10_7 (hZ : Sim code Z Ret) (ip np : Nat) {a0 a1 a2 a3 a4 a5 a6 a7 a8 a9 : Option MV} {z : Int} (hc : code[ip]? = some (I_istore 7)) (hn : ip + 1 = np) (h2 : noL [a0, a1, a2, a3, a4, a5, a6, a7, a8, a9] = true) (k : Z np [a0, a1, a2, a3, a4, a5, a6, some (mi z), a8, a9] r M) : Z ip [a0, a1, a2, a3, a4, a5, a6, a7, a8, a9] (mi z :: r) M := w_istore hZ ip np hc hn (Nat.le_of_ble_eq_true rfl) h2 rfl k
theorem w_in10_7 (hZ : Sim code Z Ret) (ip np : Nat) {a0 a1 a2 a3 a4 a5 a6 a8 a9 : Option MV} {z n : Int} (hc : code[ip]? = some (I_iinc 7 n)) (hn : ip + 1 = np) (h2 : noL [a0, a1, a2, a3, a4, a5, a6, some (mi z), a8, a9] = true) (h3 : InR (z + n)) (k : Z np [a0, a1, a2, a3, a4, a5, a6, some (mi (z + n)), a8, a9] r M) : Z ip [a0, a1, a2, a3, a4, a5, a6, some (mi z), a8, a9] r M := w_iinc hZ ip np hc hn rfl h2 h3 rfl k
theorem w_st10_8 (hZ : Sim code Z Ret) (ip np : Nat) {a0 a1 a2 a3 a4 a5 a6 a7 a8 a9 : Option MV} {z : Int} (hc : code[ip]? = some (I_istore 8)) (hn : ip + 1 = np) (h2 : noL [a0, a1, a2, a3, a4, a5, a6, a7, a8, a9] = true) (k : Z np [a0, a1, a2, a3, a4, a5, a6, a7, some (mi z), a9] r M) : Z ip [a0, a1, a2, a3, a4, a5, a6, a7, a8, a9] (mi z :: r) M := w_istore hZ ip np hc hn (Nat.le_of_ble_eq_true rfl) h2 rfl k
theorem w_in10_8 (hZ : Sim code Z Ret) (ip np : Nat) {a0 a1 a2 a3 a4 a5 a6 a7 a9 : Option MV} {z n : Int} (hc : code[ip]? = some (I_iinc 8 n)) (hn : ip + 1 = np) (h2 : noL [a0, a1, a2, a3, a4, a5, a6, a7, some (mi z), a9] = true) (h3 : InR (z + n)) (k : Z np [a0, a1, a2, a3, a4, a5, a6, a7, some (mi (z + n)), a9] r M) : Z ip [a0, a1, a2, a3, a4, a5, a6, a7, some (mi z), a9] r M := w_iinc hZ ip np hc hn rfl h2 h3 rfl k
theorem w_st10_9 (hZ : Sim code Z Ret) (ip np : Nat) {a0 a1 a2 a3 a4 a5 a6 a7 a8 a9 : Option MV} {z : Int} (hc : code[ip]? = some (I_istore 9)) (hn : ip + 1 = np) (h2 : noL [a0, a1, a2, a3, a4, a5, a6, a7, a8, a9] = true) (k : Z np [a0, a1, a2, a3, a4, a5, a6, a7, a8, some (mi z)] r M) : Z ip [a0, a1, a2, a3, a4, a5, a6, a7, a8, a9] (mi z :: r) M := w_istore hZ ip np hc hn (Nat.le_of_ble_eq_true rfl) h2 rfl k
theorem w_in10_9 (hZ : Sim code Z Ret) (ip np : Nat) {a0 a1 a2 a3 a4 a5 a6 a7 a8 : Option MV} {z n : Int} (hc : code[ip]? = some (I_iinc 9 n)) (hn : ip + 1 = np) (h2 : noL [a0, a1, a2, a3, a4, a5, a6, a7, a8, some (mi z)] = true) (h3 : InR (z + n)) (k : Z np [a0, a1, a2, a3, a4, a5, a6, a7, a8, some (mi (z + n))] r M) : Z ip [a0, a1, a2, a3, a4, a5, a6, a7, a8, some (mi z)] r M := w_iinc hZ ip np hc hn rfl h2 h3 rfl k
theorem w_fg2_0 (hZ : Sim code Z Ret) {ip : Nat} {a0 a1 : Option MV} (k : Z ip [none, a1] r M) : Z ip [a0, a1] r M := hZ.2 ip _ _ M 0 k
theorem w_fg2_1 (hZ : Sim code Z Ret) {ip : Nat} {a0 a1 : Option MV} (k : Z ip [a0, none] r M) : Z ip [a0, a1] r M := hZ.2 ip _ _ M 1 k
theorem w_fg3_0 (hZ : Sim code Z Ret) {ip : Nat} {a0 a1 a2 : Option MV} (k : Z ip [none, a1, a2] r M) : Z ip [a0, a1, a2] r M := hZ.2 ip _ _ M 0 k
theorem w_fg3_1 (hZ : Sim code Z Ret) {ip : Nat} {a0 a1 a2 : Option MV} (k : Z ip [a0, none, a2] r M) : Z ip [a0, a1, a2] r M := hZ.2 ip _ _ M 1 k
theorem w_fg3_2 (hZ : Sim code Z Ret) {ip : Nat} {a0 a1 a2 : Option MV} (k : Z ip [a0, a1, none] r M) : Z ip [a0, a1, a2] r M := hZ.2 ip _ _ M 2 k
theorem w_fg4_0 (hZ : Sim code Z Ret) {ip : Nat} {a0 a1 a2 a3 : Option MV} (k : Z ip [none, a1, a2, a3] r M) : Z ip [a0, a1, a2, a3] r M := hZ.2 ip _ _ M 0 k
theorem w_fg4_1 (hZ : Sim code Z Ret) {ip : Nat} {a0 a1 a2 a3 : Option MV} (k : Z ip [a0, none, a2, a3] r M) : Z ip [a0, a1, a2, a3] r M := hZ.2 ip _ _ M 1 k
theorem w_fg4_2 (hZ : Sim code Z Ret) {ip : Nat} {a0 a1 a2 a3 : Option MV} (k : Z ip [a0, a1, none, a3] r M) : Z ip [a0, a1, a2, a3] r M := hZ.2 ip _ _ M 2 k
theorem w_fg4_3 (hZ : Sim code Z Ret) {ip : Nat} {a0 a1 a2 a3 : Option MV} (k : Z ip [a0, a1, a2, none] r M) : Z ip [a0, a1, a2, a3] r M := hZ.2 ip _ _ M 3 k
theorem w_fg5_0 (hZ : Sim code Z Ret) {ip : Nat} {a0 a1 a2 a3 a4 : Option MV} (k : Z ip [none, a1, a2, a3, a4] r M) : Z ip [a0, a1, a2, a3, a4] r M := hZ.2 ip _ _ M 0 k
theorem w_fg5_1 (hZ : Sim code Z Ret) {ip : Nat} {a0 a1 a2 a3 a4 : Option MV} (k : Z ip [a0, none, a2, a3, a4] r M) : Z ip [a0, a1, a2, a3, a4] r M := hZ.2 ip _ _ M 1 k
theorem w_fg5_2 (hZ : Sim code Z Ret) {ip : Nat} {a0 a1 a2 a3 a4 : Option MV} (k : Z ip [a0, a1, none, a3, a4] r M) : Z ip [a0, a1, a2, a3, a4] r M := hZ.2 ip _ _ M 2 k
theorem w_fg5_3 (hZ : Sim code Z Ret) {ip : Nat} {a0 a1 a2 a3 a4 : Option MV} (k : Z ip [a0, a1, a2, none, a4] r M) : Z ip [a0, a1, a2, a3, a4] r M := hZ.2 ip _ _ M 3 k
theorem w_fg5_4 (hZ : Sim code Z Ret) {ip : Nat} {a0 a1 a2 a3 a4 : Option MV} (k : Z ip [a0, a1, a2, a3, none] r M) : Z ip [a0, a1, a2, a3, a4] r M := hZ.2 ip _ _ M 4 k
theorem w_fg6_0 (hZ : Sim code Z Ret) {ip : Nat} {a0 a1 a2 a3 a4 a5 : Option MV} (k : Z ip [none, a1, a2, a3, a4, a5] r M) : Z ip [a0, a1, a2, a3, a4, a5] r M := hZ.2 ip _ _ M 0 k
theorem w_fg6_1 (hZ : Sim code Z Ret) {ip : Nat} {a0 a1 a2 a3 a4 a5 : Option MV} (k : Z ip [a0, none, a2, a3, a4, a5] r M) : Z ip [a0, a1, a2, a3, a4, a5] r M := hZ.2 ip _ _ M 1 k
theorem w_fg6_2 (hZ : Sim code Z Ret) {ip : Nat} {a0 a1 a2 a3 a4 a5 : Option MV} (k : Z ip [a0, a1, none, a3, a4, a5] r M) : Z ip [a0, a1, a2, a3, a4, a5] r M := hZ.2 ip _ _ M 2 k
theorem w_fg6_3 (hZ : Sim code Z Ret) {ip : Nat} {a0 a1 a2 a3 a4 a5 : Option MV} (k : Z ip [a0, a1, a2, none, a4, a5] r M) : Z ip [a0, a1, a2, a3, a4, a5] r M := hZ.2 ip _ _ M 3 k
theorem w_fg6_4 (hZ : Sim code Z Ret) {ip : Nat} {a0 a1 a2 a3 a4 a5 : Option MV} (k : Z ip [a0, a1, a2, a3, none, a5] r M) : Z ip [a0, a1, a2, a3, a4, a5] r M := hZ.2 ip _ _ M 4 k
theorem w_fg6_5 (hZ : Sim code Z Ret) {ip : Nat} {a0 a1 a2 a3 a4 a5 : Option MV} (k : Z ip [a0, a1, a2, a3, a4, none] r M) : Z ip [a0, a1, a2, a3, a4, a5] r M := hZ.2 ip _ _ M 5 k
theorem w_fg7_0 (hZ : Sim code Z Ret) {ip : Nat} {a0 a1 a2 a3 a4 a5 a6 : Option MV} (k : Z ip [none, a1, a2, a3, a4, a5, a6] r M) : Z ip [a0, a1, a2, a3, a4, a5, a6] r M := hZ.2 ip _ _ M 0 k
theorem w_fg7_1 (hZ : Sim code Z Ret) {ip : Nat} {a0 a1 a2 a3 a4 a5 a6 : Option MV} (k : Z ip [a0, none, a2, a3, a4, a5, a6] r M) : Z ip [a0, a1, a2, a3, a4, a5, a6] r M := hZ.2 ip _ _ M 1 k
theorem w_fg7_2 (hZ : Sim code Z Ret) {ip : Nat} {a0 a1 a2 a3 a4 a5 a6 : Option MV} (k : Z ip [a0, a1, none, a3, a4, a5, a6] r M) : Z ip [a0, a1, a2, a3, a4, a5, a6] r M := hZ.2 ip _ _ M 2 k
theorem w_fg7_3 (hZ : Sim code Z Ret) {ip : Nat} {a0 a1 a2 a3 a4 a5 a6 : Option MV} (k : Z ip [a0, a1, a2, none, a4, a5, a6] r M) : Z ip [a0, a1, a2, a3, a4, a5, a6] r M := hZ.2 ip _ _ M 3 k
theorem w_fg7_4 (hZ : Sim code Z Ret) {ip : Nat} {a0 a1 a2 a3 a4 a5 a6 : Option MV} (k : Z ip [a0, a1, a2, a3, none, a5, a6] r M) : Z ip [a0, a1, a2, a3, a4, a5, a6] r M := hZ.2 ip _ _ M 4 k
theorem w_fg7_5 (hZ : Sim code Z Ret) {ip : Nat} {a0 a1 a2 a3 a4 a5 a6 : Option MV} (k : Z ip [a0, a1, a2, a3, a4, none, a6] r M) : Z ip [a0, a1, a2, a3, a4, a5, a6] r M := hZ.2 ip _ _ M 5 k
theorem w_fg7_6 (hZ : Sim code Z Ret) {ip : Nat} {a0 a1 a2 a3 a4 a5 a6 : Option MV} (k : Z ip [a0, a1, a2, a3, a4, a5, none] r M) : Z ip [a0, a1, a2, a3, a4, a5, a6] r M := hZ.2 ip _ _ M 6 k
theorem w_fg8_0 (hZ : Sim code Z Ret) {ip : Nat} {a0 a1 a2 a3 a4 a5 a6 a7 : Option MV} (k : Z ip [none, a1, a2, a3, a4, a5, a6, a7] r M) : Z ip [a0, a1, a2, a3, a4, a5, a6, a7] r M := hZ.2 ip _ _ M 0 k
theorem w_fg8_1 (hZ : Sim code Z Ret) {ip : Nat} {a0 a1 a2 a3 a4 a5 a6 a7 : Option MV} (k : Z ip [a0, none, a2, a3, a4, a5, a6, a7] r M) : Z ip [a0, a1, a2, a3, a4, a5, a6, a7] r M := hZ.2 ip _ _ M 1 k
theorem w_fg8_2 (hZ : Sim code Z Ret) {ip : Nat} {a0 a1 a2 a3 a4 a5 a6 a7 : Option MV} (k : Z ip [a0, a1, none, a3, a4, a5, a6, a7] r M) : Z ip [a0, a1, a2, a3, a4, a5, a6, a7] r M := hZ.2 ip _ _ M 2 k
theorem w_fg8_3 (hZ : Sim code Z Ret) {ip : Nat} {a0 a1 a2 a3 a4 a5 a6 a7 : Option MV} (k : Z ip [a0, a1, a2, none, a4, a5, a6, a7] r M) : Z ip [a0, a1, a2, a3, a4, a5, a6, a7] r M := hZ.2 ip _ _ M 3 k
theorem w_fg8_4 (hZ : Sim code Z Ret) {ip : Nat} {a0 a1 a2 a3 a4 a5 a6 a7 : Option MV} (k : Z ip [a0, a1, a2, a3, none, a5, a6, a7] r M) : Z ip [a0, a1, a2, a3, a4, a5, a6, a7] r M := hZ.2 ip _ _ M 4 k
theorem w_fg8_5 (hZ : Sim code Z Ret) {ip : Nat} {a0 a1 a2 a3 a4 a5 a6 a7 : Option MV} (k : Z ip [a0, a1, a2, a3, a4, none, a6, a7] r M) : Z ip [a0, a1, a2, a3, a4, a5, a6, a7] r M := hZ.2 ip _ _ M 5 k
theorem w_fg8_6 (hZ : Sim code Z Ret) {ip : Nat} {a0 a1 a2 a3 a4 a5 a6 a7 : Option MV} (k : Z ip [a0, a1, a2, a3, a4, a5, none, a7] r M) : Z ip [a0, a1, a2, a3, a4, a5, a6, a7] r M := hZ.2 ip _ _ M 6 k
theorem w_fg8_7 (hZ : Sim code Z Ret) {ip : Nat} {a0 a1 a2 a3 a4 a5 a6 a7 : Option MV} (k : Z ip [a0, a1, a2, a3, a4, a5, a6, none] r M) : Z ip [a0, a1, a2, a3, a4, a5, a6, a7] r M := hZ.2 ip _ _ M 7 k
theorem w_fg9_0 (hZ : Sim code Z Ret) {ip : Nat} {a0 a1 a2 a3 a4 a5 a6 a7 a8 : Option MV} (k : Z ip [none, a1, a2, a3, a4, a5, a6, a7, a8] r M) : Z ip [a0, a1, a2, a3, a4, a5, a6, a7, a8] r M := hZ.2 ip _ _ M 0 k
theorem w_fg9_1 (hZ : Sim code Z Ret) {ip : Nat} {a0 a1 a2 a3 a4 a5 a6 a7 a8 : Option MV} (k : Z ip [a0, none, a2, a3, a4, a5, a6, a7, a8] r M) : Z ip [a0, a1, a2, a3, a4, a5, a6, a7, a8] r M := hZ.2 ip _ _ M 1 k
theorem w_fg9_2 (hZ : Sim code Z Ret) {ip : Nat} {a0 a1 a2 a3 a4 a5 a6 a7 a8 : Option MV} (k : Z ip [a0, a1, none, a3, a4, a5, a6, a7, a8] r M) : Z ip [a0, a1, a2, a3, a4, a5, a6, a7, a8] r M := hZ.2 ip _ _ M 2 k
theorem w_fg9_3 (hZ : Sim code Z Ret) {ip : Nat} {a0 a1 a2 a3 a4 a5 a6 a7 a8 : Option MV} (k : Z ip [a0, a1, a2, none, a4, a5, a6, a7, a8] r M) : Z ip [a0, a1, a2, a3, a4, a5, a6, a7, a8] r M := hZ.2 ip _ _ M 3 k
theorem w_fg9_4 (hZ : Sim code Z Ret) {ip : Nat} {a0 a1 a2 a3 a4 a5 a6 a7 a8 : Option MV} (k : Z ip [a0, a1, a2, a3, none, a5, a6, a7, a8] r M) : Z ip [a0, a1, a2, a3, a4, a5, a6, a7, a8] r M := hZ.2 ip _ _ M 4 k
theorem w_fg9_5 (hZ : Sim code Z Ret) {ip : Nat} {a0 a1 a2 a3 a4 a5 a6 a7 a8 : Option MV} (k : Z ip [a0, a1, a2, a3, a4, none, a6, a7, a8] r M) : Z ip [a0, a1, a2, a3, a4, a5, a6, a7, a8] r M := hZ.2 ip _ _ M 5 k
theorem w_fg9_6 (hZ : Sim code Z Ret) {ip : Nat} {a0 a1 a2 a3 a4 a5 a6 a7 a8 : Option MV} (k : Z ip [a0, a1, a2, a3, a4, a5, none, a7, a8] r M) : Z ip [a0, a1, a2, a3, a4, a5, a6, a7, a8] r M := hZ.2 ip _ _ M 6 k
theorem w_fg9_7 (hZ : Sim code Z Ret) {ip : Nat} {a0 a1 a2 a3 a4 a5 a6 a7 a8 : Option MV} (k : Z ip [a0, a1, a2, a3, a4, a5, a6, none, a8] r M) : Z ip [a0, a1, a2, a3, a4, a5, a6, a7, a8] r M := hZ.2 ip _ _ M 7 k
theorem w_fg9_8 (hZ : Sim code Z Ret) {ip : Nat} {a0 a1 a2 a3 a4 a5 a6 a7 a8 : Option MV} (k : Z ip [a0, a1, a2, a3, a4, a5, a6, a7, none] r M) : Z ip [a0, a1, a2, a3, a4, a5, a6, a7, a8] r M := hZ.2 ip _ _ M 8 k
theorem w_fg10_0 (hZ : Sim code Z Ret) {ip : Nat} {a0 a1 a2 a3 a4 a5 a6 a7 a8 a9 : Option MV} (k : Z ip [none, a1, a2, a3, a4, a5, a6, a7, a8, a9] r M) : Z ip [a0, a1, a2, a3, a4, a5, a6, a7, a8, a9] r M := hZ.2 ip _ _ M 0 k
theorem w_fg10_1 (hZ : Sim code Z Ret) {ip : Nat} {a0 a1 a2 a3 a4 a5 a6 a7 a8 a9 : Option MV} (k : Z ip [a0, none, a2, a3, a4, a5, a6, a7, a8, a9] r M) : Z ip [a0, a1, a2, a3, a4, a5, a6, a7, a8, a9] r M := hZ.2 ip _ _ M 1 k
theorem w_fg10_2 (hZ : Sim code Z Ret) {ip : Nat} {a0 a1 a2 a3 a4 a5 a6 a7 a8 a9 : Option MV} (k : Z ip [a0, a1, none, a3, a4, a5, a6, a7, a8, a9] r M) : Z ip [a0, a1, a2, a3, a4, a5, a6, a7, a8, a9] r M := hZ.2 ip _ _ M 2 k
theorem w_fg10_3 (hZ : Sim code Z Ret) {ip : Nat} {a0 a1 a2 a3 a4 a5 a6 a7 a8 a9 : Option MV} (k : Z ip [a0, a1, a2, none, a4, a5, a6, a7, a8, a9] r M) : Z ip [a0, a1, a2, a3, a4, a5, a6, a7, a8, a9] r M := hZ.2 ip _ _ M 3 k
theorem w_fg10_4 (hZ : Sim code Z Ret) {ip : Nat} {a0 a1 a2 a3 a4 a5 a6 a7 a8 a9 : Option MV} (k : Z ip [a0, a1, a2, a3, none, a5, a6, a7, a8, a9] r M) : Z ip [a0, a1, a2, a3, a4, a5, a6, a7, a8, a9] r M := hZ.2 ip _ _ M 4 k
theorem w_fg10_5 (hZ : Sim code Z Ret) {ip : Nat} {a0 a1 a2 a3 a4 a5 a6 a7 a8 a9 : Option MV} (k : Z ip [a0, a1, a2, a3, a4, none, a6, a7, a8, a9] r M) : Z ip [a0, a1, a2, a3, a4, a5, a6, a7, a8, a9] r M := hZ.2 ip _ _ M 5 k
theorem w_fg10_6 (hZ : Sim code Z Ret) {ip : Nat} {a0 a1 a2 a3 a4 a5 a6 a7 a8 a9 : Option MV} (k : Z ip [a0, a1, a2, a3, a4, a5, none, a7, a8, a9] r M) : Z ip [a0, a1, a2, a3, a4, a5, a6, a7, a8, a9] r M := hZ.2 ip _ _ M 6 k
theorem w_fg10_7 (hZ : Sim code Z Ret) {ip : Nat} {a0 a1 a2 a3 a4 a5 a6 a7 a8 a9 : Option MV} (k : Z ip [a0, a1, a2, a3, a4, a5, a6, none, a8, a9] r M) : Z ip [a0, a1, a2, a3, a4, a5, a6, a7, a8, a9] r M := hZ.2 ip _ _ M 7 k
theorem w_fg10_8 (hZ : Sim code Z Ret) {ip : Nat} {a0 a1 a2 a3 a4 a5 a6 a7 a8 a9 : Option MV} (k : Z ip [a0, a1, a2, a3, a4, a5, a6, a7, none, a9] r M) : Z ip [a0, a1, a2, a3, a4, a5, a6, a7, a8, a9] r M := hZ.2 ip _ _ M 8 k
theorem w_fg10_9 (hZ : Sim code Z Ret) {ip : Nat} {a0 a1 a2 a3 a4 a5 a6 a7 a8 a9 : Option MV} (k : Z ip [a0, a1, a2, a3, a4, a5, a6, a7, a8, none] r M) : Z ip [a0, a1, a2, a3, a4, a5, a6, a7, a8, a9] r M := hZ.2 ip _ _ M 9 k
theorem w_tsw3 (hZ : Sim code Z Ret) (ip : Nat) {ls : List (Option MV)} {lo x : Int} {t0 t1 t2 d : Nat} (hc : code[ip]? = some (I_tsw lo [t0, t1, t2] d)) (k0 : x = lo + 0 → Z t0 ls r M) (k1 : x = lo + 1 → Z t1 ls r M) (k2 : x = lo + 2 → Z t2 ls r M) (kf : x < lo ∨ lo + 3 ≤ x → Z d ls r M) : Z ip ls (mi x :: r) M := by
  refine w_tsw hZ ip hc (fun j t hj hx => ?_) (fun h => kf h)
  match j, hj with
  | 0, hj => cases hj; exact k0 hx
  | 1, hj => cases hj; exact k1 hx
  | 2, hj => cases hj; exact k2 hx
  | j + 3, hj => simp at hj
theorem w_tsw4 (hZ : Sim code Z Ret) (ip : Nat) {ls : List (Option MV)} {lo x : Int} {t0 t1 t2 t3 d : Nat} (hc : code[ip]? = some (I_tsw lo [t0, t1, t2, t3] d)) (k0 : x = lo + 0 → Z t0 ls r M) (k1 : x = lo + 1 → Z t1 ls r M) (k2 : x = lo + 2 → Z t2 ls r M) (k3 : x = lo + 3 → Z t3 ls r M) (kf : x < lo ∨ lo + 4 ≤ x → Z d ls r M) : Z ip ls (mi x :: r) M := by
  refine w_tsw hZ ip hc (fun j t hj hx => ?_) (fun h => kf h)
  match j, hj with
  | 0, hj => cases hj; exact k0 hx
  | 1, hj => cases hj; exact k1 hx
  | 2, hj => cases hj; exact k2 hx
  | 3, hj => cases hj; exact k3 hx
  | j + 4, hj => simp at hj
theorem w_tsw6 (hZ : Sim code Z Ret) (ip : Nat) {ls : List (Option MV)} {lo x : Int} {t0 t1 t2 t3 t4 t5 d : Nat} (hc : code[ip]? = some (I_tsw lo [t0, t1, t2, t3, t4, t5] d)) (k0 : x = lo + 0 → Z t0 ls r M) (k1 : x = lo + 1 → Z t1 ls r M) (k2 : x = lo + 2 → Z t2 ls r M) (k3 : x = lo + 3 → Z t3 ls r M) (k4 : x = lo + 4 → Z t4 ls r M) (k5 : x = lo + 5 → Z t5 ls r M) (kf : x < lo ∨ lo + 6 ≤ x → Z d ls r M) : Z ip ls (mi x :: r) M := by
  refine w_tsw hZ ip hc (fun j t hj hx => ?_) (fun h => kf h)
  match j, hj with
  | 0, hj => cases hj; exact k0 hx
  | 1, hj => cases hj; exact k1 hx
  | 2, hj => cases hj; exact k2 hx
  | 3, hj => cases hj; exact k3 hx
  | 4, hj => cases hj; exact k4 hx
  | 5, hj => cases hj; exact k5 hx
  | j + 6, hj => simp at hj
theorem w_tsw11 (hZ : Sim code Z Ret) (ip : Nat) {ls : List (Option MV)} {lo x : Int} {t0 t1 t2 t3 t4 t5 t6 t7 t8 t9 t10 d : Nat} (hc : code[ip]? = some (I_tsw lo [t0, t1, t2, t3, t4, t5, t6, t7, t8, t9, t10] d)) (k0 : x = lo + 0 → Z t0 ls r M) (k1 : x = lo + 1 → Z t1 ls r M) (k2 : x = lo + 2 → Z t2 ls r M) (k3 : x = lo + 3 → Z t3 ls r M) (k4 : x = lo + 4 → Z t4 ls r M) (k5 : x = lo + 5 → Z t5 ls r M) (k6 : x = lo + 6 → Z t6 ls r M) (k7 : x = lo + 7 → Z t7 ls r M) (k8 : x = lo + 8 → Z t8 ls r M) (k9 : x = lo + 9 → Z t9 ls r M) (k10 : x = lo + 10 → Z t10 ls r M) (kf : x < lo ∨ lo + 11 ≤ x → Z d ls r M) : Z ip ls (mi x :: r) M := by
  refine w_tsw hZ ip hc (fun j t hj hx => ?_) (fun h => kf h)
  match j, hj with
  | 0, hj => cases hj; exact k0 hx
  | 1, hj => cases hj; exact k1 hx
  | 2, hj => cases hj; exact k2 hx
  | 3, hj => cases hj; exact k3 hx
  | 4, hj => cases hj; exact k4 hx
  | 5, hj => cases hj; exact k5 hx
  | 6, hj => cases hj; exact k6 hx
  | 7, hj => cases hj; exact k7 hx
  | 8, hj => cases hj; exact k8 hx
  | 9, hj => cases hj; exact k9 hx
  | 10, hj => cases hj; exact k10 hx
  | j + 11, hj => simp at hj
theorem w_tsw20 (hZ : Sim code Z Ret) (ip : Nat) {ls : List (Option MV)} {lo x : Int} {t0 t1 t2 t3 t4 t5 t6 t7 t8 t9 t10 t11 t12 t13 t14 t15 t16 t17 t18 t19 d : Nat} (hc : code[ip]? = some (I_tsw lo [t0, t1, t2, t3, t4, t5, t6, t7, t8, t9, t10, t11, t12, t13, t14, t15, t16, t17, t18, t19] d)) (k0 : x = lo + 0 → Z t0 ls r M) (k1 : x = lo + 1 → Z t1 ls r M) (k2 : x = lo + 2 → Z t2 ls r M) (k3 : x = lo + 3 → Z t3 ls r M) (k4 : x = lo + 4 → Z t4 ls r M) (k5 : x = lo + 5 → Z t5 ls r M) (k6 : x = lo + 6 → Z t6 ls r M) (k7 : x = lo + 7 → Z t7 ls r M) (k8 : x = lo + 8 → Z t8 ls r M) (k9 : x = lo + 9 → Z t9 ls r M) (k10 : x = lo + 10 → Z t10 ls r M) (k11 : x = lo + 11 → Z t11 ls r M) (k12 : x = lo + 12 → Z t12 ls r M) (k13 : x = lo + 13 → Z t13 ls r M) (k14 : x = lo + 14 → Z t14 ls r M) (k15 : x = lo + 15 → Z t15 ls r M) (k16 : x = lo + 16 → Z t16 ls r M) (k17 : x = lo + 17 → Z t17 ls r M) (k18 : x = lo + 18 → Z t18 ls r M) (k19 : x = lo + 19 → Z t19 ls r M) (kf : x < lo ∨ lo + 20 ≤ x → Z d ls r M) : Z ip ls (mi x :: r) M := by
  refine w_tsw hZ ip hc (fun j t hj hx => ?_) (fun h => kf h)
  match j, hj with
  | 0, hj => cases hj; exact k0 hx
  | 1, hj => cases hj; exact k1 hx
  | 2, hj => cases hj; exact k2 hx
  | 3, hj => cases hj; exact k3 hx
  | 4, hj => cases hj; exact k4 hx
  | 5, hj => cases hj; exact k5 hx
  | 6, hj => cases hj; exact k6 hx
  | 7, hj => cases hj; exact k7 hx
  | 8, hj => cases hj; exact k8 hx
  | 9, hj => cases hj; exact k9 hx
  | 10, hj => cases hj; exact k10 hx
  | 11, hj => cases hj; exact k11 hx
  | 12, hj => cases hj; exact k12 hx
  | 13, hj => cases hj; exact k13 hx
  | 14, hj => cases hj; exact k14 hx
  | 15, hj => cases hj; exact k15 hx
  | 16, hj => cases hj; exact k16 hx
  | 17, hj => cases hj; exact k17 hx
  | 18, hj => cases hj; exact k18 hx
  | 19, hj => cases hj; exact k19 hx
  | j + 20, hj => simp at hj
theorem w_aald2 (hZ : Sim code Z Ret) (ip np : Nat) {ls : List (Option MV)} {o : Nat} {i : Int} {t0 t1 : Nat} (hc : code[ip]? = some I_aald) (hn : ip + 1 = np) (h1 : shp[o]? = some (.inr (.inr [t0, t1]))) (h2 : 0 ≤ i) (h3 : i < 2) (k0 : i = 0 → Z np ls (mr t0 :: r) M) (k1 : i = 1 → Z np ls (mr t1 :: r) M) : Z ip ls (mi i :: mr o :: r) M := by
  refine w_aald hZ ip np hc hn h1 h2 h3 (fun j t hj hx => ?_)
  match j, hj with
  | 0, hj => cases hj; exact k0 hx
  | 1, hj => cases hj; exact k1 hx
  | j + 2, hj => simp at hj
theorem w_aald8 (hZ : Sim code Z Ret) (ip np : Nat) {ls : List (Option MV)} {o : Nat} {i : Int} {t0 t1 t2 t3 t4 t5 t6 t7 : Nat} (hc : code[ip]? = some I_aald) (hn : ip + 1 = np) (h1 : shp[o]? = some (.inr (.inr [t0, t1, t2, t3, t4, t5, t6, t7]))) (h2 : 0 ≤ i) (h3 : i < 8) (k0 : i = 0 → Z np ls (mr t0 :: r) M) (k1 : i = 1 → Z np ls (mr t1 :: r) M) (k2 : i = 2 → Z np ls (mr t2 :: r) M) (k3 : i = 3 → Z np ls (mr t3 :: r) M) (k4 : i = 4 → Z np ls (mr t4 :: r) M) (k5 : i = 5 → Z np ls (mr t5 :: r) M) (k6 : i = 6 → Z np ls (mr t6 :: r) M) (k7 : i = 7 → Z np ls (mr t7 :: r) M) : Z ip ls (mi i :: mr o :: r) M := by
  refine w_aald hZ ip np hc hn h1 h2 h3 (fun j t hj hx => ?_)
  match j, hj with
  | 0, hj => cases hj; exact k0 hx
  | 1, hj => cases hj; exact k1 hx
  | 2, hj => cases hj; exact k2 hx
  | 3, hj => cases hj; exact k3 hx
  | 4, hj => cases hj; exact k4 hx
  | 5, hj => cases hj; exact k5 hx
  | 6, hj => cases hj; exact k6 hx
  | 7, hj => cases hj; exact k7 hx
  | j + 8, hj => simp at hj
theorem w_getiv (hZ : Sim code Z Ret) (ip np : Nat) {ls : List (Option MV)} {o ci f : Nat} {q : Nat × List Nat} (hc : code[ip]? = some (I_get ci f)) (hn : ip + 1 = np) (h1 : shp[o]? = some (.inl q)) (h2 : q.1 = ci) (h3 : q.2[f]? = some 0) {v : Int} (hv : M o f = v) (k : Z np ls (mi v :: r) M) : Z ip ls (mr o :: r) M := by subst hv; exact w_geti hZ ip np hc hn h1 h2 h3 k
theorem w_getzv (hZ : Sim code Z Ret) (ip np : Nat) {ls : List (Option MV)} {o ci f : Nat} {q : Nat × List Nat} (hc : code[ip]? = some (I_get ci f)) (hn : ip + 1 = np) (h1 : shp[o]? = some (.inl q)) (h2 : q.1 = ci) (h3 : q.2[f]? = some 1) {v : Int} (hv : M o f = v) (k : Z np ls (mi v :: r) M) : Z ip ls (mr o :: r) M := by subst hv; exact w_getz hZ ip np hc hn h1 h2 h3 k
theorem w_ialdv (hZ : Sim code Z Ret) (ip np : Nat) {ls : List (Option MV)} {o n : Nat} {i : Int} (hc : code[ip]? = some I_iald) (hn : ip + 1 = np) (h1 : shp[o]? = some (.inr (.inl (0, n)))) (h2 : 0 ≤ i) (h3 : i < n) {v : Int} (hv : M o i.toNat = v) (k : Z np ls (mi v :: r) M) : Z ip ls (mi i :: mr o :: r) M := by subst hv; exact w_iald hZ ip np hc hn h1 h2 h3 k
theorem w_zaldv (hZ : Sim code Z Ret) (ip np : Nat) {ls : List (Option MV)} {o n : Nat} {i : Int} (hc : code[ip]? = some I_zald) (hn : ip + 1 = np) (h1 : shp[o]? = some (.inr (.inl (1, n)))) (h2 : 0 ≤ i) (h3 : i < n) {v : Int} (hv : M o i.toNat = v) (k : Z np ls (mi v :: r) M) : Z ip ls (mi i :: mr o :: r) M := by subst hv; exact w_zald hZ ip np hc hn h1 h2 h3 k
end ROWS2
end
section
/-! WORDS OF THE DOCUMENT, as numbers -/
def b2i (p : Prop) [Decidable p] : Int := if p then 1 else 0
theorem b2i_t {p : Prop} [Decidable p] (h : p) : b2i p = 1 := if_pos h
theorem b2i_f {p : Prop} [Decidable p] (h : ¬ p) : b2i p = 0 := if_neg h
theorem b2i_01 (p : Prop) [Decidable p] : b2i p = 0 ∨ b2i p = 1 := by unfold b2i; split <;> simp
theorem b2i_e {p : Prop} [Decidable p] : ¬ b2i p = 0 ↔ p := by unfold b2i; split <;> simp [*]
theorem b2i_z {p : Prop} [Decidable p] : b2i p = 0 ↔ ¬ p := by unfold b2i; split <;> simp [*]
abbrev isSm (s : Int) : Prop := 97 ≤ s ∧ s ≤ 122
abbrev isCp (s : Int) : Prop := 65 ≤ s ∧ s ≤ 90
abbrev isLt (s : Int) : Prop := isSm s ∨ isCp s
abbrev isFg (s : Int) : Prop := 48 ≤ s ∧ s ≤ 57
abbrev isPC (s : Int) : Prop := s = 46 ∨ s = 44
abbrev isSg (s : Int) : Prop := isLt s ∨ isFg s ∨ isPC s ∨ s = 45 ∨ s = 32
abbrev isCl (c : Int) : Prop := 0 ≤ c ∧ c ≤ 63
abbrev isRC (c : Int) : Prop := 30 ≤ c ∧ c ≤ 59
abbrev isLC (c : Int) : Prop := 1 ≤ c ∧ c ≤ 26
abbrev isFC (c : Int) : Prop := 1 ≤ c ∧ c ≤ 10
abbrev isPCC (c : Int) : Prop := c = 27 ∨ c = 28
/-- a letter's number 1 .. 26 -/
def ltN (s : Int) : Int := if isCp s then s - 64 else s - 96
def mkC (s : Int) : Int := if s = 46 then 27 else if s = 44 then 28 else if s = 45 then 29 else 0
def fgC (s : Int) : Int := if s = 48 then 10 else s - 48
def fgS (c : Int) : Int := if c = 10 then 48 else 48 + c
def mkS (c : Int) : Int := if c = 27 then 46 else if c = 28 then 44 else if c = 29 then 45 else 32
/-- how many letters a code has -/
def lnC (c : Int) : Int := if c ≤ 0 then 0 else if c < 27 then 1 else if c < 729 then 2 else if c < 19683 then 3 else 4
abbrev vC (c : Int) : Prop := 27 ≤ c ∧ c < 531441 ∧ ¬ c % 27 = 0 ∧ (729 ≤ c → ¬ c / 27 % 27 = 0) ∧ (19683 ≤ c → ¬ c / 729 % 27 = 0)
def p27 (j : Int) : Int := if j ≤ 0 then 1 else if j = 1 then 27 else if j = 2 then 729 else 19683
/-- letter e of a code, from the left, 1 .. 26 -/
def dgC (c e : Int) : Int := c / p27 (lnC c - 1 - e) % 27
theorem cmp3_lt {x y : Int} : cmp3 x y < 0 ↔ x < y := by unfold cmp3; split <;> (try split) <;> omega
theorem cmp3_ge {x y : Int} : 0 ≤ cmp3 x y ↔ y ≤ x := by unfold cmp3; split <;> (try split) <;> omega
theorem cmp3_gt {x y : Int} : 0 < cmp3 x y ↔ y < x := by unfold cmp3; split <;> (try split) <;> omega
theorem cmp3_le {x y : Int} : cmp3 x y ≤ 0 ↔ x ≤ y := by unfold cmp3; split <;> (try split) <;> omega
theorem lnC_step {c : Int} (h0 : 0 < c) (h1 : c < 531441) : lnC c = 1 + lnC (c / 27) := by
  unfold lnC
  repeat' split
  all_goals omega
theorem lnC_0 {c : Int} (h : c ≤ 0) : lnC c = 0 := by unfold lnC; rw [if_pos h]
theorem lnC_le (c : Int) : 0 ≤ lnC c ∧ lnC c ≤ 4 := by unfold lnC; repeat' split <;> omega
theorem lnC_pos {c : Int} (h : 0 < c) : 1 ≤ lnC c := by unfold lnC; repeat' split <;> omega
theorem lnC_2 {c : Int} : 2 ≤ lnC c ↔ 27 ≤ c := by unfold lnC; repeat' split <;> omega
theorem p27_div {c j : Int} (h0 : 0 ≤ j) (h1 : j ≤ 2) : c / p27 j / 27 = c / p27 (j + 1) := by
  unfold p27
  rcases (by omega : j = 0 ∨ j = 1 ∨ j = 2) with rfl | rfl | rfl
  · simp
  · simp; omega
  · simp; omega
theorem p27_pos (j : Int) : 0 < p27 j := by unfold p27; repeat' split <;> omega
theorem dg2 {c : Int} (h : 27 ≤ c) (h2 : c < 729) : lnC c = 2 ∧ dgC c 0 = c / 27 % 27 ∧ dgC c 1 = c % 27 := by
  have e : lnC c = 2 := by unfold lnC; repeat' split <;> omega
  refine ⟨e, ?_, ?_⟩ <;> unfold dgC p27 <;> rw [e] <;> simp
theorem dg3 {c : Int} (h : 729 ≤ c) (h2 : c < 19683) : lnC c = 3 ∧ dgC c 0 = c / 729 % 27 ∧ dgC c 1 = c / 27 % 27 ∧ dgC c 2 = c % 27 := by
  have e : lnC c = 3 := by unfold lnC; repeat' split <;> omega
  refine ⟨e, ?_, ?_, ?_⟩ <;> unfold dgC p27 <;> rw [e] <;> simp
theorem dg4 {c : Int} (h : 19683 ≤ c) (h2 : c < 531441) : lnC c = 4 ∧ dgC c 0 = c / 19683 % 27 ∧ dgC c 1 = c / 729 % 27 ∧ dgC c 2 = c / 27 % 27 ∧ dgC c 3 = c % 27 := by
  have e : lnC c = 4 := by unfold lnC; repeat' split <;> omega
  refine ⟨e, ?_, ?_, ?_, ?_⟩ <;> unfold dgC p27 <;> rw [e] <;> simp
theorem vC_iff {c : Int} (h : 27 ≤ c) (h2 : c < 531441) : vC c ↔ ∀ j, 0 ≤ j → j < lnC c → 0 < dgC c j := by
  by_cases a : c < 729
  · obtain ⟨e, d0, d1⟩ := dg2 h a
    constructor
    · intro hv j h0 h1
      rcases (by omega : j = 0 ∨ j = 1) with rfl | rfl <;> omega
    · intro hv
      have q0 := hv 0 (by omega) (by omega)
      have q1 := hv 1 (by omega) (by omega)
      refine ⟨h, h2, ?_, ?_, ?_⟩ <;> omega
  · by_cases b : c < 19683
    · obtain ⟨e, d0, d1, d2⟩ := dg3 (by omega) b
      constructor
      · intro hv j h0 h1
        rcases (by omega : j = 0 ∨ j = 1 ∨ j = 2) with rfl | rfl | rfl <;> omega
      · intro hv
        have q0 := hv 0 (by omega) (by omega)
        have q1 := hv 1 (by omega) (by omega)
        have q2 := hv 2 (by omega) (by omega)
        refine ⟨h, h2, ?_, ?_, ?_⟩ <;> omega
    · obtain ⟨e, d0, d1, d2, d3⟩ := dg4 (by omega) h2
      constructor
      · intro hv j h0 h1
        rcases (by omega : j = 0 ∨ j = 1 ∨ j = 2 ∨ j = 3) with rfl | rfl | rfl | rfl <;> omega
      · intro hv
        have q0 := hv 0 (by omega) (by omega)
        have q1 := hv 1 (by omega) (by omega)
        have q2 := hv 2 (by omega) (by omega)
        have q3 := hv 3 (by omega) (by omega)
        refine ⟨h, h2, ?_, ?_, ?_⟩ <;> omega
/-- which KINDS may stand from .. to in the word a .. b -/
abbrev kdOk (kd fr to a b : Int) : Prop := kd = 0 ∨ (kd = 1 ∧ fr = a ∧ to = b) ∨ (kd = 2 ∧ fr = a ∧ to < b) ∨ (kd = 3 ∧ a < fr ∧ to = b) ∨ (¬ kd = 0 ∧ ¬ kd = 1 ∧ ¬ kd = 2 ∧ ¬ kd = 3 ∧ a < fr ∧ to < b)
/-- the last k letters of a code are letters -/
def nzD : Nat → Int → Prop
  | 0, _ => True
  | k + 1, c => ¬ c % 27 = 0 ∧ nzD k (c / 27)
theorem vC_nz {c : Int} (h : 27 ≤ c) (h2 : c < 531441) : vC c ↔ nzD (lnC c).toNat c := by
  by_cases a : c < 729
  · rw [(dg2 h a).1]
    show vC c ↔ (¬ c % 27 = 0 ∧ ¬ c / 27 % 27 = 0 ∧ True)
    constructor
    · rintro ⟨-, -, h3, -, -⟩; exact ⟨h3, by omega, trivial⟩
    · rintro ⟨h3, h4, -⟩; exact ⟨h, h2, h3, by omega, by omega⟩
  · by_cases b : c < 19683
    · rw [(dg3 (by omega) b).1]
      show vC c ↔ (¬ c % 27 = 0 ∧ ¬ c / 27 % 27 = 0 ∧ ¬ c / 27 / 27 % 27 = 0 ∧ True)
      constructor
      · rintro ⟨-, -, h3, h4, -⟩; exact ⟨h3, h4 (by omega), by clear h3 h4; omega, trivial⟩
      · rintro ⟨h3, h4, -, -⟩; exact ⟨h, h2, h3, fun _ => h4, by omega⟩
    · rw [(dg4 (by omega) h2).1]
      show vC c ↔ (¬ c % 27 = 0 ∧ ¬ c / 27 % 27 = 0 ∧ ¬ c / 27 / 27 % 27 = 0 ∧ ¬ c / 27 / 27 / 27 % 27 = 0 ∧ True)
      have e : c / 27 / 27 = c / 729 := by omega
      rw [e]
      constructor
      · rintro ⟨-, -, h3, h4, h5⟩; exact ⟨h3, h4 (by omega), h5 (by omega), by clear h3 h4 h5; omega, trivial⟩
      · rintro ⟨h3, h4, h5, -, -⟩; exact ⟨h, h2, h3, fun _ => h4, fun _ => h5⟩
end
section
def sp_X6_isSmall : SP := fun av M Ret => ∃ s : Int, av = [mi s] ∧ (Ret (some (mi (b2i (isSm s)))) M)
theorem k_X6_isSmall {code : List Sem} {Z : KZ} {Ret : KR} {ls : List (Option MV)} {M : Mem} {r : List MV} (hZ : Sim code Z Ret) (ip np : Nat) {s : Int} (hc : code[ip]? = some (I_callS 1 sp_X6_isSmall)) (hn : ip + 1 = np) (h3 : catS r ≤ 8)   (kz : Z np ls (mi (b2i (isSm s)) :: r) M) : Z ip ls (mi s :: r) M := w_callS1 hZ ip np hc hn h3 ⟨_, rfl, kz⟩
def cd_X6_isSmall : List Sem := [I_iload 0, I_const (97), I_clt 8, I_iload 0, I_const (123), I_cge 8, I_const (1), I_goto 9, I_const (0), I_zret]
def pc_X6_isSmall : List Nat := [0, 1, 3, 6, 7, 9, 12, 13, 16, 17]
set_option maxRecDepth 100000 in
set_option maxHeartbeats 4000000 in
theorem b_X6_isSmall (s : Int) (i_s : InR s) (M : Mem) (Ret : KR)  (hR : Ret (some (mi (b2i (isSm s)))) M) (hM : MOk M) (Z : KZ) (hZ : Sim cd_X6_isSmall Z Ret) : Z 0 [some (mi s)] [] M := by
  refine w_iload hZ 0 1 rfl rfl rfl ?_
  refine w_const hZ 1 2 rfl rfl  ?_
  refine w_clt hZ 2 3 rfl rfl (fun c2 => ?_) (fun c2 => ?_)
  · refine w_const hZ 8 9 rfl rfl  ?_
    refine w_zret hZ 9 rfl (by omega) ?_
    exact ret_i hR (by (first | refine b2i_t ?_ | refine b2i_f ?_); (try simp only [isSm, isCp, isLt, isFg, isPC, isSg, isCl, isRC, isLC, isFC, isPCC, b2i_e, b2i_z] at *); omega)
  · refine w_iload hZ 3 4 rfl rfl rfl ?_
    refine w_const hZ 4 5 rfl rfl  ?_
    refine w_cge hZ 5 6 rfl rfl (fun c5 => ?_) (fun c5 => ?_)
    · refine w_const hZ 8 9 rfl rfl  ?_
      refine w_zret hZ 9 rfl (by omega) ?_
      exact ret_i hR (by (first | refine b2i_t ?_ | refine b2i_f ?_); (try simp only [isSm, isCp, isLt, isFg, isPC, isSg, isCl, isRC, isLC, isFC, isPCC, b2i_e, b2i_z] at *); omega)
    · refine w_const hZ 6 7 rfl rfl  ?_
      refine w_goto hZ 7 9 rfl ?_
      refine w_zret hZ 9 rfl (by omega) ?_
      exact ret_i hR (by (first | refine b2i_t ?_ | refine b2i_f ?_); (try simp only [isSm, isCp, isLt, isFg, isPC, isSg, isCl, isRC, isLC, isFC, isPCC, b2i_e, b2i_z] at *); omega)
set_option maxRecDepth 100000 in
set_option maxHeartbeats 4000000 in
theorem ao_X6_isSmall : AllOk yX6_isSmall.cls cX6_isSmall 1 0 0 (some .boolean) none pc_X6_isSmall 0 cd_X6_isSmall := ⟨s_iload_n (k := 0) (by decide +kernel) rfl rfl, ⟨s_bipush (by decide +kernel) rfl ⟨by decide, by decide⟩ (by decide +kernel), ⟨s_clt (off := (13)) (by decide +kernel) rfl rfl, ⟨s_iload_n (k := 0) (by decide +kernel) rfl rfl, ⟨s_bipush (by decide +kernel) rfl ⟨by decide, by decide⟩ (by decide +kernel), ⟨s_cge (off := (7)) (by decide +kernel) rfl rfl, ⟨s_iconst (by decide +kernel) rfl ⟨by decide, by decide⟩, ⟨s_goto (off := (4)) (by decide +kernel) rfl, ⟨s_iconst (by decide +kernel) rfl ⟨by decide, by decide⟩, ⟨s_zret rfl (by decide +kernel), trivial⟩⟩⟩⟩⟩⟩⟩⟩⟩⟩
theorem ct_X6_isSmall : Ctr yX6_isSmall cX6_isSmall 1 (some .boolean) 0 0 sp_X6_isSmall := by
  refine ctr_of (by decide +kernel) ao_X6_isSmall rfl ?_
  rintro av M Ret ⟨s, rfl, hR⟩ hok hM
  exact ⟨Nat.le_of_ble_eq_true rfl, fun Z hZ => b_X6_isSmall  s (hok _ (List.mem_of_getElem? (i := 0) rfl)) M Ret  hR hM Z hZ⟩
def sp_X6_isCapital : SP := fun av M Ret => ∃ s : Int, av = [mi s] ∧ (Ret (some (mi (b2i (isCp s)))) M)
theorem k_X6_isCapital {code : List Sem} {Z : KZ} {Ret : KR} {ls : List (Option MV)} {M : Mem} {r : List MV} (hZ : Sim code Z Ret) (ip np : Nat) {s : Int} (hc : code[ip]? = some (I_callS 1 sp_X6_isCapital)) (hn : ip + 1 = np) (h3 : catS r ≤ 8)   (kz : Z np ls (mi (b2i (isCp s)) :: r) M) : Z ip ls (mi s :: r) M := w_callS1 hZ ip np hc hn h3 ⟨_, rfl, kz⟩
def cd_X6_isCapital : List Sem := [I_iload 0, I_const (65), I_clt 8, I_iload 0, I_const (91), I_cge 8, I_const (1), I_goto 9, I_const (0), I_zret]
def pc_X6_isCapital : List Nat := [0, 1, 3, 6, 7, 9, 12, 13, 16, 17]
set_option maxRecDepth 100000 in
set_option maxHeartbeats 4000000 in
theorem b_X6_isCapital (s : Int) (i_s : InR s) (M : Mem) (Ret : KR)  (hR : Ret (some (mi (b2i (isCp s)))) M) (hM : MOk M) (Z : KZ) (hZ : Sim cd_X6_isCapital Z Ret) : Z 0 [some (mi s)] [] M := by
  refine w_iload hZ 0 1 rfl rfl rfl ?_
  refine w_const hZ 1 2 rfl rfl  ?_
  refine w_clt hZ 2 3 rfl rfl (fun c2 => ?_) (fun c2 => ?_)
  · refine w_const hZ 8 9 rfl rfl  ?_
    refine w_zret hZ 9 rfl (by omega) ?_
    exact ret_i hR (by (first | refine b2i_t ?_ | refine b2i_f ?_); (try simp only [isSm, isCp, isLt, isFg, isPC, isSg, isCl, isRC, isLC, isFC, isPCC, b2i_e, b2i_z] at *); omega)
  · refine w_iload hZ 3 4 rfl rfl rfl ?_
    refine w_const hZ 4 5 rfl rfl  ?_
    refine w_cge hZ 5 6 rfl rfl (fun c5 => ?_) (fun c5 => ?_)
    · refine w_const hZ 8 9 rfl rfl  ?_
      refine w_zret hZ 9 rfl (by omega) ?_
      exact ret_i hR (by (first | refine b2i_t ?_ | refine b2i_f ?_); (try simp only [isSm, isCp, isLt, isFg, isPC, isSg, isCl, isRC, isLC, isFC, isPCC, b2i_e, b2i_z] at *); omega)
    · refine w_const hZ 6 7 rfl rfl  ?_
      refine w_goto hZ 7 9 rfl ?_
      refine w_zret hZ 9 rfl (by omega) ?_
      exact ret_i hR (by (first | refine b2i_t ?_ | refine b2i_f ?_); (try simp only [isSm, isCp, isLt, isFg, isPC, isSg, isCl, isRC, isLC, isFC, isPCC, b2i_e, b2i_z] at *); omega)
set_option maxRecDepth 100000 in
set_option maxHeartbeats 4000000 in
theorem ao_X6_isCapital : AllOk yX6_isCapital.cls cX6_isCapital 1 0 0 (some .boolean) none pc_X6_isCapital 0 cd_X6_isCapital := ⟨s_iload_n (k := 0) (by decide +kernel) rfl rfl, ⟨s_bipush (by decide +kernel) rfl ⟨by decide, by decide⟩ (by decide +kernel), ⟨s_clt (off := (13)) (by decide +kernel) rfl rfl, ⟨s_iload_n (k := 0) (by decide +kernel) rfl rfl, ⟨s_bipush (by decide +kernel) rfl ⟨by decide, by decide⟩ (by decide +kernel), ⟨s_cge (off := (7)) (by decide +kernel) rfl rfl, ⟨s_iconst (by decide +kernel) rfl ⟨by decide, by decide⟩, ⟨s_goto (off := (4)) (by decide +kernel) rfl, ⟨s_iconst (by decide +kernel) rfl ⟨by decide, by decide⟩, ⟨s_zret rfl (by decide +kernel), trivial⟩⟩⟩⟩⟩⟩⟩⟩⟩⟩
theorem ct_X6_isCapital : Ctr yX6_isCapital cX6_isCapital 1 (some .boolean) 0 0 sp_X6_isCapital := by
  refine ctr_of (by decide +kernel) ao_X6_isCapital rfl ?_
  rintro av M Ret ⟨s, rfl, hR⟩ hok hM
  exact ⟨Nat.le_of_ble_eq_true rfl, fun Z hZ => b_X6_isCapital  s (hok _ (List.mem_of_getElem? (i := 0) rfl)) M Ret  hR hM Z hZ⟩
def sp_X6_isOfWord : SP := fun av M Ret => ∃ s : Int, av = [mi s] ∧ (Ret (some (mi (b2i (isLt s)))) M)
theorem k_X6_isOfWord {code : List Sem} {Z : KZ} {Ret : KR} {ls : List (Option MV)} {M : Mem} {r : List MV} (hZ : Sim code Z Ret) (ip np : Nat) {s : Int} (hc : code[ip]? = some (I_callS 1 sp_X6_isOfWord)) (hn : ip + 1 = np) (h3 : catS r ≤ 8)   (kz : Z np ls (mi (b2i (isLt s)) :: r) M) : Z ip ls (mi s :: r) M := w_callS1 hZ ip np hc hn h3 ⟨_, rfl, kz⟩
def cd_X6_isOfWord : List Sem := [I_iload 0, I_callS 1 sp_X6_isSmall, I_ifne 6, I_iload 0, I_callS 1 sp_X6_isCapital, I_ifeq 8, I_const (1), I_goto 9, I_const (0), I_zret]
def pc_X6_isOfWord : List Nat := [0, 1, 4, 7, 8, 11, 14, 15, 18, 19]
set_option maxRecDepth 100000 in
set_option maxHeartbeats 4000000 in
theorem b_X6_isOfWord (s : Int) (i_s : InR s) (M : Mem) (Ret : KR)  (hR : Ret (some (mi (b2i (isLt s)))) M) (hM : MOk M) (Z : KZ) (hZ : Sim cd_X6_isOfWord Z Ret) : Z 0 [some (mi s)] [] M := by
  refine w_iload hZ 0 1 rfl rfl rfl ?_
  refine k_X6_isSmall hZ 1 2 rfl rfl (Nat.le_of_ble_eq_true rfl)  ?_
  refine w_ifne hZ 2 3 rfl rfl (fun c2 => ?_) (fun c2 => ?_)
  · refine w_const hZ 6 7 rfl rfl  ?_
    refine w_goto hZ 7 9 rfl ?_
    refine w_zret hZ 9 rfl (by omega) ?_
    exact ret_i hR (by (first | refine b2i_t ?_ | refine b2i_f ?_); (try simp only [isSm, isCp, isLt, isFg, isPC, isSg, isCl, isRC, isLC, isFC, isPCC, b2i_e, b2i_z] at *); omega)
  · refine w_iload hZ 3 4 rfl rfl rfl ?_
    refine k_X6_isCapital hZ 4 5 rfl rfl (Nat.le_of_ble_eq_true rfl)  ?_
    refine w_ifeq hZ 5 6 rfl rfl (fun c5 => ?_) (fun c5 => ?_)
    · refine w_const hZ 8 9 rfl rfl  ?_
      refine w_zret hZ 9 rfl (by omega) ?_
      exact ret_i hR (by (first | refine b2i_t ?_ | refine b2i_f ?_); (try simp only [isSm, isCp, isLt, isFg, isPC, isSg, isCl, isRC, isLC, isFC, isPCC, b2i_e, b2i_z] at *); omega)
    · refine w_const hZ 6 7 rfl rfl  ?_
      refine w_goto hZ 7 9 rfl ?_
      refine w_zret hZ 9 rfl (by omega) ?_
      exact ret_i hR (by (first | refine b2i_t ?_ | refine b2i_f ?_); (try simp only [isSm, isCp, isLt, isFg, isPC, isSg, isCl, isRC, isLC, isFC, isPCC, b2i_e, b2i_z] at *); omega)
set_option maxRecDepth 100000 in
set_option maxHeartbeats 4000000 in
theorem ao_X6_isOfWord : AllOk yX6_isOfWord.cls cX6_isOfWord 1 1 20 (some .boolean) none pc_X6_isOfWord 0 cd_X6_isOfWord := ⟨s_iload_n (k := 0) (by decide +kernel) rfl rfl, ⟨s_callS ct_X6_isSmall (by decide) (by decide) ⟨by decide +kernel, by decide +kernel, by decide +kernel⟩ tw_2_89 tw_2_90 tw_1_1 tw_2_91 (by decide +kernel) rfl, ⟨s_ifne (off := (10)) (by decide +kernel) rfl rfl, ⟨s_iload_n (k := 0) (by decide +kernel) rfl rfl, ⟨s_callS ct_X6_isCapital (by decide) (by decide) ⟨by decide +kernel, by decide +kernel, by decide +kernel⟩ tw_2_92 tw_2_93 tw_1_1 tw_2_94 (by decide +kernel) rfl, ⟨s_ifeq (off := (7)) (by decide +kernel) rfl rfl, ⟨s_iconst (by decide +kernel) rfl ⟨by decide, by decide⟩, ⟨s_goto (off := (4)) (by decide +kernel) rfl, ⟨s_iconst (by decide +kernel) rfl ⟨by decide, by decide⟩, ⟨s_zret rfl (by decide +kernel), trivial⟩⟩⟩⟩⟩⟩⟩⟩⟩⟩
theorem ct_X6_isOfWord : Ctr yX6_isOfWord cX6_isOfWord 1 (some .boolean) 1 20 sp_X6_isOfWord := by
  refine ctr_of (by decide +kernel) ao_X6_isOfWord rfl ?_
  rintro av M Ret ⟨s, rfl, hR⟩ hok hM
  exact ⟨Nat.le_of_ble_eq_true rfl, fun Z hZ => b_X6_isOfWord  s (hok _ (List.mem_of_getElem? (i := 0) rfl)) M Ret  hR hM Z hZ⟩
def sp_X6_letterOf : SP := fun av M Ret => ∃ s : Int, av = [mi s] ∧ (InR (s - 65) ∧ InR (s - 97)) ∧ (Ret (some (mi (ltN s))) M)
theorem k_X6_letterOf {code : List Sem} {Z : KZ} {Ret : KR} {ls : List (Option MV)} {M : Mem} {r : List MV} (hZ : Sim code Z Ret) (ip np : Nat) {s : Int} (hc : code[ip]? = some (I_callS 1 sp_X6_letterOf)) (hn : ip + 1 = np) (h3 : catS r ≤ 8)  (hp : InR (s - 65) ∧ InR (s - 97)) (kz : Z np ls (mi (ltN s) :: r) M) : Z ip ls (mi s :: r) M := w_callS1 hZ ip np hc hn h3 ⟨_, rfl, hp, kz⟩
def cd_X6_letterOf : List Sem := [I_iload 0, I_callS 1 sp_X6_isCapital, I_ifeq 9, I_iload 0, I_const (65), I_sub, I_const (1), I_add, I_goto 14, I_iload 0, I_const (97), I_sub, I_const (1), I_add, I_iret]
def pc_X6_letterOf : List Nat := [0, 1, 4, 7, 8, 10, 11, 12, 13, 16, 17, 19, 20, 21, 22]
set_option maxRecDepth 100000 in
set_option maxHeartbeats 4000000 in
theorem b_X6_letterOf (s : Int) (i_s : InR s) (M : Mem) (Ret : KR) (hp : InR (s - 65) ∧ InR (s - 97)) (hR : Ret (some (mi (ltN s))) M) (hM : MOk M) (Z : KZ) (hZ : Sim cd_X6_letterOf Z Ret) : Z 0 [some (mi s)] [] M := by
  unfold InR at *
  refine w_iload hZ 0 1 rfl rfl rfl ?_
  refine k_X6_isCapital hZ 1 2 rfl rfl (Nat.le_of_ble_eq_true rfl)  ?_
  refine w_ifeq hZ 2 3 rfl rfl (fun c2 => ?_) (fun c2 => ?_)
  · refine w_iload hZ 9 10 rfl rfl rfl ?_
    refine w_const hZ 10 11 rfl rfl  ?_
    refine w_sub hZ 11 12 rfl rfl (by unfold InR; omega) ?_
    refine w_const hZ 12 13 rfl rfl  ?_
    refine w_add hZ 13 14 rfl rfl (by unfold InR; omega) ?_
    refine w_iret hZ 14 rfl ?_
    exact ret_i hR (by simp only [b2i_e, b2i_z] at *; unfold ltN; split <;> (try simp only [isCp] at *) <;> omega)
  · refine w_iload hZ 3 4 rfl rfl rfl ?_
    refine w_const hZ 4 5 rfl rfl  ?_
    refine w_sub hZ 5 6 rfl rfl (by unfold InR; omega) ?_
    refine w_const hZ 6 7 rfl rfl  ?_
    refine w_add hZ 7 8 rfl rfl (by unfold InR; omega) ?_
    refine w_goto hZ 8 14 rfl ?_
    refine w_iret hZ 14 rfl ?_
    exact ret_i hR (by simp only [b2i_e, b2i_z] at *; unfold ltN; split <;> (try simp only [isCp] at *) <;> omega)
set_option maxRecDepth 100000 in
set_option maxHeartbeats 4000000 in
theorem ao_X6_letterOf : AllOk yX6_letterOf.cls cX6_letterOf 1 1 20 (some .int) none pc_X6_letterOf 0 cd_X6_letterOf := ⟨s_iload_n (k := 0) (by decide +kernel) rfl rfl, ⟨s_callS ct_X6_isCapital (by decide) (by decide) ⟨by decide +kernel, by decide +kernel, by decide +kernel⟩ tw_2_92 tw_2_93 tw_1_1 tw_2_94 (by decide +kernel) rfl, ⟨s_ifeq (off := (12)) (by decide +kernel) rfl rfl, ⟨s_iload_n (k := 0) (by decide +kernel) rfl rfl, ⟨s_bipush (by decide +kernel) rfl ⟨by decide, by decide⟩ (by decide +kernel), ⟨s_sub (by decide +kernel) rfl, ⟨s_iconst (by decide +kernel) rfl ⟨by decide, by decide⟩, ⟨s_add (by decide +kernel) rfl, ⟨s_goto (off := (9)) (by decide +kernel) rfl, ⟨s_iload_n (k := 0) (by decide +kernel) rfl rfl, ⟨s_bipush (by decide +kernel) rfl ⟨by decide, by decide⟩ (by decide +kernel), ⟨s_sub (by decide +kernel) rfl, ⟨s_iconst (by decide +kernel) rfl ⟨by decide, by decide⟩, ⟨s_add (by decide +kernel) rfl, ⟨s_iret rfl (by decide +kernel), trivial⟩⟩⟩⟩⟩⟩⟩⟩⟩⟩⟩⟩⟩⟩⟩
theorem ct_X6_letterOf : Ctr yX6_letterOf cX6_letterOf 1 (some .int) 1 20 sp_X6_letterOf := by
  refine ctr_of (by decide +kernel) ao_X6_letterOf rfl ?_
  rintro av M Ret ⟨s, rfl, hp, hR⟩ hok hM
  exact ⟨Nat.le_of_ble_eq_true rfl, fun Z hZ => b_X6_letterOf  s (hok _ (List.mem_of_getElem? (i := 0) rfl)) M Ret hp hR hM Z hZ⟩
def sp_X6_isFigure : SP := fun av M Ret => ∃ s : Int, av = [mi s] ∧ (Ret (some (mi (b2i (isFg s)))) M)
theorem k_X6_isFigure {code : List Sem} {Z : KZ} {Ret : KR} {ls : List (Option MV)} {M : Mem} {r : List MV} (hZ : Sim code Z Ret) (ip np : Nat) {s : Int} (hc : code[ip]? = some (I_callS 1 sp_X6_isFigure)) (hn : ip + 1 = np) (h3 : catS r ≤ 8)   (kz : Z np ls (mi (b2i (isFg s)) :: r) M) : Z ip ls (mi s :: r) M := w_callS1 hZ ip np hc hn h3 ⟨_, rfl, kz⟩
def cd_X6_isFigure : List Sem := [I_iload 0, I_const (48), I_clt 8, I_iload 0, I_const (57), I_cgt 8, I_const (1), I_goto 9, I_const (0), I_zret]
def pc_X6_isFigure : List Nat := [0, 1, 3, 6, 7, 9, 12, 13, 16, 17]
set_option maxRecDepth 100000 in
set_option maxHeartbeats 4000000 in
theorem b_X6_isFigure (s : Int) (i_s : InR s) (M : Mem) (Ret : KR)  (hR : Ret (some (mi (b2i (isFg s)))) M) (hM : MOk M) (Z : KZ) (hZ : Sim cd_X6_isFigure Z Ret) : Z 0 [some (mi s)] [] M := by
  refine w_iload hZ 0 1 rfl rfl rfl ?_
  refine w_const hZ 1 2 rfl rfl  ?_
  refine w_clt hZ 2 3 rfl rfl (fun c2 => ?_) (fun c2 => ?_)
  · refine w_const hZ 8 9 rfl rfl  ?_
    refine w_zret hZ 9 rfl (by omega) ?_
    exact ret_i hR (by (first | refine b2i_t ?_ | refine b2i_f ?_); (try simp only [isSm, isCp, isLt, isFg, isPC, isSg, isCl, isRC, isLC, isFC, isPCC, b2i_e, b2i_z] at *); omega)
  · refine w_iload hZ 3 4 rfl rfl rfl ?_
    refine w_const hZ 4 5 rfl rfl  ?_
    refine w_cgt hZ 5 6 rfl rfl (fun c5 => ?_) (fun c5 => ?_)
    · refine w_const hZ 8 9 rfl rfl  ?_
      refine w_zret hZ 9 rfl (by omega) ?_
      exact ret_i hR (by (first | refine b2i_t ?_ | refine b2i_f ?_); (try simp only [isSm, isCp, isLt, isFg, isPC, isSg, isCl, isRC, isLC, isFC, isPCC, b2i_e, b2i_z] at *); omega)
    · refine w_const hZ 6 7 rfl rfl  ?_
      refine w_goto hZ 7 9 rfl ?_
      refine w_zret hZ 9 rfl (by omega) ?_
      exact ret_i hR (by (first | refine b2i_t ?_ | refine b2i_f ?_); (try simp only [isSm, isCp, isLt, isFg, isPC, isSg, isCl, isRC, isLC, isFC, isPCC, b2i_e, b2i_z] at *); omega)
set_option maxRecDepth 100000 in
set_option maxHeartbeats 4000000 in
theorem ao_X6_isFigure : AllOk yX6_isFigure.cls cX6_isFigure 1 0 0 (some .boolean) none pc_X6_isFigure 0 cd_X6_isFigure := ⟨s_iload_n (k := 0) (by decide +kernel) rfl rfl, ⟨s_bipush (by decide +kernel) rfl ⟨by decide, by decide⟩ (by decide +kernel), ⟨s_clt (off := (13)) (by decide +kernel) rfl rfl, ⟨s_iload_n (k := 0) (by decide +kernel) rfl rfl, ⟨s_bipush (by decide +kernel) rfl ⟨by decide, by decide⟩ (by decide +kernel), ⟨s_cgt (off := (7)) (by decide +kernel) rfl rfl, ⟨s_iconst (by decide +kernel) rfl ⟨by decide, by decide⟩, ⟨s_goto (off := (4)) (by decide +kernel) rfl, ⟨s_iconst (by decide +kernel) rfl ⟨by decide, by decide⟩, ⟨s_zret rfl (by decide +kernel), trivial⟩⟩⟩⟩⟩⟩⟩⟩⟩⟩
theorem ct_X6_isFigure : Ctr yX6_isFigure cX6_isFigure 1 (some .boolean) 0 0 sp_X6_isFigure := by
  refine ctr_of (by decide +kernel) ao_X6_isFigure rfl ?_
  rintro av M Ret ⟨s, rfl, hR⟩ hok hM
  exact ⟨Nat.le_of_ble_eq_true rfl, fun Z hZ => b_X6_isFigure  s (hok _ (List.mem_of_getElem? (i := 0) rfl)) M Ret  hR hM Z hZ⟩
def sp_X6_isPointOrComma : SP := fun av M Ret => ∃ s : Int, av = [mi s] ∧ (Ret (some (mi (b2i (isPC s)))) M)
theorem k_X6_isPointOrComma {code : List Sem} {Z : KZ} {Ret : KR} {ls : List (Option MV)} {M : Mem} {r : List MV} (hZ : Sim code Z Ret) (ip np : Nat) {s : Int} (hc : code[ip]? = some (I_callS 1 sp_X6_isPointOrComma)) (hn : ip + 1 = np) (h3 : catS r ≤ 8)   (kz : Z np ls (mi (b2i (isPC s)) :: r) M) : Z ip ls (mi s :: r) M := w_callS1 hZ ip np hc hn h3 ⟨_, rfl, kz⟩
def cd_X6_isPointOrComma : List Sem := [I_iload 0, I_const (46), I_ceq 6, I_iload 0, I_const (44), I_cne 8, I_const (1), I_goto 9, I_const (0), I_zret]
def pc_X6_isPointOrComma : List Nat := [0, 1, 3, 6, 7, 9, 12, 13, 16, 17]
set_option maxRecDepth 100000 in
set_option maxHeartbeats 4000000 in
theorem b_X6_isPointOrComma (s : Int) (i_s : InR s) (M : Mem) (Ret : KR)  (hR : Ret (some (mi (b2i (isPC s)))) M) (hM : MOk M) (Z : KZ) (hZ : Sim cd_X6_isPointOrComma Z Ret) : Z 0 [some (mi s)] [] M := by
  refine w_iload hZ 0 1 rfl rfl rfl ?_
  refine w_const hZ 1 2 rfl rfl  ?_
  refine w_ceq hZ 2 3 rfl rfl (fun c2 => ?_) (fun c2 => ?_)
  · refine w_const hZ 6 7 rfl rfl  ?_
    refine w_goto hZ 7 9 rfl ?_
    refine w_zret hZ 9 rfl (by omega) ?_
    exact ret_i hR (by (first | refine b2i_t ?_ | refine b2i_f ?_); (try simp only [isSm, isCp, isLt, isFg, isPC, isSg, isCl, isRC, isLC, isFC, isPCC, b2i_e, b2i_z] at *); omega)
  · refine w_iload hZ 3 4 rfl rfl rfl ?_
    refine w_const hZ 4 5 rfl rfl  ?_
    refine w_cne hZ 5 6 rfl rfl (fun c5 => ?_) (fun c5 => ?_)
    · refine w_const hZ 8 9 rfl rfl  ?_
      refine w_zret hZ 9 rfl (by omega) ?_
      exact ret_i hR (by (first | refine b2i_t ?_ | refine b2i_f ?_); (try simp only [isSm, isCp, isLt, isFg, isPC, isSg, isCl, isRC, isLC, isFC, isPCC, b2i_e, b2i_z] at *); omega)
    · refine w_const hZ 6 7 rfl rfl  ?_
      refine w_goto hZ 7 9 rfl ?_
      refine w_zret hZ 9 rfl (by omega) ?_
      exact ret_i hR (by (first | refine b2i_t ?_ | refine b2i_f ?_); (try simp only [isSm, isCp, isLt, isFg, isPC, isSg, isCl, isRC, isLC, isFC, isPCC, b2i_e, b2i_z] at *); omega)
set_option maxRecDepth 100000 in
set_option maxHeartbeats 4000000 in
theorem ao_X6_isPointOrComma : AllOk yX6_isPointOrComma.cls cX6_isPointOrComma 1 0 0 (some .boolean) none pc_X6_isPointOrComma 0 cd_X6_isPointOrComma := ⟨s_iload_n (k := 0) (by decide +kernel) rfl rfl, ⟨s_bipush (by decide +kernel) rfl ⟨by decide, by decide⟩ (by decide +kernel), ⟨s_ceq (off := (9)) (by decide +kernel) rfl rfl, ⟨s_iload_n (k := 0) (by decide +kernel) rfl rfl, ⟨s_bipush (by decide +kernel) rfl ⟨by decide, by decide⟩ (by decide +kernel), ⟨s_cne (off := (7)) (by decide +kernel) rfl rfl, ⟨s_iconst (by decide +kernel) rfl ⟨by decide, by decide⟩, ⟨s_goto (off := (4)) (by decide +kernel) rfl, ⟨s_iconst (by decide +kernel) rfl ⟨by decide, by decide⟩, ⟨s_zret rfl (by decide +kernel), trivial⟩⟩⟩⟩⟩⟩⟩⟩⟩⟩
theorem ct_X6_isPointOrComma : Ctr yX6_isPointOrComma cX6_isPointOrComma 1 (some .boolean) 0 0 sp_X6_isPointOrComma := by
  refine ctr_of (by decide +kernel) ao_X6_isPointOrComma rfl ?_
  rintro av M Ret ⟨s, rfl, hR⟩ hok hM
  exact ⟨Nat.le_of_ble_eq_true rfl, fun Z hZ => b_X6_isPointOrComma  s (hok _ (List.mem_of_getElem? (i := 0) rfl)) M Ret  hR hM Z hZ⟩
def sp_X6_isSign : SP := fun av M Ret => ∃ s : Int, av = [mi s] ∧ (Ret (some (mi (b2i (isSg s)))) M)
theorem k_X6_isSign {code : List Sem} {Z : KZ} {Ret : KR} {ls : List (Option MV)} {M : Mem} {r : List MV} (hZ : Sim code Z Ret) (ip np : Nat) {s : Int} (hc : code[ip]? = some (I_callS 1 sp_X6_isSign)) (hn : ip + 1 = np) (h3 : catS r ≤ 8)   (kz : Z np ls (mi (b2i (isSg s)) :: r) M) : Z ip ls (mi s :: r) M := w_callS1 hZ ip np hc hn h3 ⟨_, rfl, kz⟩
def cd_X6_isSign : List Sem := [I_iload 0, I_callS 1 sp_X6_isOfWord, I_ifne 15, I_iload 0, I_callS 1 sp_X6_isFigure, I_ifne 15, I_iload 0, I_callS 1 sp_X6_isPointOrComma, I_ifne 15, I_iload 0, I_const (45), I_ceq 15, I_iload 0, I_const (32), I_cne 17, I_const (1), I_goto 18, I_const (0), I_zret]
def pc_X6_isSign : List Nat := [0, 1, 4, 7, 8, 11, 14, 15, 18, 21, 22, 24, 27, 28, 30, 33, 34, 37, 38]
set_option maxRecDepth 100000 in
set_option maxHeartbeats 4000000 in
theorem b_X6_isSign (s : Int) (i_s : InR s) (M : Mem) (Ret : KR)  (hR : Ret (some (mi (b2i (isSg s)))) M) (hM : MOk M) (Z : KZ) (hZ : Sim cd_X6_isSign Z Ret) : Z 0 [some (mi s)] [] M := by
  refine w_iload hZ 0 1 rfl rfl rfl ?_
  refine k_X6_isOfWord hZ 1 2 rfl rfl (Nat.le_of_ble_eq_true rfl)  ?_
  refine w_ifne hZ 2 3 rfl rfl (fun c2 => ?_) (fun c2 => ?_)
  · refine w_const hZ 15 16 rfl rfl  ?_
    refine w_goto hZ 16 18 rfl ?_
    refine w_zret hZ 18 rfl (by omega) ?_
    exact ret_i hR (by (first | refine b2i_t ?_ | refine b2i_f ?_); (try simp only [isSm, isCp, isLt, isFg, isPC, isSg, isCl, isRC, isLC, isFC, isPCC, b2i_e, b2i_z] at *); omega)
  · refine w_iload hZ 3 4 rfl rfl rfl ?_
    refine k_X6_isFigure hZ 4 5 rfl rfl (Nat.le_of_ble_eq_true rfl)  ?_
    refine w_ifne hZ 5 6 rfl rfl (fun c5 => ?_) (fun c5 => ?_)
    · refine w_const hZ 15 16 rfl rfl  ?_
      refine w_goto hZ 16 18 rfl ?_
      refine w_zret hZ 18 rfl (by omega) ?_
      exact ret_i hR (by (first | refine b2i_t ?_ | refine b2i_f ?_); (try simp only [isSm, isCp, isLt, isFg, isPC, isSg, isCl, isRC, isLC, isFC, isPCC, b2i_e, b2i_z] at *); omega)
    · refine w_iload hZ 6 7 rfl rfl rfl ?_
      refine k_X6_isPointOrComma hZ 7 8 rfl rfl (Nat.le_of_ble_eq_true rfl)  ?_
      refine w_ifne hZ 8 9 rfl rfl (fun c8 => ?_) (fun c8 => ?_)
      · refine w_const hZ 15 16 rfl rfl  ?_
        refine w_goto hZ 16 18 rfl ?_
        refine w_zret hZ 18 rfl (by omega) ?_
        exact ret_i hR (by (first | refine b2i_t ?_ | refine b2i_f ?_); (try simp only [isSm, isCp, isLt, isFg, isPC, isSg, isCl, isRC, isLC, isFC, isPCC, b2i_e, b2i_z] at *); omega)
      · refine w_iload hZ 9 10 rfl rfl rfl ?_
        refine w_const hZ 10 11 rfl rfl  ?_
        refine w_ceq hZ 11 12 rfl rfl (fun c11 => ?_) (fun c11 => ?_)
        · refine w_const hZ 15 16 rfl rfl  ?_
          refine w_goto hZ 16 18 rfl ?_
          refine w_zret hZ 18 rfl (by omega) ?_
          exact ret_i hR (by (first | refine b2i_t ?_ | refine b2i_f ?_); (try simp only [isSm, isCp, isLt, isFg, isPC, isSg, isCl, isRC, isLC, isFC, isPCC, b2i_e, b2i_z] at *); omega)
        · refine w_iload hZ 12 13 rfl rfl rfl ?_
          refine w_const hZ 13 14 rfl rfl  ?_
          refine w_cne hZ 14 15 rfl rfl (fun c14 => ?_) (fun c14 => ?_)
          · refine w_const hZ 17 18 rfl rfl  ?_
            refine w_zret hZ 18 rfl (by omega) ?_
            exact ret_i hR (by (first | refine b2i_t ?_ | refine b2i_f ?_); (try simp only [isSm, isCp, isLt, isFg, isPC, isSg, isCl, isRC, isLC, isFC, isPCC, b2i_e, b2i_z] at *); omega)
          · refine w_const hZ 15 16 rfl rfl  ?_
            refine w_goto hZ 16 18 rfl ?_
            refine w_zret hZ 18 rfl (by omega) ?_
            exact ret_i hR (by (first | refine b2i_t ?_ | refine b2i_f ?_); (try simp only [isSm, isCp, isLt, isFg, isPC, isSg, isCl, isRC, isLC, isFC, isPCC, b2i_e, b2i_z] at *); omega)
set_option maxRecDepth 100000 in
set_option maxHeartbeats 4000000 in
theorem ao_X6_isSign : AllOk yX6_isSign.cls cX6_isSign 1 2 40 (some .boolean) none pc_X6_isSign 0 cd_X6_isSign := ⟨s_iload_n (k := 0) (by decide +kernel) rfl rfl, ⟨s_callS ct_X6_isOfWord (by decide) (by decide) ⟨by decide +kernel, by decide +kernel, by decide +kernel⟩ tw_2_86 tw_2_87 tw_1_1 tw_2_88 (by decide +kernel) rfl, ⟨s_ifne (off := (29)) (by decide +kernel) rfl rfl, ⟨s_iload_n (k := 0) (by decide +kernel) rfl rfl, ⟨s_callS ct_X6_isFigure (by decide) (by decide) ⟨by decide +kernel, by decide +kernel, by decide +kernel⟩ tw_2_95 tw_2_96 tw_1_1 tw_2_97 (by decide +kernel) rfl, ⟨s_ifne (off := (22)) (by decide +kernel) rfl rfl, ⟨s_iload_n (k := 0) (by decide +kernel) rfl rfl, ⟨s_callS ct_X6_isPointOrComma (by decide) (by decide) ⟨by decide +kernel, by decide +kernel, by decide +kernel⟩ tw_2_98 tw_2_99 tw_1_1 tw_2_100 (by decide +kernel) rfl, ⟨s_ifne (off := (15)) (by decide +kernel) rfl rfl, ⟨s_iload_n (k := 0) (by decide +kernel) rfl rfl, ⟨s_bipush (by decide +kernel) rfl ⟨by decide, by decide⟩ (by decide +kernel), ⟨s_ceq (off := (9)) (by decide +kernel) rfl rfl, ⟨s_iload_n (k := 0) (by decide +kernel) rfl rfl, ⟨s_bipush (by decide +kernel) rfl ⟨by decide, by decide⟩ (by decide +kernel), ⟨s_cne (off := (7)) (by decide +kernel) rfl rfl, ⟨s_iconst (by decide +kernel) rfl ⟨by decide, by decide⟩, ⟨s_goto (off := (4)) (by decide +kernel) rfl, ⟨s_iconst (by decide +kernel) rfl ⟨by decide, by decide⟩, ⟨s_zret rfl (by decide +kernel), trivial⟩⟩⟩⟩⟩⟩⟩⟩⟩⟩⟩⟩⟩⟩⟩⟩⟩⟩⟩
theorem ct_X6_isSign : Ctr yX6_isSign cX6_isSign 1 (some .boolean) 2 40 sp_X6_isSign := by
  refine ctr_of (by decide +kernel) ao_X6_isSign rfl ?_
  rintro av M Ret ⟨s, rfl, hR⟩ hok hM
  exact ⟨Nat.le_of_ble_eq_true rfl, fun Z hZ => b_X6_isSign  s (hok _ (List.mem_of_getElem? (i := 0) rfl)) M Ret  hR hM Z hZ⟩
def sp_X6_isCell : SP := fun av M Ret => ∃ s : Int, av = [mi s] ∧ (Ret (some (mi (b2i (isCl s)))) M)
theorem k_X6_isCell {code : List Sem} {Z : KZ} {Ret : KR} {ls : List (Option MV)} {M : Mem} {r : List MV} (hZ : Sim code Z Ret) (ip np : Nat) {s : Int} (hc : code[ip]? = some (I_callS 1 sp_X6_isCell)) (hn : ip + 1 = np) (h3 : catS r ≤ 8)   (kz : Z np ls (mi (b2i (isCl s)) :: r) M) : Z ip ls (mi s :: r) M := w_callS1 hZ ip np hc hn h3 ⟨_, rfl, kz⟩
def cd_X6_isCell : List Sem := [I_iload 0, I_iflt 7, I_iload 0, I_const (63), I_cgt 7, I_const (1), I_goto 8, I_const (0), I_zret]
def pc_X6_isCell : List Nat := [0, 1, 4, 5, 7, 10, 11, 14, 15]
set_option maxRecDepth 100000 in
set_option maxHeartbeats 4000000 in
theorem b_X6_isCell (s : Int) (i_s : InR s) (M : Mem) (Ret : KR)  (hR : Ret (some (mi (b2i (isCl s)))) M) (hM : MOk M) (Z : KZ) (hZ : Sim cd_X6_isCell Z Ret) : Z 0 [some (mi s)] [] M := by
  refine w_iload hZ 0 1 rfl rfl rfl ?_
  refine w_iflt hZ 1 2 rfl rfl (fun c1 => ?_) (fun c1 => ?_)
  · refine w_const hZ 7 8 rfl rfl  ?_
    refine w_zret hZ 8 rfl (by omega) ?_
    exact ret_i hR (by (first | refine b2i_t ?_ | refine b2i_f ?_); (try simp only [isSm, isCp, isLt, isFg, isPC, isSg, isCl, isRC, isLC, isFC, isPCC, b2i_e, b2i_z] at *); omega)
  · refine w_iload hZ 2 3 rfl rfl rfl ?_
    refine w_const hZ 3 4 rfl rfl  ?_
    refine w_cgt hZ 4 5 rfl rfl (fun c4 => ?_) (fun c4 => ?_)
    · refine w_const hZ 7 8 rfl rfl  ?_
      refine w_zret hZ 8 rfl (by omega) ?_
      exact ret_i hR (by (first | refine b2i_t ?_ | refine b2i_f ?_); (try simp only [isSm, isCp, isLt, isFg, isPC, isSg, isCl, isRC, isLC, isFC, isPCC, b2i_e, b2i_z] at *); omega)
    · refine w_const hZ 5 6 rfl rfl  ?_
      refine w_goto hZ 6 8 rfl ?_
      refine w_zret hZ 8 rfl (by omega) ?_
      exact ret_i hR (by (first | refine b2i_t ?_ | refine b2i_f ?_); (try simp only [isSm, isCp, isLt, isFg, isPC, isSg, isCl, isRC, isLC, isFC, isPCC, b2i_e, b2i_z] at *); omega)
set_option maxRecDepth 100000 in
set_option maxHeartbeats 4000000 in
theorem ao_X6_isCell : AllOk yX6_isCell.cls cX6_isCell 1 0 0 (some .boolean) none pc_X6_isCell 0 cd_X6_isCell := ⟨s_iload_n (k := 0) (by decide +kernel) rfl rfl, ⟨s_iflt (off := (13)) (by decide +kernel) rfl rfl, ⟨s_iload_n (k := 0) (by decide +kernel) rfl rfl, ⟨s_bipush (by decide +kernel) rfl ⟨by decide, by decide⟩ (by decide +kernel), ⟨s_cgt (off := (7)) (by decide +kernel) rfl rfl, ⟨s_iconst (by decide +kernel) rfl ⟨by decide, by decide⟩, ⟨s_goto (off := (4)) (by decide +kernel) rfl, ⟨s_iconst (by decide +kernel) rfl ⟨by decide, by decide⟩, ⟨s_zret rfl (by decide +kernel), trivial⟩⟩⟩⟩⟩⟩⟩⟩⟩
theorem ct_X6_isCell : Ctr yX6_isCell cX6_isCell 1 (some .boolean) 0 0 sp_X6_isCell := by
  refine ctr_of (by decide +kernel) ao_X6_isCell rfl ?_
  rintro av M Ret ⟨s, rfl, hR⟩ hok hM
  exact ⟨Nat.le_of_ble_eq_true rfl, fun Z hZ => b_X6_isCell  s (hok _ (List.mem_of_getElem? (i := 0) rfl)) M Ret  hR hM Z hZ⟩
def sp_X6_isRuleCell : SP := fun av M Ret => ∃ s : Int, av = [mi s] ∧ (Ret (some (mi (b2i (isRC s)))) M)
theorem k_X6_isRuleCell {code : List Sem} {Z : KZ} {Ret : KR} {ls : List (Option MV)} {M : Mem} {r : List MV} (hZ : Sim code Z Ret) (ip np : Nat) {s : Int} (hc : code[ip]? = some (I_callS 1 sp_X6_isRuleCell)) (hn : ip + 1 = np) (h3 : catS r ≤ 8)   (kz : Z np ls (mi (b2i (isRC s)) :: r) M) : Z ip ls (mi s :: r) M := w_callS1 hZ ip np hc hn h3 ⟨_, rfl, kz⟩
def cd_X6_isRuleCell : List Sem := [I_iload 0, I_const (30), I_clt 8, I_iload 0, I_const (59), I_cgt 8, I_const (1), I_goto 9, I_const (0), I_zret]
def pc_X6_isRuleCell : List Nat := [0, 1, 3, 6, 7, 9, 12, 13, 16, 17]
set_option maxRecDepth 100000 in
set_option maxHeartbeats 4000000 in
theorem b_X6_isRuleCell (s : Int) (i_s : InR s) (M : Mem) (Ret : KR)  (hR : Ret (some (mi (b2i (isRC s)))) M) (hM : MOk M) (Z : KZ) (hZ : Sim cd_X6_isRuleCell Z Ret) : Z 0 [some (mi s)] [] M := by
  refine w_iload hZ 0 1 rfl rfl rfl ?_
  refine w_const hZ 1 2 rfl rfl  ?_
  refine w_clt hZ 2 3 rfl rfl (fun c2 => ?_) (fun c2 => ?_)
  · refine w_const hZ 8 9 rfl rfl  ?_
    refine w_zret hZ 9 rfl (by omega) ?_
    exact ret_i hR (by (first | refine b2i_t ?_ | refine b2i_f ?_); (try simp only [isSm, isCp, isLt, isFg, isPC, isSg, isCl, isRC, isLC, isFC, isPCC, b2i_e, b2i_z] at *); omega)
  · refine w_iload hZ 3 4 rfl rfl rfl ?_
    refine w_const hZ 4 5 rfl rfl  ?_
    refine w_cgt hZ 5 6 rfl rfl (fun c5 => ?_) (fun c5 => ?_)
    · refine w_const hZ 8 9 rfl rfl  ?_
      refine w_zret hZ 9 rfl (by omega) ?_
      exact ret_i hR (by (first | refine b2i_t ?_ | refine b2i_f ?_); (try simp only [isSm, isCp, isLt, isFg, isPC, isSg, isCl, isRC, isLC, isFC, isPCC, b2i_e, b2i_z] at *); omega)
    · refine w_const hZ 6 7 rfl rfl  ?_
      refine w_goto hZ 7 9 rfl ?_
      refine w_zret hZ 9 rfl (by omega) ?_
      exact ret_i hR (by (first | refine b2i_t ?_ | refine b2i_f ?_); (try simp only [isSm, isCp, isLt, isFg, isPC, isSg, isCl, isRC, isLC, isFC, isPCC, b2i_e, b2i_z] at *); omega)
set_option maxRecDepth 100000 in
set_option maxHeartbeats 4000000 in
theorem ao_X6_isRuleCell : AllOk yX6_isRuleCell.cls cX6_isRuleCell 1 0 0 (some .boolean) none pc_X6_isRuleCell 0 cd_X6_isRuleCell := ⟨s_iload_n (k := 0) (by decide +kernel) rfl rfl, ⟨s_bipush (by decide +kernel) rfl ⟨by decide, by decide⟩ (by decide +kernel), ⟨s_clt (off := (13)) (by decide +kernel) rfl rfl, ⟨s_iload_n (k := 0) (by decide +kernel) rfl rfl, ⟨s_bipush (by decide +kernel) rfl ⟨by decide, by decide⟩ (by decide +kernel), ⟨s_cgt (off := (7)) (by decide +kernel) rfl rfl, ⟨s_iconst (by decide +kernel) rfl ⟨by decide, by decide⟩, ⟨s_goto (off := (4)) (by decide +kernel) rfl, ⟨s_iconst (by decide +kernel) rfl ⟨by decide, by decide⟩, ⟨s_zret rfl (by decide +kernel), trivial⟩⟩⟩⟩⟩⟩⟩⟩⟩⟩
theorem ct_X6_isRuleCell : Ctr yX6_isRuleCell cX6_isRuleCell 1 (some .boolean) 0 0 sp_X6_isRuleCell := by
  refine ctr_of (by decide +kernel) ao_X6_isRuleCell rfl ?_
  rintro av M Ret ⟨s, rfl, hR⟩ hok hM
  exact ⟨Nat.le_of_ble_eq_true rfl, fun Z hZ => b_X6_isRuleCell  s (hok _ (List.mem_of_getElem? (i := 0) rfl)) M Ret  hR hM Z hZ⟩
def sp_X6_isLetterCell : SP := fun av M Ret => ∃ s : Int, av = [mi s] ∧ (Ret (some (mi (b2i (isLC s)))) M)
theorem k_X6_isLetterCell {code : List Sem} {Z : KZ} {Ret : KR} {ls : List (Option MV)} {M : Mem} {r : List MV} (hZ : Sim code Z Ret) (ip np : Nat) {s : Int} (hc : code[ip]? = some (I_callS 1 sp_X6_isLetterCell)) (hn : ip + 1 = np) (h3 : catS r ≤ 8)   (kz : Z np ls (mi (b2i (isLC s)) :: r) M) : Z ip ls (mi s :: r) M := w_callS1 hZ ip np hc hn h3 ⟨_, rfl, kz⟩
def cd_X6_isLetterCell : List Sem := [I_iload 0, I_const (1), I_clt 8, I_iload 0, I_const (26), I_cgt 8, I_const (1), I_goto 9, I_const (0), I_zret]
def pc_X6_isLetterCell : List Nat := [0, 1, 2, 5, 6, 8, 11, 12, 15, 16]
set_option maxRecDepth 100000 in
set_option maxHeartbeats 4000000 in
theorem b_X6_isLetterCell (s : Int) (i_s : InR s) (M : Mem) (Ret : KR)  (hR : Ret (some (mi (b2i (isLC s)))) M) (hM : MOk M) (Z : KZ) (hZ : Sim cd_X6_isLetterCell Z Ret) : Z 0 [some (mi s)] [] M := by
  refine w_iload hZ 0 1 rfl rfl rfl ?_
  refine w_const hZ 1 2 rfl rfl  ?_
  refine w_clt hZ 2 3 rfl rfl (fun c2 => ?_) (fun c2 => ?_)
  · refine w_const hZ 8 9 rfl rfl  ?_
    refine w_zret hZ 9 rfl (by omega) ?_
    exact ret_i hR (by (first | refine b2i_t ?_ | refine b2i_f ?_); (try simp only [isSm, isCp, isLt, isFg, isPC, isSg, isCl, isRC, isLC, isFC, isPCC, b2i_e, b2i_z] at *); omega)
  · refine w_iload hZ 3 4 rfl rfl rfl ?_
    refine w_const hZ 4 5 rfl rfl  ?_
    refine w_cgt hZ 5 6 rfl rfl (fun c5 => ?_) (fun c5 => ?_)
    · refine w_const hZ 8 9 rfl rfl  ?_
      refine w_zret hZ 9 rfl (by omega) ?_
      exact ret_i hR (by (first | refine b2i_t ?_ | refine b2i_f ?_); (try simp only [isSm, isCp, isLt, isFg, isPC, isSg, isCl, isRC, isLC, isFC, isPCC, b2i_e, b2i_z] at *); omega)
    · refine w_const hZ 6 7 rfl rfl  ?_
      refine w_goto hZ 7 9 rfl ?_
      refine w_zret hZ 9 rfl (by omega) ?_
      exact ret_i hR (by (first | refine b2i_t ?_ | refine b2i_f ?_); (try simp only [isSm, isCp, isLt, isFg, isPC, isSg, isCl, isRC, isLC, isFC, isPCC, b2i_e, b2i_z] at *); omega)
set_option maxRecDepth 100000 in
set_option maxHeartbeats 4000000 in
theorem ao_X6_isLetterCell : AllOk yX6_isLetterCell.cls cX6_isLetterCell 1 0 0 (some .boolean) none pc_X6_isLetterCell 0 cd_X6_isLetterCell := ⟨s_iload_n (k := 0) (by decide +kernel) rfl rfl, ⟨s_iconst (by decide +kernel) rfl ⟨by decide, by decide⟩, ⟨s_clt (off := (13)) (by decide +kernel) rfl rfl, ⟨s_iload_n (k := 0) (by decide +kernel) rfl rfl, ⟨s_bipush (by decide +kernel) rfl ⟨by decide, by decide⟩ (by decide +kernel), ⟨s_cgt (off := (7)) (by decide +kernel) rfl rfl, ⟨s_iconst (by decide +kernel) rfl ⟨by decide, by decide⟩, ⟨s_goto (off := (4)) (by decide +kernel) rfl, ⟨s_iconst (by decide +kernel) rfl ⟨by decide, by decide⟩, ⟨s_zret rfl (by decide +kernel), trivial⟩⟩⟩⟩⟩⟩⟩⟩⟩⟩
theorem ct_X6_isLetterCell : Ctr yX6_isLetterCell cX6_isLetterCell 1 (some .boolean) 0 0 sp_X6_isLetterCell := by
  refine ctr_of (by decide +kernel) ao_X6_isLetterCell rfl ?_
  rintro av M Ret ⟨s, rfl, hR⟩ hok hM
  exact ⟨Nat.le_of_ble_eq_true rfl, fun Z hZ => b_X6_isLetterCell  s (hok _ (List.mem_of_getElem? (i := 0) rfl)) M Ret  hR hM Z hZ⟩
def sp_X6_isFigureCell : SP := fun av M Ret => ∃ s : Int, av = [mi s] ∧ (Ret (some (mi (b2i (isFC s)))) M)
theorem k_X6_isFigureCell {code : List Sem} {Z : KZ} {Ret : KR} {ls : List (Option MV)} {M : Mem} {r : List MV} (hZ : Sim code Z Ret) (ip np : Nat) {s : Int} (hc : code[ip]? = some (I_callS 1 sp_X6_isFigureCell)) (hn : ip + 1 = np) (h3 : catS r ≤ 8)   (kz : Z np ls (mi (b2i (isFC s)) :: r) M) : Z ip ls (mi s :: r) M := w_callS1 hZ ip np hc hn h3 ⟨_, rfl, kz⟩
def cd_X6_isFigureCell : List Sem := [I_iload 0, I_const (1), I_clt 8, I_iload 0, I_const (10), I_cgt 8, I_const (1), I_goto 9, I_const (0), I_zret]
def pc_X6_isFigureCell : List Nat := [0, 1, 2, 5, 6, 8, 11, 12, 15, 16]
set_option maxRecDepth 100000 in
set_option maxHeartbeats 4000000 in
theorem b_X6_isFigureCell (s : Int) (i_s : InR s) (M : Mem) (Ret : KR)  (hR : Ret (some (mi (b2i (isFC s)))) M) (hM : MOk M) (Z : KZ) (hZ : Sim cd_X6_isFigureCell Z Ret) : Z 0 [some (mi s)] [] M := by
  refine w_iload hZ 0 1 rfl rfl rfl ?_
  refine w_const hZ 1 2 rfl rfl  ?_
  refine w_clt hZ 2 3 rfl rfl (fun c2 => ?_) (fun c2 => ?_)
  · refine w_const hZ 8 9 rfl rfl  ?_
    refine w_zret hZ 9 rfl (by omega) ?_
    exact ret_i hR (by (first | refine b2i_t ?_ | refine b2i_f ?_); (try simp only [isSm, isCp, isLt, isFg, isPC, isSg, isCl, isRC, isLC, isFC, isPCC, b2i_e, b2i_z] at *); omega)
  · refine w_iload hZ 3 4 rfl rfl rfl ?_
    refine w_const hZ 4 5 rfl rfl  ?_
    refine w_cgt hZ 5 6 rfl rfl (fun c5 => ?_) (fun c5 => ?_)
    · refine w_const hZ 8 9 rfl rfl  ?_
      refine w_zret hZ 9 rfl (by omega) ?_
      exact ret_i hR (by (first | refine b2i_t ?_ | refine b2i_f ?_); (try simp only [isSm, isCp, isLt, isFg, isPC, isSg, isCl, isRC, isLC, isFC, isPCC, b2i_e, b2i_z] at *); omega)
    · refine w_const hZ 6 7 rfl rfl  ?_
      refine w_goto hZ 7 9 rfl ?_
      refine w_zret hZ 9 rfl (by omega) ?_
      exact ret_i hR (by (first | refine b2i_t ?_ | refine b2i_f ?_); (try simp only [isSm, isCp, isLt, isFg, isPC, isSg, isCl, isRC, isLC, isFC, isPCC, b2i_e, b2i_z] at *); omega)
set_option maxRecDepth 100000 in
set_option maxHeartbeats 4000000 in
theorem ao_X6_isFigureCell : AllOk yX6_isFigureCell.cls cX6_isFigureCell 1 0 0 (some .boolean) none pc_X6_isFigureCell 0 cd_X6_isFigureCell := ⟨s_iload_n (k := 0) (by decide +kernel) rfl rfl, ⟨s_iconst (by decide +kernel) rfl ⟨by decide, by decide⟩, ⟨s_clt (off := (13)) (by decide +kernel) rfl rfl, ⟨s_iload_n (k := 0) (by decide +kernel) rfl rfl, ⟨s_bipush (by decide +kernel) rfl ⟨by decide, by decide⟩ (by decide +kernel), ⟨s_cgt (off := (7)) (by decide +kernel) rfl rfl, ⟨s_iconst (by decide +kernel) rfl ⟨by decide, by decide⟩, ⟨s_goto (off := (4)) (by decide +kernel) rfl, ⟨s_iconst (by decide +kernel) rfl ⟨by decide, by decide⟩, ⟨s_zret rfl (by decide +kernel), trivial⟩⟩⟩⟩⟩⟩⟩⟩⟩⟩
theorem ct_X6_isFigureCell : Ctr yX6_isFigureCell cX6_isFigureCell 1 (some .boolean) 0 0 sp_X6_isFigureCell := by
  refine ctr_of (by decide +kernel) ao_X6_isFigureCell rfl ?_
  rintro av M Ret ⟨s, rfl, hR⟩ hok hM
  exact ⟨Nat.le_of_ble_eq_true rfl, fun Z hZ => b_X6_isFigureCell  s (hok _ (List.mem_of_getElem? (i := 0) rfl)) M Ret  hR hM Z hZ⟩
def sp_X6_isPointOrCommaCell : SP := fun av M Ret => ∃ s : Int, av = [mi s] ∧ (Ret (some (mi (b2i (isPCC s)))) M)
theorem k_X6_isPointOrCommaCell {code : List Sem} {Z : KZ} {Ret : KR} {ls : List (Option MV)} {M : Mem} {r : List MV} (hZ : Sim code Z Ret) (ip np : Nat) {s : Int} (hc : code[ip]? = some (I_callS 1 sp_X6_isPointOrCommaCell)) (hn : ip + 1 = np) (h3 : catS r ≤ 8)   (kz : Z np ls (mi (b2i (isPCC s)) :: r) M) : Z ip ls (mi s :: r) M := w_callS1 hZ ip np hc hn h3 ⟨_, rfl, kz⟩
def cd_X6_isPointOrCommaCell : List Sem := [I_iload 0, I_const (27), I_ceq 6, I_iload 0, I_const (28), I_cne 8, I_const (1), I_goto 9, I_const (0), I_zret]
def pc_X6_isPointOrCommaCell : List Nat := [0, 1, 3, 6, 7, 9, 12, 13, 16, 17]
set_option maxRecDepth 100000 in
set_option maxHeartbeats 4000000 in
theorem b_X6_isPointOrCommaCell (s : Int) (i_s : InR s) (M : Mem) (Ret : KR)  (hR : Ret (some (mi (b2i (isPCC s)))) M) (hM : MOk M) (Z : KZ) (hZ : Sim cd_X6_isPointOrCommaCell Z Ret) : Z 0 [some (mi s)] [] M := by
  refine w_iload hZ 0 1 rfl rfl rfl ?_
  refine w_const hZ 1 2 rfl rfl  ?_
  refine w_ceq hZ 2 3 rfl rfl (fun c2 => ?_) (fun c2 => ?_)
  · refine w_const hZ 6 7 rfl rfl  ?_
    refine w_goto hZ 7 9 rfl ?_
    refine w_zret hZ 9 rfl (by omega) ?_
    exact ret_i hR (by (first | refine b2i_t ?_ | refine b2i_f ?_); (try simp only [isSm, isCp, isLt, isFg, isPC, isSg, isCl, isRC, isLC, isFC, isPCC, b2i_e, b2i_z] at *); omega)
  · refine w_iload hZ 3 4 rfl rfl rfl ?_
    refine w_const hZ 4 5 rfl rfl  ?_
    refine w_cne hZ 5 6 rfl rfl (fun c5 => ?_) (fun c5 => ?_)
    · refine w_const hZ 8 9 rfl rfl  ?_
      refine w_zret hZ 9 rfl (by omega) ?_
      exact ret_i hR (by (first | refine b2i_t ?_ | refine b2i_f ?_); (try simp only [isSm, isCp, isLt, isFg, isPC, isSg, isCl, isRC, isLC, isFC, isPCC, b2i_e, b2i_z] at *); omega)
    · refine w_const hZ 6 7 rfl rfl  ?_
      refine w_goto hZ 7 9 rfl ?_
      refine w_zret hZ 9 rfl (by omega) ?_
      exact ret_i hR (by (first | refine b2i_t ?_ | refine b2i_f ?_); (try simp only [isSm, isCp, isLt, isFg, isPC, isSg, isCl, isRC, isLC, isFC, isPCC, b2i_e, b2i_z] at *); omega)
set_option maxRecDepth 100000 in
set_option maxHeartbeats 4000000 in
theorem ao_X6_isPointOrCommaCell : AllOk yX6_isPointOrCommaCell.cls cX6_isPointOrCommaCell 1 0 0 (some .boolean) none pc_X6_isPointOrCommaCell 0 cd_X6_isPointOrCommaCell := ⟨s_iload_n (k := 0) (by decide +kernel) rfl rfl, ⟨s_bipush (by decide +kernel) rfl ⟨by decide, by decide⟩ (by decide +kernel), ⟨s_ceq (off := (9)) (by decide +kernel) rfl rfl, ⟨s_iload_n (k := 0) (by decide +kernel) rfl rfl, ⟨s_bipush (by decide +kernel) rfl ⟨by decide, by decide⟩ (by decide +kernel), ⟨s_cne (off := (7)) (by decide +kernel) rfl rfl, ⟨s_iconst (by decide +kernel) rfl ⟨by decide, by decide⟩, ⟨s_goto (off := (4)) (by decide +kernel) rfl, ⟨s_iconst (by decide +kernel) rfl ⟨by decide, by decide⟩, ⟨s_zret rfl (by decide +kernel), trivial⟩⟩⟩⟩⟩⟩⟩⟩⟩⟩
theorem ct_X6_isPointOrCommaCell : Ctr yX6_isPointOrCommaCell cX6_isPointOrCommaCell 1 (some .boolean) 0 0 sp_X6_isPointOrCommaCell := by
  refine ctr_of (by decide +kernel) ao_X6_isPointOrCommaCell rfl ?_
  rintro av M Ret ⟨s, rfl, hR⟩ hok hM
  exact ⟨Nat.le_of_ble_eq_true rfl, fun Z hZ => b_X6_isPointOrCommaCell  s (hok _ (List.mem_of_getElem? (i := 0) rfl)) M Ret  hR hM Z hZ⟩
def sp_X6_cellOfMark : SP := fun av M Ret => ∃ s : Int, av = [mi s] ∧ (Ret (some (mi (mkC s))) M)
theorem k_X6_cellOfMark {code : List Sem} {Z : KZ} {Ret : KR} {ls : List (Option MV)} {M : Mem} {r : List MV} (hZ : Sim code Z Ret) (ip np : Nat) {s : Int} (hc : code[ip]? = some (I_callS 1 sp_X6_cellOfMark)) (hn : ip + 1 = np) (h3 : catS r ≤ 8)   (kz : Z np ls (mi (mkC s) :: r) M) : Z ip ls (mi s :: r) M := w_callS1 hZ ip np hc hn h3 ⟨_, rfl, kz⟩
def cd_X6_cellOfMark : List Sem := [I_iload 0, I_tsw (44) [4, 6, 2] 8, I_const (27), I_iret, I_const (28), I_iret, I_const (29), I_iret, I_const (0), I_iret]
def pc_X6_cellOfMark : List Nat := [0, 1, 28, 30, 31, 33, 34, 36, 37, 38]
set_option maxRecDepth 100000 in
set_option maxHeartbeats 4000000 in
theorem b_X6_cellOfMark (s : Int) (i_s : InR s) (M : Mem) (Ret : KR)  (hR : Ret (some (mi (mkC s))) M) (hM : MOk M) (Z : KZ) (hZ : Sim cd_X6_cellOfMark Z Ret) : Z 0 [some (mi s)] [] M := by
  refine w_iload hZ 0 1 rfl rfl rfl ?_
  refine w_tsw3 hZ 1 rfl (fun c1 => ?_) (fun c1 => ?_) (fun c1 => ?_) (fun c1 => ?_)
  · refine w_const hZ 4 5 rfl rfl  ?_
    refine w_iret hZ 5 rfl ?_
    exact ret_i hR (by unfold mkC; repeat' split <;> omega)
  · refine w_const hZ 6 7 rfl rfl  ?_
    refine w_iret hZ 7 rfl ?_
    exact ret_i hR (by unfold mkC; repeat' split <;> omega)
  · refine w_const hZ 2 3 rfl rfl  ?_
    refine w_iret hZ 3 rfl ?_
    exact ret_i hR (by unfold mkC; repeat' split <;> omega)
  · refine w_const hZ 8 9 rfl rfl  ?_
    refine w_iret hZ 9 rfl ?_
    exact ret_i hR (by unfold mkC; repeat' split <;> omega)
set_option maxRecDepth 100000 in
set_option maxHeartbeats 4000000 in
theorem ao_X6_cellOfMark : AllOk yX6_cellOfMark.cls cX6_cellOfMark 1 0 0 (some .int) none pc_X6_cellOfMark 0 cd_X6_cellOfMark := ⟨s_iload_n (k := 0) (by decide +kernel) rfl rfl, ⟨s_tsw (dfl := 36) (hi0 := 46) (offs := #[30, 33, 27]) (len := 27) (by decide +kernel) rfl rfl rfl, ⟨s_bipush (by decide +kernel) rfl ⟨by decide, by decide⟩ (by decide +kernel), ⟨s_iret rfl (by decide +kernel), ⟨s_bipush (by decide +kernel) rfl ⟨by decide, by decide⟩ (by decide +kernel), ⟨s_iret rfl (by decide +kernel), ⟨s_bipush (by decide +kernel) rfl ⟨by decide, by decide⟩ (by decide +kernel), ⟨s_iret rfl (by decide +kernel), ⟨s_iconst (by decide +kernel) rfl ⟨by decide, by decide⟩, ⟨s_iret rfl (by decide +kernel), trivial⟩⟩⟩⟩⟩⟩⟩⟩⟩⟩
theorem ct_X6_cellOfMark : Ctr yX6_cellOfMark cX6_cellOfMark 1 (some .int) 0 0 sp_X6_cellOfMark := by
  refine ctr_of (by decide +kernel) ao_X6_cellOfMark rfl ?_
  rintro av M Ret ⟨s, rfl, hR⟩ hok hM
  exact ⟨Nat.le_of_ble_eq_true rfl, fun Z hZ => b_X6_cellOfMark  s (hok _ (List.mem_of_getElem? (i := 0) rfl)) M Ret  hR hM Z hZ⟩
def sp_X6_signOfMarkCell : SP := fun av M Ret => ∃ s : Int, av = [mi s] ∧ (Ret (some (mi (mkS s))) M)
theorem k_X6_signOfMarkCell {code : List Sem} {Z : KZ} {Ret : KR} {ls : List (Option MV)} {M : Mem} {r : List MV} (hZ : Sim code Z Ret) (ip np : Nat) {s : Int} (hc : code[ip]? = some (I_callS 1 sp_X6_signOfMarkCell)) (hn : ip + 1 = np) (h3 : catS r ≤ 8)   (kz : Z np ls (mi (mkS s) :: r) M) : Z ip ls (mi s :: r) M := w_callS1 hZ ip np hc hn h3 ⟨_, rfl, kz⟩
def cd_X6_signOfMarkCell : List Sem := [I_iload 0, I_tsw (27) [2, 4, 6] 8, I_const (46), I_iret, I_const (44), I_iret, I_const (45), I_iret, I_const (32), I_iret]
def pc_X6_signOfMarkCell : List Nat := [0, 1, 28, 30, 31, 33, 34, 36, 37, 39]
set_option maxRecDepth 100000 in
set_option maxHeartbeats 4000000 in
theorem b_X6_signOfMarkCell (s : Int) (i_s : InR s) (M : Mem) (Ret : KR)  (hR : Ret (some (mi (mkS s))) M) (hM : MOk M) (Z : KZ) (hZ : Sim cd_X6_signOfMarkCell Z Ret) : Z 0 [some (mi s)] [] M := by
  refine w_iload hZ 0 1 rfl rfl rfl ?_
  refine w_tsw3 hZ 1 rfl (fun c1 => ?_) (fun c1 => ?_) (fun c1 => ?_) (fun c1 => ?_)
  · refine w_const hZ 2 3 rfl rfl  ?_
    refine w_iret hZ 3 rfl ?_
    exact ret_i hR (by unfold mkS; repeat' split <;> omega)
  · refine w_const hZ 4 5 rfl rfl  ?_
    refine w_iret hZ 5 rfl ?_
    exact ret_i hR (by unfold mkS; repeat' split <;> omega)
  · refine w_const hZ 6 7 rfl rfl  ?_
    refine w_iret hZ 7 rfl ?_
    exact ret_i hR (by unfold mkS; repeat' split <;> omega)
  · refine w_const hZ 8 9 rfl rfl  ?_
    refine w_iret hZ 9 rfl ?_
    exact ret_i hR (by unfold mkS; repeat' split <;> omega)
set_option maxRecDepth 100000 in
set_option maxHeartbeats 4000000 in
theorem ao_X6_signOfMarkCell : AllOk yX6_signOfMarkCell.cls cX6_signOfMarkCell 1 0 0 (some .int) none pc_X6_signOfMarkCell 0 cd_X6_signOfMarkCell := ⟨s_iload_n (k := 0) (by decide +kernel) rfl rfl, ⟨s_tsw (dfl := 36) (hi0 := 29) (offs := #[27, 30, 33]) (len := 27) (by decide +kernel) rfl rfl rfl, ⟨s_bipush (by decide +kernel) rfl ⟨by decide, by decide⟩ (by decide +kernel), ⟨s_iret rfl (by decide +kernel), ⟨s_bipush (by decide +kernel) rfl ⟨by decide, by decide⟩ (by decide +kernel), ⟨s_iret rfl (by decide +kernel), ⟨s_bipush (by decide +kernel) rfl ⟨by decide, by decide⟩ (by decide +kernel), ⟨s_iret rfl (by decide +kernel), ⟨s_bipush (by decide +kernel) rfl ⟨by decide, by decide⟩ (by decide +kernel), ⟨s_iret rfl (by decide +kernel), trivial⟩⟩⟩⟩⟩⟩⟩⟩⟩⟩
theorem ct_X6_signOfMarkCell : Ctr yX6_signOfMarkCell cX6_signOfMarkCell 1 (some .int) 0 0 sp_X6_signOfMarkCell := by
  refine ctr_of (by decide +kernel) ao_X6_signOfMarkCell rfl ?_
  rintro av M Ret ⟨s, rfl, hR⟩ hok hM
  exact ⟨Nat.le_of_ble_eq_true rfl, fun Z hZ => b_X6_signOfMarkCell  s (hok _ (List.mem_of_getElem? (i := 0) rfl)) M Ret  hR hM Z hZ⟩
def sp_X6_cellOfFigure : SP := fun av M Ret => ∃ s : Int, av = [mi s] ∧ (0 ≤ s ∧ s ≤ 1000) ∧ (Ret (some (mi (fgC s))) M)
theorem k_X6_cellOfFigure {code : List Sem} {Z : KZ} {Ret : KR} {ls : List (Option MV)} {M : Mem} {r : List MV} (hZ : Sim code Z Ret) (ip np : Nat) {s : Int} (hc : code[ip]? = some (I_callS 1 sp_X6_cellOfFigure)) (hn : ip + 1 = np) (h3 : catS r ≤ 8)  (hp : 0 ≤ s ∧ s ≤ 1000) (kz : Z np ls (mi (fgC s) :: r) M) : Z ip ls (mi s :: r) M := w_callS1 hZ ip np hc hn h3 ⟨_, rfl, hp, kz⟩
def cd_X6_cellOfFigure : List Sem := [I_iload 0, I_const (48), I_cne 5, I_const (10), I_goto 8, I_iload 0, I_const (48), I_sub, I_iret]
def pc_X6_cellOfFigure : List Nat := [0, 1, 3, 6, 8, 11, 12, 14, 15]
set_option maxRecDepth 100000 in
set_option maxHeartbeats 4000000 in
theorem b_X6_cellOfFigure (s : Int) (i_s : InR s) (M : Mem) (Ret : KR) (hp : 0 ≤ s ∧ s ≤ 1000) (hR : Ret (some (mi (fgC s))) M) (hM : MOk M) (Z : KZ) (hZ : Sim cd_X6_cellOfFigure Z Ret) : Z 0 [some (mi s)] [] M := by
  refine w_iload hZ 0 1 rfl rfl rfl ?_
  refine w_const hZ 1 2 rfl rfl  ?_
  refine w_cne hZ 2 3 rfl rfl (fun c2 => ?_) (fun c2 => ?_)
  · refine w_iload hZ 5 6 rfl rfl rfl ?_
    refine w_const hZ 6 7 rfl rfl  ?_
    refine w_sub hZ 7 8 rfl rfl (by unfold InR; omega) ?_
    refine w_iret hZ 8 rfl ?_
    exact ret_i hR (by unfold fgC; repeat' split <;> omega)
  · refine w_const hZ 3 4 rfl rfl  ?_
    refine w_goto hZ 4 8 rfl ?_
    refine w_iret hZ 8 rfl ?_
    exact ret_i hR (by unfold fgC; repeat' split <;> omega)
set_option maxRecDepth 100000 in
set_option maxHeartbeats 4000000 in
theorem ao_X6_cellOfFigure : AllOk yX6_cellOfFigure.cls cX6_cellOfFigure 1 0 0 (some .int) none pc_X6_cellOfFigure 0 cd_X6_cellOfFigure := ⟨s_iload_n (k := 0) (by decide +kernel) rfl rfl, ⟨s_bipush (by decide +kernel) rfl ⟨by decide, by decide⟩ (by decide +kernel), ⟨s_cne (off := (8)) (by decide +kernel) rfl rfl, ⟨s_bipush (by decide +kernel) rfl ⟨by decide, by decide⟩ (by decide +kernel), ⟨s_goto (off := (7)) (by decide +kernel) rfl, ⟨s_iload_n (k := 0) (by decide +kernel) rfl rfl, ⟨s_bipush (by decide +kernel) rfl ⟨by decide, by decide⟩ (by decide +kernel), ⟨s_sub (by decide +kernel) rfl, ⟨s_iret rfl (by decide +kernel), trivial⟩⟩⟩⟩⟩⟩⟩⟩⟩
theorem ct_X6_cellOfFigure : Ctr yX6_cellOfFigure cX6_cellOfFigure 1 (some .int) 0 0 sp_X6_cellOfFigure := by
  refine ctr_of (by decide +kernel) ao_X6_cellOfFigure rfl ?_
  rintro av M Ret ⟨s, rfl, hp, hR⟩ hok hM
  exact ⟨Nat.le_of_ble_eq_true rfl, fun Z hZ => b_X6_cellOfFigure  s (hok _ (List.mem_of_getElem? (i := 0) rfl)) M Ret hp hR hM Z hZ⟩
def sp_X6_signOfFigureCell : SP := fun av M Ret => ∃ s : Int, av = [mi s] ∧ (-100 ≤ s ∧ s ≤ 100) ∧ (Ret (some (mi (fgS s))) M)
theorem k_X6_signOfFigureCell {code : List Sem} {Z : KZ} {Ret : KR} {ls : List (Option MV)} {M : Mem} {r : List MV} (hZ : Sim code Z Ret) (ip np : Nat) {s : Int} (hc : code[ip]? = some (I_callS 1 sp_X6_signOfFigureCell)) (hn : ip + 1 = np) (h3 : catS r ≤ 8)  (hp : -100 ≤ s ∧ s ≤ 100) (kz : Z np ls (mi (fgS s) :: r) M) : Z ip ls (mi s :: r) M := w_callS1 hZ ip np hc hn h3 ⟨_, rfl, hp, kz⟩
def cd_X6_signOfFigureCell : List Sem := [I_iload 0, I_const (10), I_cne 5, I_const (48), I_goto 8, I_const (48), I_iload 0, I_add, I_iret]
def pc_X6_signOfFigureCell : List Nat := [0, 1, 3, 6, 8, 11, 13, 14, 15]
set_option maxRecDepth 100000 in
set_option maxHeartbeats 4000000 in
theorem b_X6_signOfFigureCell (s : Int) (i_s : InR s) (M : Mem) (Ret : KR) (hp : -100 ≤ s ∧ s ≤ 100) (hR : Ret (some (mi (fgS s))) M) (hM : MOk M) (Z : KZ) (hZ : Sim cd_X6_signOfFigureCell Z Ret) : Z 0 [some (mi s)] [] M := by
  refine w_iload hZ 0 1 rfl rfl rfl ?_
  refine w_const hZ 1 2 rfl rfl  ?_
  refine w_cne hZ 2 3 rfl rfl (fun c2 => ?_) (fun c2 => ?_)
  · refine w_const hZ 5 6 rfl rfl  ?_
    refine w_iload hZ 6 7 rfl rfl rfl ?_
    refine w_add hZ 7 8 rfl rfl (by unfold InR; omega) ?_
    refine w_iret hZ 8 rfl ?_
    exact ret_i hR (by unfold fgS; repeat' split <;> omega)
  · refine w_const hZ 3 4 rfl rfl  ?_
    refine w_goto hZ 4 8 rfl ?_
    refine w_iret hZ 8 rfl ?_
    exact ret_i hR (by unfold fgS; repeat' split <;> omega)
set_option maxRecDepth 100000 in
set_option maxHeartbeats 4000000 in
theorem ao_X6_signOfFigureCell : AllOk yX6_signOfFigureCell.cls cX6_signOfFigureCell 1 0 0 (some .int) none pc_X6_signOfFigureCell 0 cd_X6_signOfFigureCell := ⟨s_iload_n (k := 0) (by decide +kernel) rfl rfl, ⟨s_bipush (by decide +kernel) rfl ⟨by decide, by decide⟩ (by decide +kernel), ⟨s_cne (off := (8)) (by decide +kernel) rfl rfl, ⟨s_bipush (by decide +kernel) rfl ⟨by decide, by decide⟩ (by decide +kernel), ⟨s_goto (off := (7)) (by decide +kernel) rfl, ⟨s_bipush (by decide +kernel) rfl ⟨by decide, by decide⟩ (by decide +kernel), ⟨s_iload_n (k := 0) (by decide +kernel) rfl rfl, ⟨s_add (by decide +kernel) rfl, ⟨s_iret rfl (by decide +kernel), trivial⟩⟩⟩⟩⟩⟩⟩⟩⟩
theorem ct_X6_signOfFigureCell : Ctr yX6_signOfFigureCell cX6_signOfFigureCell 1 (some .int) 0 0 sp_X6_signOfFigureCell := by
  refine ctr_of (by decide +kernel) ao_X6_signOfFigureCell rfl ?_
  rintro av M Ret ⟨s, rfl, hp, hR⟩ hok hM
  exact ⟨Nat.le_of_ble_eq_true rfl, fun Z hZ => b_X6_signOfFigureCell  s (hok _ (List.mem_of_getElem? (i := 0) rfl)) M Ret hp hR hM Z hZ⟩
def sp_X6_lettersOf : SP := fun av M Ret => ∃ c : Int, av = [mi c] ∧ (c < 531441) ∧ (Ret (some (mi (lnC c))) M)
theorem k_X6_lettersOf {code : List Sem} {Z : KZ} {Ret : KR} {ls : List (Option MV)} {M : Mem} {r : List MV} (hZ : Sim code Z Ret) (ip np : Nat) {c : Int} (hc : code[ip]? = some (I_callS 1 sp_X6_lettersOf)) (hn : ip + 1 = np) (h3 : catS r ≤ 8)  (hp : c < 531441) (kz : Z np ls (mi (lnC c) :: r) M) : Z ip ls (mi c :: r) M := w_callS1 hZ ip np hc hn h3 ⟨_, rfl, hp, kz⟩
def cd_X6_lettersOf : List Sem := [I_const (0), I_istore 1, I_iload 0, I_istore 2, I_const (0), I_istore 3, I_iload 3, I_const (4), I_cge 18, I_iload 2, I_ifle 18, I_iload 2, I_const (27), I_div, I_istore 2, I_iinc 1 (1), I_iinc 3 (1), I_goto 6, I_iload 1, I_iret]
def pc_X6_lettersOf : List Nat := [0, 1, 2, 3, 4, 5, 6, 7, 8, 11, 12, 15, 16, 18, 19, 20, 23, 26, 29, 30]
set_option maxRecDepth 100000 in
set_option maxHeartbeats 4000000 in
theorem b_X6_lettersOf (c : Int) (i_c : InR c) (M : Mem) (Ret : KR) (hp : c < 531441) (hR : Ret (some (mi (lnC c))) M) (hM : MOk M) (Z : KZ) (hZ : Sim cd_X6_lettersOf Z Ret) : Z 0 [some (mi c), none, none, none] [] M := by
  have loop : ∀ (d : Nat) (i left : Int), d = (4 - i).toNat → ((i = 0 ∧ left < 531441) ∨ (i = 1 ∧ left < 19683) ∨ (i = 2 ∧ left < 729) ∨ (i = 3 ∧ left < 27) ∨ (i = 4 ∧ left < 1)) → i + lnC left = lnC c → Z 6 [some (mi c), some (mi i), some (mi left), some (mi i)] [] M := by
    intro d
    induction d using Nat.strongRecOn with
    | ind d ih =>
      intro i left hd hB hs
      refine w_iload hZ 6 7 rfl rfl rfl ?_
      refine w_const hZ 7 8 rfl rfl  ?_
      refine w_cge hZ 8 9 rfl rfl (fun c8 => ?_) (fun c8 => ?_)
      · refine w_iload hZ 18 19 rfl rfl rfl ?_
        refine w_iret hZ 19 rfl ?_
        exact ret_i hR (by have e := lnC_0 (c := left) (by omega); omega)
      · refine w_iload hZ 9 10 rfl rfl rfl ?_
        refine w_ifle hZ 10 11 rfl rfl (fun c10 => ?_) (fun c10 => ?_)
        · refine w_iload hZ 18 19 rfl rfl rfl ?_
          refine w_iret hZ 19 rfl ?_
          exact ret_i hR (by have e := lnC_0 (c := left) (by omega); omega)
        · refine w_iload hZ 11 12 rfl rfl rfl ?_
          refine w_const hZ 12 13 rfl rfl  ?_
          refine w_div hZ 13 14 rfl rfl (by omega) (by omega) ?_
          refine w_st4_2 hZ 14 15 rfl rfl rfl ?_
          refine w_in4_1 hZ 15 16 rfl rfl rfl (by unfold InR; omega) ?_
          refine w_in4_3 hZ 16 17 rfl rfl rfl (by unfold InR; omega) ?_
          refine w_goto hZ 17 6 rfl ?_
          exact ih ((4 - (i + 1)).toNat) (by omega) (i + 1) (left / 27) rfl (by omega) (by have := lnC_step c10 (by omega); omega)
  refine w_const hZ 0 1 rfl rfl  ?_
  refine w_st4_1 hZ 1 2 rfl rfl rfl ?_
  refine w_iload hZ 2 3 rfl rfl rfl ?_
  refine w_st4_2 hZ 3 4 rfl rfl rfl ?_
  refine w_const hZ 4 5 rfl rfl  ?_
  refine w_st4_3 hZ 5 6 rfl rfl rfl ?_
  exact loop 4 0 c rfl (by omega) (by omega)
set_option maxRecDepth 100000 in
set_option maxHeartbeats 4000000 in
theorem ao_X6_lettersOf : AllOk yX6_lettersOf.cls cX6_lettersOf 4 0 0 (some .int) none pc_X6_lettersOf 0 cd_X6_lettersOf := ⟨s_iconst (by decide +kernel) rfl ⟨by decide, by decide⟩, ⟨s_istore_n (k := 1) (by decide +kernel) rfl rfl, ⟨s_iload_n (k := 0) (by decide +kernel) rfl rfl, ⟨s_istore_n (k := 2) (by decide +kernel) rfl rfl, ⟨s_iconst (by decide +kernel) rfl ⟨by decide, by decide⟩, ⟨s_istore_n (k := 3) (by decide +kernel) rfl rfl, ⟨s_iload_n (k := 3) (by decide +kernel) rfl rfl, ⟨s_iconst (by decide +kernel) rfl ⟨by decide, by decide⟩, ⟨s_cge (off := (21)) (by decide +kernel) rfl rfl, ⟨s_iload_n (k := 2) (by decide +kernel) rfl rfl, ⟨s_ifle (off := (17)) (by decide +kernel) rfl rfl, ⟨s_iload_n (k := 2) (by decide +kernel) rfl rfl, ⟨s_bipush (by decide +kernel) rfl ⟨by decide, by decide⟩ (by decide +kernel), ⟨s_div (by decide +kernel) rfl, ⟨s_istore_n (k := 2) (by decide +kernel) rfl rfl, ⟨s_iinc (by decide +kernel) rfl, ⟨s_iinc (by decide +kernel) rfl, ⟨s_goto (off := (-20)) (by decide +kernel) rfl, ⟨s_iload_n (k := 1) (by decide +kernel) rfl rfl, ⟨s_iret rfl (by decide +kernel), trivial⟩⟩⟩⟩⟩⟩⟩⟩⟩⟩⟩⟩⟩⟩⟩⟩⟩⟩⟩⟩
theorem ct_X6_lettersOf : Ctr yX6_lettersOf cX6_lettersOf 4 (some .int) 0 0 sp_X6_lettersOf := by
  refine ctr_of (by decide +kernel) ao_X6_lettersOf rfl ?_
  rintro av M Ret ⟨c, rfl, hp, hR⟩ hok hM
  exact ⟨Nat.le_of_ble_eq_true rfl, fun Z hZ => b_X6_lettersOf  c (hok _ (List.mem_of_getElem? (i := 0) rfl)) M Ret hp hR hM Z hZ⟩
def sp_X6_isCode : SP := fun av M Ret => ∃ c : Int, av = [mi c] ∧ (Ret (some (mi (b2i (vC c)))) M)
theorem k_X6_isCode {code : List Sem} {Z : KZ} {Ret : KR} {ls : List (Option MV)} {M : Mem} {r : List MV} (hZ : Sim code Z Ret) (ip np : Nat) {c : Int} (hc : code[ip]? = some (I_callS 1 sp_X6_isCode)) (hn : ip + 1 = np) (h3 : catS r ≤ 8)   (kz : Z np ls (mi (b2i (vC c)) :: r) M) : Z ip ls (mi c :: r) M := w_callS1 hZ ip np hc hn h3 ⟨_, rfl, kz⟩
def cd_X6_isCode : List Sem := [I_iload 0, I_iflt 5, I_iload 0, I_const (531441), I_clt 7, I_const (0), I_zret, I_iload 0, I_callS 1 sp_X6_lettersOf, I_istore 1, I_iload 0, I_istore 2, I_const (0), I_istore 3, I_iload 3, I_iload 1, I_cge 29, I_iload 2, I_const (27), I_rem, I_ifne 23, I_const (0), I_zret, I_iload 2, I_const (27), I_div, I_istore 2, I_iinc 3 (1), I_goto 14, I_iload 1, I_const (2), I_clt 34, I_const (1), I_goto 35, I_const (0), I_zret]
def pc_X6_isCode : List Nat := [0, 1, 4, 5, 7, 10, 11, 12, 13, 16, 17, 18, 19, 20, 21, 22, 23, 26, 27, 29, 30, 33, 34, 35, 36, 38, 39, 40, 43, 46, 47, 48, 51, 52, 55, 56]
set_option maxRecDepth 100000 in
set_option maxHeartbeats 4000000 in
theorem b_X6_isCode (c : Int) (i_c : InR c) (M : Mem) (Ret : KR)  (hR : Ret (some (mi (b2i (vC c)))) M) (hM : MOk M) (Z : KZ) (hZ : Sim cd_X6_isCode Z Ret) : Z 0 [some (mi c), none, none, none] [] M := by
  have loop : ∀ (k : Nat) (i left : Int), 0 ≤ c → c < 531441 → i + k = lnC c → 0 ≤ i → 0 ≤ left → (27 ≤ c → (vC c ↔ nzD k left)) → Z 14 [some (mi c), some (mi (lnC c)), some (mi left), some (mi i)] [] M := by
    intro k
    induction k with
    | zero =>
      intro i left h0 h1 hi hi0 hl hv
      refine w_iload hZ 14 15 rfl rfl rfl ?_
      refine w_iload hZ 15 16 rfl rfl rfl ?_
      refine w_cge hZ 16 17 rfl rfl (fun c16 => ?_) (fun c16 => absurd c16 (by omega))
      refine w_iload hZ 29 30 rfl rfl rfl ?_
      refine w_const hZ 30 31 rfl rfl  ?_
      refine w_clt hZ 31 32 rfl rfl (fun c31 => ?_) (fun c31 => ?_)
      · refine w_const hZ 34 35 rfl rfl  ?_
        refine w_zret hZ 35 rfl (by omega) ?_
        first
          | exact ret_i hR (b2i_t ((hv (lnC_2.mp (by omega))).mpr trivial))
          | exact ret_i hR (b2i_f (fun q => by have := lnC_2.mpr q.1; omega))
      · refine w_const hZ 32 33 rfl rfl  ?_
        refine w_goto hZ 33 35 rfl ?_
        refine w_zret hZ 35 rfl (by omega) ?_
        first
          | exact ret_i hR (b2i_t ((hv (lnC_2.mp (by omega))).mpr trivial))
          | exact ret_i hR (b2i_f (fun q => by have := lnC_2.mpr q.1; omega))
    | succ k ih =>
      intro i left h0 h1 hi hi0 hl hv
      have hl4 := lnC_le c
      refine w_iload hZ 14 15 rfl rfl rfl ?_
      refine w_iload hZ 15 16 rfl rfl rfl ?_
      refine w_cge hZ 16 17 rfl rfl (fun c16 => absurd c16 (by omega)) (fun c16 => ?_)
      refine w_iload hZ 17 18 rfl rfl rfl ?_
      refine w_const hZ 18 19 rfl rfl  ?_
      refine w_rem hZ 19 20 rfl rfl (by omega) (by omega) ?_
      refine w_ifne hZ 20 21 rfl rfl (fun c20 => ?_) (fun c20 => ?_)
      · refine w_iload hZ 23 24 rfl rfl rfl ?_
        refine w_const hZ 24 25 rfl rfl  ?_
        refine w_div hZ 25 26 rfl rfl (by omega) (by omega) ?_
        refine w_st4_2 hZ 26 27 rfl rfl rfl ?_
        refine w_in4_3 hZ 27 28 rfl rfl rfl (by unfold InR; omega) ?_
        refine w_goto hZ 28 14 rfl ?_
        exact ih (i + 1) (left / 27) h0 h1 (by omega) (by omega) (by omega) (fun h => (hv h).trans ⟨fun q => q.2, fun q => ⟨c20, q⟩⟩)
      · refine w_const hZ 21 22 rfl rfl  ?_
        refine w_zret hZ 22 rfl (by omega) ?_
        exact ret_i hR (b2i_f (fun q => ((hv q.1).mp q).1 c20))
  refine w_iload hZ 0 1 rfl rfl rfl ?_
  refine w_iflt hZ 1 2 rfl rfl (fun c1 => ?_) (fun c1 => ?_)
  · refine w_const hZ 5 6 rfl rfl  ?_
    refine w_zret hZ 6 rfl (by omega) ?_
    exact ret_i hR (b2i_f (fun q => by have := q.1; have := q.2.1; omega))
  · refine w_iload hZ 2 3 rfl rfl rfl ?_
    refine w_const hZ 3 4 rfl rfl  ?_
    refine w_clt hZ 4 5 rfl rfl (fun c4 => ?_) (fun c4 => ?_)
    · refine w_iload hZ 7 8 rfl rfl rfl ?_
      refine k_X6_lettersOf hZ 8 9 rfl rfl (Nat.le_of_ble_eq_true rfl) c4 ?_
      refine w_st4_1 hZ 9 10 rfl rfl rfl ?_
      refine w_iload hZ 10 11 rfl rfl rfl ?_
      refine w_st4_2 hZ 11 12 rfl rfl rfl ?_
      refine w_const hZ 12 13 rfl rfl  ?_
      refine w_st4_3 hZ 13 14 rfl rfl rfl ?_
      exact loop (lnC c).toNat 0 c c1 c4 (by have := lnC_le c; omega) (by omega) (by omega) (fun h => vC_nz h c4)
    · refine w_const hZ 5 6 rfl rfl  ?_
      refine w_zret hZ 6 rfl (by omega) ?_
      exact ret_i hR (b2i_f (fun q => by have := q.1; have := q.2.1; omega))
set_option maxRecDepth 100000 in
set_option maxHeartbeats 4000000 in
theorem ao_X6_isCode : AllOk yX6_isCode.cls cX6_isCode 4 1 23 (some .boolean) none pc_X6_isCode 0 cd_X6_isCode := ⟨s_iload_n (k := 0) (by decide +kernel) rfl rfl, ⟨s_iflt (off := (9)) (by decide +kernel) rfl rfl, ⟨s_iload_n (k := 0) (by decide +kernel) rfl rfl, ⟨s_ldc (v := (531441)) tw_1_235 (by decide +kernel) rfl ⟨by decide, by decide⟩ (by decide +kernel), ⟨s_clt (off := (5)) (by decide +kernel) rfl rfl, ⟨s_iconst (by decide +kernel) rfl ⟨by decide, by decide⟩, ⟨s_zret rfl (by decide +kernel), ⟨s_iload_n (k := 0) (by decide +kernel) rfl rfl, ⟨s_callS ct_X6_lettersOf (by decide) (by decide) ⟨by decide +kernel, by decide +kernel, by decide +kernel⟩ tw_1_236 tw_1_237 tw_1_1 tw_1_238 (by decide +kernel) rfl, ⟨s_istore_n (k := 1) (by decide +kernel) rfl rfl, ⟨s_iload_n (k := 0) (by decide +kernel) rfl rfl, ⟨s_istore_n (k := 2) (by decide +kernel) rfl rfl, ⟨s_iconst (by decide +kernel) rfl ⟨by decide, by decide⟩, ⟨s_istore_n (k := 3) (by decide +kernel) rfl rfl, ⟨s_iload_n (k := 3) (by decide +kernel) rfl rfl, ⟨s_iload_n (k := 1) (by decide +kernel) rfl rfl, ⟨s_cge (off := (23)) (by decide +kernel) rfl rfl, ⟨s_iload_n (k := 2) (by decide +kernel) rfl rfl, ⟨s_bipush (by decide +kernel) rfl ⟨by decide, by decide⟩ (by decide +kernel), ⟨s_rem (by decide +kernel) rfl, ⟨s_ifne (off := (5)) (by decide +kernel) rfl rfl, ⟨s_iconst (by decide +kernel) rfl ⟨by decide, by decide⟩, ⟨s_zret rfl (by decide +kernel), ⟨s_iload_n (k := 2) (by decide +kernel) rfl rfl, ⟨s_bipush (by decide +kernel) rfl ⟨by decide, by decide⟩ (by decide +kernel), ⟨s_div (by decide +kernel) rfl, ⟨s_istore_n (k := 2) (by decide +kernel) rfl rfl, ⟨s_iinc (by decide +kernel) rfl, ⟨s_goto (off := (-22)) (by decide +kernel) rfl, ⟨s_iload_n (k := 1) (by decide +kernel) rfl rfl, ⟨s_iconst (by decide +kernel) rfl ⟨by decide, by decide⟩, ⟨s_clt (off := (7)) (by decide +kernel) rfl rfl, ⟨s_iconst (by decide +kernel) rfl ⟨by decide, by decide⟩, ⟨s_goto (off := (4)) (by decide +kernel) rfl, ⟨s_iconst (by decide +kernel) rfl ⟨by decide, by decide⟩, ⟨s_zret rfl (by decide +kernel), trivial⟩⟩⟩⟩⟩⟩⟩⟩⟩⟩⟩⟩⟩⟩⟩⟩⟩⟩⟩⟩⟩⟩⟩⟩⟩⟩⟩⟩⟩⟩⟩⟩⟩⟩⟩⟩
theorem ct_X6_isCode : Ctr yX6_isCode cX6_isCode 4 (some .boolean) 1 23 sp_X6_isCode := by
  refine ctr_of (by decide +kernel) ao_X6_isCode rfl ?_
  rintro av M Ret ⟨c, rfl, hR⟩ hok hM
  exact ⟨Nat.le_of_ble_eq_true rfl, fun Z hZ => b_X6_isCode  c (hok _ (List.mem_of_getElem? (i := 0) rfl)) M Ret  hR hM Z hZ⟩
end
section
def sp_X7_in : SP := fun av M Ret => ∃ v : Int, ∃ lo : Int, ∃ hi : Int, av = [ml v, ml lo, ml hi] ∧ (Ret (some (mi (b2i (lo ≤ v ∧ v ≤ hi)))) M)
theorem k_X7_in {code : List Sem} {Z : KZ} {Ret : KR} {ls : List (Option MV)} {M : Mem} {r : List MV} (hZ : Sim code Z Ret) (ip np : Nat) {v lo hi : Int} (hc : code[ip]? = some (I_callS 3 sp_X7_in)) (hn : ip + 1 = np) (h3 : catS r ≤ 8)   (kz : Z np ls (mi (b2i (lo ≤ v ∧ v ≤ hi)) :: r) M) : Z ip ls (ml hi :: ml lo :: ml v :: r) M := w_callS3 hZ ip np hc hn h3 ⟨_, _, _, rfl, kz⟩
def cd_X7_in : List Sem := [I_lload 0, I_lload 2, I_lcmp, I_iflt 10, I_lload 0, I_lload 4, I_lcmp, I_ifgt 10, I_const (1), I_goto 11, I_const (0), I_zret]
def pc_X7_in : List Nat := [0, 1, 2, 3, 6, 7, 9, 10, 13, 14, 17, 18]
set_option maxRecDepth 100000 in
set_option maxHeartbeats 4000000 in
theorem b_X7_in (v : Int) (i_v : InL v) (lo : Int) (i_lo : InL lo) (hi : Int) (i_hi : InL hi) (M : Mem) (Ret : KR)  (hR : Ret (some (mi (b2i (lo ≤ v ∧ v ≤ hi)))) M) (hM : MOk M) (Z : KZ) (hZ : Sim cd_X7_in Z Ret) : Z 0 [some (ml v), none, some (ml lo), none, some (ml hi), none] [] M := by
  refine w_lload hZ 0 1 rfl rfl rfl ?_
  refine w_lload hZ 1 2 rfl rfl rfl ?_
  refine w_lcmp hZ 2 3 rfl rfl  ?_
  refine w_iflt hZ 3 4 rfl rfl (fun c3 => ?_) (fun c3 => ?_)
  · refine w_const hZ 10 11 rfl rfl  ?_
    refine w_zret hZ 11 rfl (by omega) ?_
    exact ret_i hR (by (first | refine b2i_t ?_ | refine b2i_f ?_); (try simp only [isSm, isCp, isLt, isFg, isPC, isSg, isCl, isRC, isLC, isFC, isPCC, b2i_e, b2i_z, cmp3_lt, cmp3_ge, cmp3_gt, cmp3_le] at *); omega)
  · refine w_lload hZ 4 5 rfl rfl rfl ?_
    refine w_lload hZ 5 6 rfl rfl rfl ?_
    refine w_lcmp hZ 6 7 rfl rfl  ?_
    refine w_ifgt hZ 7 8 rfl rfl (fun c7 => ?_) (fun c7 => ?_)
    · refine w_const hZ 10 11 rfl rfl  ?_
      refine w_zret hZ 11 rfl (by omega) ?_
      exact ret_i hR (by (first | refine b2i_t ?_ | refine b2i_f ?_); (try simp only [isSm, isCp, isLt, isFg, isPC, isSg, isCl, isRC, isLC, isFC, isPCC, b2i_e, b2i_z, cmp3_lt, cmp3_ge, cmp3_gt, cmp3_le] at *); omega)
    · refine w_const hZ 8 9 rfl rfl  ?_
      refine w_goto hZ 9 11 rfl ?_
      refine w_zret hZ 11 rfl (by omega) ?_
      exact ret_i hR (by (first | refine b2i_t ?_ | refine b2i_f ?_); (try simp only [isSm, isCp, isLt, isFg, isPC, isSg, isCl, isRC, isLC, isFC, isPCC, b2i_e, b2i_z, cmp3_lt, cmp3_ge, cmp3_gt, cmp3_le] at *); omega)
set_option maxRecDepth 100000 in
set_option maxHeartbeats 4000000 in
theorem ao_X7_in : AllOk yX7_in.cls cX7_in 6 0 0 (some .boolean) none pc_X7_in 0 cd_X7_in := ⟨s_lload_n (k := 0) (by decide +kernel) rfl rfl, ⟨s_lload_n (k := 2) (by decide +kernel) rfl rfl, ⟨s_lcmp (by decide +kernel) rfl, ⟨s_iflt (off := (14)) (by decide +kernel) rfl rfl, ⟨s_lload_n (k := 0) (by decide +kernel) rfl rfl, ⟨s_lload (by decide +kernel) rfl, ⟨s_lcmp (by decide +kernel) rfl, ⟨s_ifgt (off := (7)) (by decide +kernel) rfl rfl, ⟨s_iconst (by decide +kernel) rfl ⟨by decide, by decide⟩, ⟨s_goto (off := (4)) (by decide +kernel) rfl, ⟨s_iconst (by decide +kernel) rfl ⟨by decide, by decide⟩, ⟨s_zret rfl (by decide +kernel), trivial⟩⟩⟩⟩⟩⟩⟩⟩⟩⟩⟩⟩
theorem ct_X7_in : Ctr yX7_in cX7_in 6 (some .boolean) 0 0 sp_X7_in := by
  refine ctr_of (by decide +kernel) ao_X7_in rfl ?_
  rintro av M Ret ⟨v, lo, hi, rfl, hR⟩ hok hM
  exact ⟨Nat.le_of_ble_eq_true rfl, fun Z hZ => b_X7_in  v (hok _ (List.mem_of_getElem? (i := 0) rfl)) lo (hok _ (List.mem_of_getElem? (i := 1) rfl)) hi (hok _ (List.mem_of_getElem? (i := 2) rfl)) M Ret  hR hM Z hZ⟩
def sp_X7_isSmall : SP := fun av M Ret => ∃ s : Int, av = [mi s] ∧ (Ret (some (mi (b2i (isSm s)))) M)
theorem k_X7_isSmall {code : List Sem} {Z : KZ} {Ret : KR} {ls : List (Option MV)} {M : Mem} {r : List MV} (hZ : Sim code Z Ret) (ip np : Nat) {s : Int} (hc : code[ip]? = some (I_callS 1 sp_X7_isSmall)) (hn : ip + 1 = np) (h3 : catS r ≤ 8)   (kz : Z np ls (mi (b2i (isSm s)) :: r) M) : Z ip ls (mi s :: r) M := w_callS1 hZ ip np hc hn h3 ⟨_, rfl, kz⟩
def cd_X7_isSmall : List Sem := [I_iload 0, I_i2l, I_lconst (97), I_lconst (122), I_callS 3 sp_X7_in, I_zret]
def pc_X7_isSmall : List Nat := [0, 1, 2, 5, 8, 11]
set_option maxRecDepth 100000 in
set_option maxHeartbeats 4000000 in
theorem b_X7_isSmall (s : Int) (i_s : InR s) (M : Mem) (Ret : KR)  (hR : Ret (some (mi (b2i (isSm s)))) M) (hM : MOk M) (Z : KZ) (hZ : Sim cd_X7_isSmall Z Ret) : Z 0 [some (mi s)] [] M := by
  refine w_iload hZ 0 1 rfl rfl rfl ?_
  refine w_i2l hZ 1 2 rfl rfl  ?_
  refine w_lconst hZ 2 3 rfl rfl  ?_
  refine w_lconst hZ 3 4 rfl rfl  ?_
  refine k_X7_in hZ 4 5 rfl rfl (Nat.le_of_ble_eq_true rfl)  ?_
  refine w_zret hZ 5 rfl (b2i_01 _) ?_
  exact hR
set_option maxRecDepth 100000 in
set_option maxHeartbeats 4000000 in
theorem ao_X7_isSmall : AllOk yX7_isSmall.cls cX7_isSmall 1 1 25 (some .boolean) none pc_X7_isSmall 0 cd_X7_isSmall := ⟨s_iload_n (k := 0) (by decide +kernel) rfl rfl, ⟨s_i2l (by decide +kernel) rfl, ⟨s_ldc2 (v := (97)) tw_4_62 (by decide +kernel) rfl ⟨by decide, by decide⟩ (by decide +kernel), ⟨s_ldc2 (v := (122)) tw_4_63 (by decide +kernel) rfl ⟨by decide, by decide⟩ (by decide +kernel), ⟨s_callS ct_X7_in (by decide) (by decide) ⟨by decide +kernel, by decide +kernel, by decide +kernel⟩ tw_3_234 tw_3_235 tw_1_8 tw_3_236 (by decide +kernel) rfl, ⟨s_zret rfl (by decide +kernel), trivial⟩⟩⟩⟩⟩⟩
theorem ct_X7_isSmall : Ctr yX7_isSmall cX7_isSmall 1 (some .boolean) 1 25 sp_X7_isSmall := by
  refine ctr_of (by decide +kernel) ao_X7_isSmall rfl ?_
  rintro av M Ret ⟨s, rfl, hR⟩ hok hM
  exact ⟨Nat.le_of_ble_eq_true rfl, fun Z hZ => b_X7_isSmall  s (hok _ (List.mem_of_getElem? (i := 0) rfl)) M Ret  hR hM Z hZ⟩
def sp_X7_isGreat : SP := fun av M Ret => ∃ s : Int, av = [mi s] ∧ (Ret (some (mi (b2i (isCp s)))) M)
theorem k_X7_isGreat {code : List Sem} {Z : KZ} {Ret : KR} {ls : List (Option MV)} {M : Mem} {r : List MV} (hZ : Sim code Z Ret) (ip np : Nat) {s : Int} (hc : code[ip]? = some (I_callS 1 sp_X7_isGreat)) (hn : ip + 1 = np) (h3 : catS r ≤ 8)   (kz : Z np ls (mi (b2i (isCp s)) :: r) M) : Z ip ls (mi s :: r) M := w_callS1 hZ ip np hc hn h3 ⟨_, rfl, kz⟩
def cd_X7_isGreat : List Sem := [I_iload 0, I_i2l, I_lconst (65), I_lconst (90), I_callS 3 sp_X7_in, I_zret]
def pc_X7_isGreat : List Nat := [0, 1, 2, 5, 8, 11]
set_option maxRecDepth 100000 in
set_option maxHeartbeats 4000000 in
theorem b_X7_isGreat (s : Int) (i_s : InR s) (M : Mem) (Ret : KR)  (hR : Ret (some (mi (b2i (isCp s)))) M) (hM : MOk M) (Z : KZ) (hZ : Sim cd_X7_isGreat Z Ret) : Z 0 [some (mi s)] [] M := by
  refine w_iload hZ 0 1 rfl rfl rfl ?_
  refine w_i2l hZ 1 2 rfl rfl  ?_
  refine w_lconst hZ 2 3 rfl rfl  ?_
  refine w_lconst hZ 3 4 rfl rfl  ?_
  refine k_X7_in hZ 4 5 rfl rfl (Nat.le_of_ble_eq_true rfl)  ?_
  refine w_zret hZ 5 rfl (b2i_01 _) ?_
  exact hR
set_option maxRecDepth 100000 in
set_option maxHeartbeats 4000000 in
theorem ao_X7_isGreat : AllOk yX7_isGreat.cls cX7_isGreat 1 1 25 (some .boolean) none pc_X7_isGreat 0 cd_X7_isGreat := ⟨s_iload_n (k := 0) (by decide +kernel) rfl rfl, ⟨s_i2l (by decide +kernel) rfl, ⟨s_ldc2 (v := (65)) tw_4_67 (by decide +kernel) rfl ⟨by decide, by decide⟩ (by decide +kernel), ⟨s_ldc2 (v := (90)) tw_4_68 (by decide +kernel) rfl ⟨by decide, by decide⟩ (by decide +kernel), ⟨s_callS ct_X7_in (by decide) (by decide) ⟨by decide +kernel, by decide +kernel, by decide +kernel⟩ tw_3_234 tw_3_235 tw_1_8 tw_3_236 (by decide +kernel) rfl, ⟨s_zret rfl (by decide +kernel), trivial⟩⟩⟩⟩⟩⟩
theorem ct_X7_isGreat : Ctr yX7_isGreat cX7_isGreat 1 (some .boolean) 1 25 sp_X7_isGreat := by
  refine ctr_of (by decide +kernel) ao_X7_isGreat rfl ?_
  rintro av M Ret ⟨s, rfl, hR⟩ hok hM
  exact ⟨Nat.le_of_ble_eq_true rfl, fun Z hZ => b_X7_isGreat  s (hok _ (List.mem_of_getElem? (i := 0) rfl)) M Ret  hR hM Z hZ⟩
def sp_X7_isFigure : SP := fun av M Ret => ∃ s : Int, av = [mi s] ∧ (Ret (some (mi (b2i (isFg s)))) M)
theorem k_X7_isFigure {code : List Sem} {Z : KZ} {Ret : KR} {ls : List (Option MV)} {M : Mem} {r : List MV} (hZ : Sim code Z Ret) (ip np : Nat) {s : Int} (hc : code[ip]? = some (I_callS 1 sp_X7_isFigure)) (hn : ip + 1 = np) (h3 : catS r ≤ 8)   (kz : Z np ls (mi (b2i (isFg s)) :: r) M) : Z ip ls (mi s :: r) M := w_callS1 hZ ip np hc hn h3 ⟨_, rfl, kz⟩
def cd_X7_isFigure : List Sem := [I_iload 0, I_i2l, I_lconst (48), I_lconst (57), I_callS 3 sp_X7_in, I_zret]
def pc_X7_isFigure : List Nat := [0, 1, 2, 5, 8, 11]
set_option maxRecDepth 100000 in
set_option maxHeartbeats 4000000 in
theorem b_X7_isFigure (s : Int) (i_s : InR s) (M : Mem) (Ret : KR)  (hR : Ret (some (mi (b2i (isFg s)))) M) (hM : MOk M) (Z : KZ) (hZ : Sim cd_X7_isFigure Z Ret) : Z 0 [some (mi s)] [] M := by
  refine w_iload hZ 0 1 rfl rfl rfl ?_
  refine w_i2l hZ 1 2 rfl rfl  ?_
  refine w_lconst hZ 2 3 rfl rfl  ?_
  refine w_lconst hZ 3 4 rfl rfl  ?_
  refine k_X7_in hZ 4 5 rfl rfl (Nat.le_of_ble_eq_true rfl)  ?_
  refine w_zret hZ 5 rfl (b2i_01 _) ?_
  exact hR
set_option maxRecDepth 100000 in
set_option maxHeartbeats 4000000 in
theorem ao_X7_isFigure : AllOk yX7_isFigure.cls cX7_isFigure 1 1 25 (some .boolean) none pc_X7_isFigure 0 cd_X7_isFigure := ⟨s_iload_n (k := 0) (by decide +kernel) rfl rfl, ⟨s_i2l (by decide +kernel) rfl, ⟨s_ldc2 (v := (48)) tw_4_72 (by decide +kernel) rfl ⟨by decide, by decide⟩ (by decide +kernel), ⟨s_ldc2 (v := (57)) tw_4_73 (by decide +kernel) rfl ⟨by decide, by decide⟩ (by decide +kernel), ⟨s_callS ct_X7_in (by decide) (by decide) ⟨by decide +kernel, by decide +kernel, by decide +kernel⟩ tw_3_234 tw_3_235 tw_1_8 tw_3_236 (by decide +kernel) rfl, ⟨s_zret rfl (by decide +kernel), trivial⟩⟩⟩⟩⟩⟩
theorem ct_X7_isFigure : Ctr yX7_isFigure cX7_isFigure 1 (some .boolean) 1 25 sp_X7_isFigure := by
  refine ctr_of (by decide +kernel) ao_X7_isFigure rfl ?_
  rintro av M Ret ⟨s, rfl, hR⟩ hok hM
  exact ⟨Nat.le_of_ble_eq_true rfl, fun Z hZ => b_X7_isFigure  s (hok _ (List.mem_of_getElem? (i := 0) rfl)) M Ret  hR hM Z hZ⟩
def sp_X7_isLetterCell : SP := fun av M Ret => ∃ s : Int, av = [mi s] ∧ (Ret (some (mi (b2i (isLC s)))) M)
theorem k_X7_isLetterCell {code : List Sem} {Z : KZ} {Ret : KR} {ls : List (Option MV)} {M : Mem} {r : List MV} (hZ : Sim code Z Ret) (ip np : Nat) {s : Int} (hc : code[ip]? = some (I_callS 1 sp_X7_isLetterCell)) (hn : ip + 1 = np) (h3 : catS r ≤ 8)   (kz : Z np ls (mi (b2i (isLC s)) :: r) M) : Z ip ls (mi s :: r) M := w_callS1 hZ ip np hc hn h3 ⟨_, rfl, kz⟩
def cd_X7_isLetterCell : List Sem := [I_iload 0, I_i2l, I_lconst (1), I_lconst (26), I_callS 3 sp_X7_in, I_zret]
def pc_X7_isLetterCell : List Nat := [0, 1, 2, 3, 6, 9]
set_option maxRecDepth 100000 in
set_option maxHeartbeats 4000000 in
theorem b_X7_isLetterCell (s : Int) (i_s : InR s) (M : Mem) (Ret : KR)  (hR : Ret (some (mi (b2i (isLC s)))) M) (hM : MOk M) (Z : KZ) (hZ : Sim cd_X7_isLetterCell Z Ret) : Z 0 [some (mi s)] [] M := by
  refine w_iload hZ 0 1 rfl rfl rfl ?_
  refine w_i2l hZ 1 2 rfl rfl  ?_
  refine w_lconst hZ 2 3 rfl rfl  ?_
  refine w_lconst hZ 3 4 rfl rfl  ?_
  refine k_X7_in hZ 4 5 rfl rfl (Nat.le_of_ble_eq_true rfl)  ?_
  refine w_zret hZ 5 rfl (b2i_01 _) ?_
  exact hR
set_option maxRecDepth 100000 in
set_option maxHeartbeats 4000000 in
theorem ao_X7_isLetterCell : AllOk yX7_isLetterCell.cls cX7_isLetterCell 1 1 25 (some .boolean) none pc_X7_isLetterCell 0 cd_X7_isLetterCell := ⟨s_iload_n (k := 0) (by decide +kernel) rfl rfl, ⟨s_i2l (by decide +kernel) rfl, ⟨s_lconst (k := 1) (by decide +kernel) rfl ⟨by decide, by decide⟩ (by decide +kernel), ⟨s_ldc2 (v := (26)) tw_4_226 (by decide +kernel) rfl ⟨by decide, by decide⟩ (by decide +kernel), ⟨s_callS ct_X7_in (by decide) (by decide) ⟨by decide +kernel, by decide +kernel, by decide +kernel⟩ tw_3_234 tw_3_235 tw_1_8 tw_3_236 (by decide +kernel) rfl, ⟨s_zret rfl (by decide +kernel), trivial⟩⟩⟩⟩⟩⟩
theorem ct_X7_isLetterCell : Ctr yX7_isLetterCell cX7_isLetterCell 1 (some .boolean) 1 25 sp_X7_isLetterCell := by
  refine ctr_of (by decide +kernel) ao_X7_isLetterCell rfl ?_
  rintro av M Ret ⟨s, rfl, hR⟩ hok hM
  exact ⟨Nat.le_of_ble_eq_true rfl, fun Z hZ => b_X7_isLetterCell  s (hok _ (List.mem_of_getElem? (i := 0) rfl)) M Ret  hR hM Z hZ⟩
def sp_X7_isFigureCell : SP := fun av M Ret => ∃ s : Int, av = [mi s] ∧ (Ret (some (mi (b2i (isFC s)))) M)
theorem k_X7_isFigureCell {code : List Sem} {Z : KZ} {Ret : KR} {ls : List (Option MV)} {M : Mem} {r : List MV} (hZ : Sim code Z Ret) (ip np : Nat) {s : Int} (hc : code[ip]? = some (I_callS 1 sp_X7_isFigureCell)) (hn : ip + 1 = np) (h3 : catS r ≤ 8)   (kz : Z np ls (mi (b2i (isFC s)) :: r) M) : Z ip ls (mi s :: r) M := w_callS1 hZ ip np hc hn h3 ⟨_, rfl, kz⟩
def cd_X7_isFigureCell : List Sem := [I_iload 0, I_i2l, I_lconst (1), I_lconst (10), I_callS 3 sp_X7_in, I_zret]
def pc_X7_isFigureCell : List Nat := [0, 1, 2, 3, 6, 9]
set_option maxRecDepth 100000 in
set_option maxHeartbeats 4000000 in
theorem b_X7_isFigureCell (s : Int) (i_s : InR s) (M : Mem) (Ret : KR)  (hR : Ret (some (mi (b2i (isFC s)))) M) (hM : MOk M) (Z : KZ) (hZ : Sim cd_X7_isFigureCell Z Ret) : Z 0 [some (mi s)] [] M := by
  refine w_iload hZ 0 1 rfl rfl rfl ?_
  refine w_i2l hZ 1 2 rfl rfl  ?_
  refine w_lconst hZ 2 3 rfl rfl  ?_
  refine w_lconst hZ 3 4 rfl rfl  ?_
  refine k_X7_in hZ 4 5 rfl rfl (Nat.le_of_ble_eq_true rfl)  ?_
  refine w_zret hZ 5 rfl (b2i_01 _) ?_
  exact hR
set_option maxRecDepth 100000 in
set_option maxHeartbeats 4000000 in
theorem ao_X7_isFigureCell : AllOk yX7_isFigureCell.cls cX7_isFigureCell 1 1 25 (some .boolean) none pc_X7_isFigureCell 0 cd_X7_isFigureCell := ⟨s_iload_n (k := 0) (by decide +kernel) rfl rfl, ⟨s_i2l (by decide +kernel) rfl, ⟨s_lconst (k := 1) (by decide +kernel) rfl ⟨by decide, by decide⟩ (by decide +kernel), ⟨s_ldc2 (v := (10)) tw_5_14 (by decide +kernel) rfl ⟨by decide, by decide⟩ (by decide +kernel), ⟨s_callS ct_X7_in (by decide) (by decide) ⟨by decide +kernel, by decide +kernel, by decide +kernel⟩ tw_3_234 tw_3_235 tw_1_8 tw_3_236 (by decide +kernel) rfl, ⟨s_zret rfl (by decide +kernel), trivial⟩⟩⟩⟩⟩⟩
theorem ct_X7_isFigureCell : Ctr yX7_isFigureCell cX7_isFigureCell 1 (some .boolean) 1 25 sp_X7_isFigureCell := by
  refine ctr_of (by decide +kernel) ao_X7_isFigureCell rfl ?_
  rintro av M Ret ⟨s, rfl, hR⟩ hok hM
  exact ⟨Nat.le_of_ble_eq_true rfl, fun Z hZ => b_X7_isFigureCell  s (hok _ (List.mem_of_getElem? (i := 0) rfl)) M Ret  hR hM Z hZ⟩
def sp_X7_isLetter : SP := fun av M Ret => ∃ s : Int, av = [mi s] ∧ (Ret (some (mi (b2i (isLt s)))) M)
theorem k_X7_isLetter {code : List Sem} {Z : KZ} {Ret : KR} {ls : List (Option MV)} {M : Mem} {r : List MV} (hZ : Sim code Z Ret) (ip np : Nat) {s : Int} (hc : code[ip]? = some (I_callS 1 sp_X7_isLetter)) (hn : ip + 1 = np) (h3 : catS r ≤ 8)   (kz : Z np ls (mi (b2i (isLt s)) :: r) M) : Z ip ls (mi s :: r) M := w_callS1 hZ ip np hc hn h3 ⟨_, rfl, kz⟩
def cd_X7_isLetter : List Sem := [I_iload 0, I_callS 1 sp_X7_isSmall, I_ifne 6, I_iload 0, I_callS 1 sp_X7_isGreat, I_ifeq 8, I_const (1), I_goto 9, I_const (0), I_zret]
def pc_X7_isLetter : List Nat := [0, 1, 4, 7, 8, 11, 14, 15, 18, 19]
set_option maxRecDepth 100000 in
set_option maxHeartbeats 4000000 in
theorem b_X7_isLetter (s : Int) (i_s : InR s) (M : Mem) (Ret : KR)  (hR : Ret (some (mi (b2i (isLt s)))) M) (hM : MOk M) (Z : KZ) (hZ : Sim cd_X7_isLetter Z Ret) : Z 0 [some (mi s)] [] M := by
  refine w_iload hZ 0 1 rfl rfl rfl ?_
  refine k_X7_isSmall hZ 1 2 rfl rfl (Nat.le_of_ble_eq_true rfl)  ?_
  refine w_ifne hZ 2 3 rfl rfl (fun c2 => ?_) (fun c2 => ?_)
  · refine w_const hZ 6 7 rfl rfl  ?_
    refine w_goto hZ 7 9 rfl ?_
    refine w_zret hZ 9 rfl (by omega) ?_
    exact ret_i hR (by (first | refine b2i_t ?_ | refine b2i_f ?_); (try simp only [isSm, isCp, isLt, isFg, isPC, isSg, isCl, isRC, isLC, isFC, isPCC, b2i_e, b2i_z, cmp3_lt, cmp3_ge, cmp3_gt, cmp3_le] at *); omega)
  · refine w_iload hZ 3 4 rfl rfl rfl ?_
    refine k_X7_isGreat hZ 4 5 rfl rfl (Nat.le_of_ble_eq_true rfl)  ?_
    refine w_ifeq hZ 5 6 rfl rfl (fun c5 => ?_) (fun c5 => ?_)
    · refine w_const hZ 8 9 rfl rfl  ?_
      refine w_zret hZ 9 rfl (by omega) ?_
      exact ret_i hR (by (first | refine b2i_t ?_ | refine b2i_f ?_); (try simp only [isSm, isCp, isLt, isFg, isPC, isSg, isCl, isRC, isLC, isFC, isPCC, b2i_e, b2i_z, cmp3_lt, cmp3_ge, cmp3_gt, cmp3_le] at *); omega)
    · refine w_const hZ 6 7 rfl rfl  ?_
      refine w_goto hZ 7 9 rfl ?_
      refine w_zret hZ 9 rfl (by omega) ?_
      exact ret_i hR (by (first | refine b2i_t ?_ | refine b2i_f ?_); (try simp only [isSm, isCp, isLt, isFg, isPC, isSg, isCl, isRC, isLC, isFC, isPCC, b2i_e, b2i_z, cmp3_lt, cmp3_ge, cmp3_gt, cmp3_le] at *); omega)
set_option maxRecDepth 100000 in
set_option maxHeartbeats 4000000 in
theorem ao_X7_isLetter : AllOk yX7_isLetter.cls cX7_isLetter 1 2 45 (some .boolean) none pc_X7_isLetter 0 cd_X7_isLetter := ⟨s_iload_n (k := 0) (by decide +kernel) rfl rfl, ⟨s_callS ct_X7_isSmall (by decide) (by decide) ⟨by decide +kernel, by decide +kernel, by decide +kernel⟩ tw_4_59 tw_4_60 tw_1_8 tw_4_61 (by decide +kernel) rfl, ⟨s_ifne (off := (10)) (by decide +kernel) rfl rfl, ⟨s_iload_n (k := 0) (by decide +kernel) rfl rfl, ⟨s_callS ct_X7_isGreat (by decide) (by decide) ⟨by decide +kernel, by decide +kernel, by decide +kernel⟩ tw_4_64 tw_4_65 tw_1_8 tw_4_66 (by decide +kernel) rfl, ⟨s_ifeq (off := (7)) (by decide +kernel) rfl rfl, ⟨s_iconst (by decide +kernel) rfl ⟨by decide, by decide⟩, ⟨s_goto (off := (4)) (by decide +kernel) rfl, ⟨s_iconst (by decide +kernel) rfl ⟨by decide, by decide⟩, ⟨s_zret rfl (by decide +kernel), trivial⟩⟩⟩⟩⟩⟩⟩⟩⟩⟩
theorem ct_X7_isLetter : Ctr yX7_isLetter cX7_isLetter 1 (some .boolean) 2 45 sp_X7_isLetter := by
  refine ctr_of (by decide +kernel) ao_X7_isLetter rfl ?_
  rintro av M Ret ⟨s, rfl, hR⟩ hok hM
  exact ⟨Nat.le_of_ble_eq_true rfl, fun Z hZ => b_X7_isLetter  s (hok _ (List.mem_of_getElem? (i := 0) rfl)) M Ret  hR hM Z hZ⟩
def sp_X7_isSign : SP := fun av M Ret => ∃ s : Int, av = [mi s] ∧ (Ret (some (mi (b2i (isSg s)))) M)
theorem k_X7_isSign {code : List Sem} {Z : KZ} {Ret : KR} {ls : List (Option MV)} {M : Mem} {r : List MV} (hZ : Sim code Z Ret) (ip np : Nat) {s : Int} (hc : code[ip]? = some (I_callS 1 sp_X7_isSign)) (hn : ip + 1 = np) (h3 : catS r ≤ 8)   (kz : Z np ls (mi (b2i (isSg s)) :: r) M) : Z ip ls (mi s :: r) M := w_callS1 hZ ip np hc hn h3 ⟨_, rfl, kz⟩
def cd_X7_isSign : List Sem := [I_iload 0, I_callS 1 sp_X7_isLetter, I_ifne 18, I_iload 0, I_callS 1 sp_X7_isFigure, I_ifne 18, I_iload 0, I_const (46), I_ceq 18, I_iload 0, I_const (44), I_ceq 18, I_iload 0, I_const (45), I_ceq 18, I_iload 0, I_const (32), I_cne 20, I_const (1), I_goto 21, I_const (0), I_zret]
def pc_X7_isSign : List Nat := [0, 1, 4, 7, 8, 11, 14, 15, 17, 20, 21, 23, 26, 27, 29, 32, 33, 35, 38, 39, 42, 43]
set_option maxRecDepth 100000 in
set_option maxHeartbeats 4000000 in
theorem b_X7_isSign (s : Int) (i_s : InR s) (M : Mem) (Ret : KR)  (hR : Ret (some (mi (b2i (isSg s)))) M) (hM : MOk M) (Z : KZ) (hZ : Sim cd_X7_isSign Z Ret) : Z 0 [some (mi s)] [] M := by
  refine w_iload hZ 0 1 rfl rfl rfl ?_
  refine k_X7_isLetter hZ 1 2 rfl rfl (Nat.le_of_ble_eq_true rfl)  ?_
  refine w_ifne hZ 2 3 rfl rfl (fun c2 => ?_) (fun c2 => ?_)
  · refine w_const hZ 18 19 rfl rfl  ?_
    refine w_goto hZ 19 21 rfl ?_
    refine w_zret hZ 21 rfl (by omega) ?_
    exact ret_i hR (by (first | refine b2i_t ?_ | refine b2i_f ?_); (try simp only [isSm, isCp, isLt, isFg, isPC, isSg, isCl, isRC, isLC, isFC, isPCC, b2i_e, b2i_z, cmp3_lt, cmp3_ge, cmp3_gt, cmp3_le] at *); omega)
  · refine w_iload hZ 3 4 rfl rfl rfl ?_
    refine k_X7_isFigure hZ 4 5 rfl rfl (Nat.le_of_ble_eq_true rfl)  ?_
    refine w_ifne hZ 5 6 rfl rfl (fun c5 => ?_) (fun c5 => ?_)
    · refine w_const hZ 18 19 rfl rfl  ?_
      refine w_goto hZ 19 21 rfl ?_
      refine w_zret hZ 21 rfl (by omega) ?_
      exact ret_i hR (by (first | refine b2i_t ?_ | refine b2i_f ?_); (try simp only [isSm, isCp, isLt, isFg, isPC, isSg, isCl, isRC, isLC, isFC, isPCC, b2i_e, b2i_z, cmp3_lt, cmp3_ge, cmp3_gt, cmp3_le] at *); omega)
    · refine w_iload hZ 6 7 rfl rfl rfl ?_
      refine w_const hZ 7 8 rfl rfl  ?_
      refine w_ceq hZ 8 9 rfl rfl (fun c8 => ?_) (fun c8 => ?_)
      · refine w_const hZ 18 19 rfl rfl  ?_
        refine w_goto hZ 19 21 rfl ?_
        refine w_zret hZ 21 rfl (by omega) ?_
        exact ret_i hR (by (first | refine b2i_t ?_ | refine b2i_f ?_); (try simp only [isSm, isCp, isLt, isFg, isPC, isSg, isCl, isRC, isLC, isFC, isPCC, b2i_e, b2i_z, cmp3_lt, cmp3_ge, cmp3_gt, cmp3_le] at *); omega)
      · refine w_iload hZ 9 10 rfl rfl rfl ?_
        refine w_const hZ 10 11 rfl rfl  ?_
        refine w_ceq hZ 11 12 rfl rfl (fun c11 => ?_) (fun c11 => ?_)
        · refine w_const hZ 18 19 rfl rfl  ?_
          refine w_goto hZ 19 21 rfl ?_
          refine w_zret hZ 21 rfl (by omega) ?_
          exact ret_i hR (by (first | refine b2i_t ?_ | refine b2i_f ?_); (try simp only [isSm, isCp, isLt, isFg, isPC, isSg, isCl, isRC, isLC, isFC, isPCC, b2i_e, b2i_z, cmp3_lt, cmp3_ge, cmp3_gt, cmp3_le] at *); omega)
        · refine w_iload hZ 12 13 rfl rfl rfl ?_
          refine w_const hZ 13 14 rfl rfl  ?_
          refine w_ceq hZ 14 15 rfl rfl (fun c14 => ?_) (fun c14 => ?_)
          · refine w_const hZ 18 19 rfl rfl  ?_
            refine w_goto hZ 19 21 rfl ?_
            refine w_zret hZ 21 rfl (by omega) ?_
            exact ret_i hR (by (first | refine b2i_t ?_ | refine b2i_f ?_); (try simp only [isSm, isCp, isLt, isFg, isPC, isSg, isCl, isRC, isLC, isFC, isPCC, b2i_e, b2i_z, cmp3_lt, cmp3_ge, cmp3_gt, cmp3_le] at *); omega)
          · refine w_iload hZ 15 16 rfl rfl rfl ?_
            refine w_const hZ 16 17 rfl rfl  ?_
            refine w_cne hZ 17 18 rfl rfl (fun c17 => ?_) (fun c17 => ?_)
            · refine w_const hZ 20 21 rfl rfl  ?_
              refine w_zret hZ 21 rfl (by omega) ?_
              exact ret_i hR (by (first | refine b2i_t ?_ | refine b2i_f ?_); (try simp only [isSm, isCp, isLt, isFg, isPC, isSg, isCl, isRC, isLC, isFC, isPCC, b2i_e, b2i_z, cmp3_lt, cmp3_ge, cmp3_gt, cmp3_le] at *); omega)
            · refine w_const hZ 18 19 rfl rfl  ?_
              refine w_goto hZ 19 21 rfl ?_
              refine w_zret hZ 21 rfl (by omega) ?_
              exact ret_i hR (by (first | refine b2i_t ?_ | refine b2i_f ?_); (try simp only [isSm, isCp, isLt, isFg, isPC, isSg, isCl, isRC, isLC, isFC, isPCC, b2i_e, b2i_z, cmp3_lt, cmp3_ge, cmp3_gt, cmp3_le] at *); omega)
set_option maxRecDepth 100000 in
set_option maxHeartbeats 4000000 in
theorem ao_X7_isSign : AllOk yX7_isSign.cls cX7_isSign 1 3 65 (some .boolean) none pc_X7_isSign 0 cd_X7_isSign := ⟨s_iload_n (k := 0) (by decide +kernel) rfl rfl, ⟨s_callS ct_X7_isLetter (by decide) (by decide) ⟨by decide +kernel, by decide +kernel, by decide +kernel⟩ tw_4_56 tw_4_57 tw_1_8 tw_4_58 (by decide +kernel) rfl, ⟨s_ifne (off := (34)) (by decide +kernel) rfl rfl, ⟨s_iload_n (k := 0) (by decide +kernel) rfl rfl, ⟨s_callS ct_X7_isFigure (by decide) (by decide) ⟨by decide +kernel, by decide +kernel, by decide +kernel⟩ tw_4_69 tw_4_70 tw_1_8 tw_4_71 (by decide +kernel) rfl, ⟨s_ifne (off := (27)) (by decide +kernel) rfl rfl, ⟨s_iload_n (k := 0) (by decide +kernel) rfl rfl, ⟨s_bipush (by decide +kernel) rfl ⟨by decide, by decide⟩ (by decide +kernel), ⟨s_ceq (off := (21)) (by decide +kernel) rfl rfl, ⟨s_iload_n (k := 0) (by decide +kernel) rfl rfl, ⟨s_bipush (by decide +kernel) rfl ⟨by decide, by decide⟩ (by decide +kernel), ⟨s_ceq (off := (15)) (by decide +kernel) rfl rfl, ⟨s_iload_n (k := 0) (by decide +kernel) rfl rfl, ⟨s_bipush (by decide +kernel) rfl ⟨by decide, by decide⟩ (by decide +kernel), ⟨s_ceq (off := (9)) (by decide +kernel) rfl rfl, ⟨s_iload_n (k := 0) (by decide +kernel) rfl rfl, ⟨s_bipush (by decide +kernel) rfl ⟨by decide, by decide⟩ (by decide +kernel), ⟨s_cne (off := (7)) (by decide +kernel) rfl rfl, ⟨s_iconst (by decide +kernel) rfl ⟨by decide, by decide⟩, ⟨s_goto (off := (4)) (by decide +kernel) rfl, ⟨s_iconst (by decide +kernel) rfl ⟨by decide, by decide⟩, ⟨s_zret rfl (by decide +kernel), trivial⟩⟩⟩⟩⟩⟩⟩⟩⟩⟩⟩⟩⟩⟩⟩⟩⟩⟩⟩⟩⟩⟩
theorem ct_X7_isSign : Ctr yX7_isSign cX7_isSign 1 (some .boolean) 3 65 sp_X7_isSign := by
  refine ctr_of (by decide +kernel) ao_X7_isSign rfl ?_
  rintro av M Ret ⟨s, rfl, hR⟩ hok hM
  exact ⟨Nat.le_of_ble_eq_true rfl, fun Z hZ => b_X7_isSign  s (hok _ (List.mem_of_getElem? (i := 0) rfl)) M Ret  hR hM Z hZ⟩
def sp_X7_lettersOf : SP := fun av M Ret => ∃ c : Int, av = [mi c] ∧ (c < 531441) ∧ (Ret (some (mi (lnC c))) M)
theorem k_X7_lettersOf {code : List Sem} {Z : KZ} {Ret : KR} {ls : List (Option MV)} {M : Mem} {r : List MV} (hZ : Sim code Z Ret) (ip np : Nat) {c : Int} (hc : code[ip]? = some (I_callS 1 sp_X7_lettersOf)) (hn : ip + 1 = np) (h3 : catS r ≤ 8)  (hp : c < 531441) (kz : Z np ls (mi (lnC c) :: r) M) : Z ip ls (mi c :: r) M := w_callS1 hZ ip np hc hn h3 ⟨_, rfl, hp, kz⟩
def cd_X7_lettersOf : List Sem := [I_const (0), I_istore 1, I_iload 0, I_istore 2, I_iload 2, I_ifle 12, I_iinc 1 (1), I_iload 2, I_const (27), I_div, I_istore 2, I_goto 4, I_iload 1, I_iret]
def pc_X7_lettersOf : List Nat := [0, 1, 2, 3, 4, 5, 8, 11, 12, 14, 15, 16, 19, 20]
set_option maxRecDepth 100000 in
set_option maxHeartbeats 4000000 in
theorem b_X7_lettersOf (c : Int) (i_c : InR c) (M : Mem) (Ret : KR) (hp : c < 531441) (hR : Ret (some (mi (lnC c))) M) (hM : MOk M) (Z : KZ) (hZ : Sim cd_X7_lettersOf Z Ret) : Z 0 [some (mi c), none, none] [] M := by
  have loop : ∀ (d : Nat) (n cc : Int), d = cc.toNat → cc < 531441 → 0 ≤ n → n + lnC cc = lnC c → Z 4 [some (mi c), some (mi n), some (mi cc)] [] M := by
    intro d
    induction d using Nat.strongRecOn with
    | ind d ih =>
      intro n cc hd hB hn hs
      have hl4 := lnC_le c
      have hl5 := lnC_le cc
      refine w_iload hZ 4 5 rfl rfl rfl ?_
      refine w_ifle hZ 5 6 rfl rfl (fun c5 => ?_) (fun c5 => ?_)
      · refine w_iload hZ 12 13 rfl rfl rfl ?_
        refine w_iret hZ 13 rfl ?_
        exact ret_i hR (by have e := lnC_0 c5; omega)
      · refine w_in3_1 hZ 6 7 rfl rfl rfl (by unfold InR; omega) ?_
        refine w_iload hZ 7 8 rfl rfl rfl ?_
        refine w_const hZ 8 9 rfl rfl  ?_
        refine w_div hZ 9 10 rfl rfl (by omega) (by omega) ?_
        refine w_st3_2 hZ 10 11 rfl rfl rfl ?_
        refine w_goto hZ 11 4 rfl ?_
        exact ih ((cc / 27).toNat) (by omega) (n + 1) (cc / 27) rfl (by omega) (by omega) (by have := lnC_step c5 hB; omega)
  refine w_const hZ 0 1 rfl rfl  ?_
  refine w_st3_1 hZ 1 2 rfl rfl rfl ?_
  refine w_iload hZ 2 3 rfl rfl rfl ?_
  refine w_st3_2 hZ 3 4 rfl rfl rfl ?_
  exact loop _ 0 c rfl (by omega) (by omega) (by omega)
set_option maxRecDepth 100000 in
set_option maxHeartbeats 4000000 in
theorem ao_X7_lettersOf : AllOk yX7_lettersOf.cls cX7_lettersOf 3 0 0 (some .int) none pc_X7_lettersOf 0 cd_X7_lettersOf := ⟨s_iconst (by decide +kernel) rfl ⟨by decide, by decide⟩, ⟨s_istore_n (k := 1) (by decide +kernel) rfl rfl, ⟨s_iload_n (k := 0) (by decide +kernel) rfl rfl, ⟨s_istore_n (k := 2) (by decide +kernel) rfl rfl, ⟨s_iload_n (k := 2) (by decide +kernel) rfl rfl, ⟨s_ifle (off := (14)) (by decide +kernel) rfl rfl, ⟨s_iinc (by decide +kernel) rfl, ⟨s_iload_n (k := 2) (by decide +kernel) rfl rfl, ⟨s_bipush (by decide +kernel) rfl ⟨by decide, by decide⟩ (by decide +kernel), ⟨s_div (by decide +kernel) rfl, ⟨s_istore_n (k := 2) (by decide +kernel) rfl rfl, ⟨s_goto (off := (-12)) (by decide +kernel) rfl, ⟨s_iload_n (k := 1) (by decide +kernel) rfl rfl, ⟨s_iret rfl (by decide +kernel), trivial⟩⟩⟩⟩⟩⟩⟩⟩⟩⟩⟩⟩⟩⟩
theorem ct_X7_lettersOf : Ctr yX7_lettersOf cX7_lettersOf 3 (some .int) 0 0 sp_X7_lettersOf := by
  refine ctr_of (by decide +kernel) ao_X7_lettersOf rfl ?_
  rintro av M Ret ⟨c, rfl, hp, hR⟩ hok hM
  exact ⟨Nat.le_of_ble_eq_true rfl, fun Z hZ => b_X7_lettersOf  c (hok _ (List.mem_of_getElem? (i := 0) rfl)) M Ret hp hR hM Z hZ⟩
def sp_X7_letterOf : SP := fun av M Ret => ∃ c : Int, ∃ k : Int, av = [mi c, mi k] ∧ (0 ≤ c ∧ c < 531441 ∧ 0 ≤ k ∧ k < lnC c) ∧ (Ret (some (mi (dgC c k + 96))) M)
theorem k_X7_letterOf {code : List Sem} {Z : KZ} {Ret : KR} {ls : List (Option MV)} {M : Mem} {r : List MV} (hZ : Sim code Z Ret) (ip np : Nat) {c k : Int} (hc : code[ip]? = some (I_callS 2 sp_X7_letterOf)) (hn : ip + 1 = np) (h3 : catS r ≤ 8)  (hp : 0 ≤ c ∧ c < 531441 ∧ 0 ≤ k ∧ k < lnC c) (kz : Z np ls (mi (dgC c k + 96) :: r) M) : Z ip ls (mi k :: mi c :: r) M := w_callS2 hZ ip np hc hn h3 ⟨_, _, rfl, hp, kz⟩
def cd_X7_letterOf : List Sem := [I_iload 0, I_istore 2, I_iload 0, I_callS 1 sp_X7_lettersOf, I_const (1), I_sub, I_istore 3, I_iload 3, I_iload 1, I_cle 16, I_iload 2, I_const (27), I_div, I_istore 2, I_iinc 3 (-1), I_goto 7, I_iload 2, I_const (27), I_rem, I_const (96), I_add, I_iret]
def pc_X7_letterOf : List Nat := [0, 1, 2, 3, 6, 7, 8, 9, 10, 11, 14, 15, 17, 18, 19, 22, 25, 26, 28, 29, 31, 32]
set_option maxRecDepth 100000 in
set_option maxHeartbeats 4000000 in
theorem b_X7_letterOf (c : Int) (i_c : InR c) (k : Int) (i_k : InR k) (M : Mem) (Ret : KR) (hp : 0 ≤ c ∧ c < 531441 ∧ 0 ≤ k ∧ k < lnC c) (hR : Ret (some (mi (dgC c k + 96))) M) (hM : MOk M) (Z : KZ) (hZ : Sim cd_X7_letterOf Z Ret) : Z 0 [some (mi c), some (mi k), none, none] [] M := by
  obtain ⟨p0, p1, p2, p3⟩ := hp
  have hl4 := lnC_le c
  have loop : ∀ (d : Nat) (i cc : Int), d = (i - k).toNat → k ≤ i → i ≤ lnC c - 1 → cc = c / p27 (lnC c - 1 - i) → Z 7 [some (mi c), some (mi k), some (mi cc), some (mi i)] [] M := by
    intro d
    induction d using Nat.strongRecOn with
    | ind d ih =>
      intro i cc hd hk hi hcc
      have h0 : 0 ≤ cc := by rw [hcc]; exact Int.ediv_nonneg p0 (Int.le_of_lt (p27_pos _))
      refine w_iload hZ 7 8 rfl rfl rfl ?_
      refine w_iload hZ 8 9 rfl rfl rfl ?_
      refine w_cle hZ 9 10 rfl rfl (fun c9 => ?_) (fun c9 => ?_)
      · refine w_iload hZ 16 17 rfl rfl rfl ?_
        refine w_const hZ 17 18 rfl rfl  ?_
        refine w_rem hZ 18 19 rfl rfl (by omega) (by omega) ?_
        refine w_const hZ 19 20 rfl rfl  ?_
        refine w_add hZ 20 21 rfl rfl (by unfold InR; omega) ?_
        refine w_iret hZ 21 rfl ?_
        exact ret_i hR (by unfold dgC; rw [hcc]; congr 4; omega)
      · refine w_iload hZ 10 11 rfl rfl rfl ?_
        refine w_const hZ 11 12 rfl rfl  ?_
        refine w_div hZ 12 13 rfl rfl (by omega) (by omega) ?_
        refine w_st4_2 hZ 13 14 rfl rfl rfl ?_
        refine w_in4_3 hZ 14 15 rfl rfl rfl (by unfold InR; omega) ?_
        refine w_goto hZ 15 7 rfl ?_
        refine ih ((i + -1 - k).toNat) (by omega) (i + -1) (cc / 27) rfl (by omega) (by omega) ?_
        rw [hcc, p27_div (by omega) (by omega)]
        congr 2
        omega
  refine w_iload hZ 0 1 rfl rfl rfl ?_
  refine w_st4_2 hZ 1 2 rfl rfl rfl ?_
  refine w_iload hZ 2 3 rfl rfl rfl ?_
  refine k_X7_lettersOf hZ 3 4 rfl rfl (Nat.le_of_ble_eq_true rfl) p1 ?_
  refine w_const hZ 4 5 rfl rfl  ?_
  refine w_sub hZ 5 6 rfl rfl (by unfold InR; omega) ?_
  refine w_st4_3 hZ 6 7 rfl rfl rfl ?_
  exact loop _ _ c rfl (by omega) (by omega) (by simp [p27])
set_option maxRecDepth 100000 in
set_option maxHeartbeats 4000000 in
theorem ao_X7_letterOf : AllOk yX7_letterOf.cls cX7_letterOf 4 1 22 (some .int) none pc_X7_letterOf 0 cd_X7_letterOf := ⟨s_iload_n (k := 0) (by decide +kernel) rfl rfl, ⟨s_istore_n (k := 2) (by decide +kernel) rfl rfl, ⟨s_iload_n (k := 0) (by decide +kernel) rfl rfl, ⟨s_callS ct_X7_lettersOf (by decide) (by decide) ⟨by decide +kernel, by decide +kernel, by decide +kernel⟩ tw_3_237 tw_3_238 tw_1_8 tw_3_239 (by decide +kernel) rfl, ⟨s_iconst (by decide +kernel) rfl ⟨by decide, by decide⟩, ⟨s_sub (by decide +kernel) rfl, ⟨s_istore_n (k := 3) (by decide +kernel) rfl rfl, ⟨s_iload_n (k := 3) (by decide +kernel) rfl rfl, ⟨s_iload_n (k := 1) (by decide +kernel) rfl rfl, ⟨s_cle (off := (14)) (by decide +kernel) rfl rfl, ⟨s_iload_n (k := 2) (by decide +kernel) rfl rfl, ⟨s_bipush (by decide +kernel) rfl ⟨by decide, by decide⟩ (by decide +kernel), ⟨s_div (by decide +kernel) rfl, ⟨s_istore_n (k := 2) (by decide +kernel) rfl rfl, ⟨s_iinc (by decide +kernel) rfl, ⟨s_goto (off := (-13)) (by decide +kernel) rfl, ⟨s_iload_n (k := 2) (by decide +kernel) rfl rfl, ⟨s_bipush (by decide +kernel) rfl ⟨by decide, by decide⟩ (by decide +kernel), ⟨s_rem (by decide +kernel) rfl, ⟨s_bipush (by decide +kernel) rfl ⟨by decide, by decide⟩ (by decide +kernel), ⟨s_add (by decide +kernel) rfl, ⟨s_iret rfl (by decide +kernel), trivial⟩⟩⟩⟩⟩⟩⟩⟩⟩⟩⟩⟩⟩⟩⟩⟩⟩⟩⟩⟩⟩⟩
theorem ct_X7_letterOf : Ctr yX7_letterOf cX7_letterOf 4 (some .int) 1 22 sp_X7_letterOf := by
  refine ctr_of (by decide +kernel) ao_X7_letterOf rfl ?_
  rintro av M Ret ⟨c, k, rfl, hp, hR⟩ hok hM
  exact ⟨Nat.le_of_ble_eq_true rfl, fun Z hZ => b_X7_letterOf  c (hok _ (List.mem_of_getElem? (i := 0) rfl)) k (hok _ (List.mem_of_getElem? (i := 1) rfl)) M Ret hp hR hM Z hZ⟩
def sp_X7_isCode : SP := fun av M Ret => ∃ c : Int, av = [mi c] ∧ (Ret (some (mi (b2i (vC c)))) M)
theorem k_X7_isCode {code : List Sem} {Z : KZ} {Ret : KR} {ls : List (Option MV)} {M : Mem} {r : List MV} (hZ : Sim code Z Ret) (ip np : Nat) {c : Int} (hc : code[ip]? = some (I_callS 1 sp_X7_isCode)) (hn : ip + 1 = np) (h3 : catS r ≤ 8)   (kz : Z np ls (mi (b2i (vC c)) :: r) M) : Z ip ls (mi c :: r) M := w_callS1 hZ ip np hc hn h3 ⟨_, rfl, kz⟩
def cd_X7_isCode : List Sem := [I_iload 0, I_i2l, I_lconst (1), I_lconst (531440), I_callS 3 sp_X7_in, I_ifeq 13, I_iload 0, I_callS 1 sp_X7_lettersOf, I_i2l, I_lconst (2), I_lconst (4), I_callS 3 sp_X7_in, I_ifne 15, I_const (0), I_zret, I_const (1), I_istore 1, I_const (0), I_istore 2, I_iload 2, I_iload 0, I_callS 1 sp_X7_lettersOf, I_cge 36, I_iload 1, I_ifeq 32, I_iload 0, I_iload 2, I_callS 2 sp_X7_letterOf, I_const (96), I_cle 32, I_const (1), I_goto 33, I_const (0), I_istore 1, I_iinc 2 (1), I_goto 19, I_iload 1, I_zret]
def pc_X7_isCode : List Nat := [0, 1, 2, 3, 6, 9, 12, 13, 16, 17, 20, 23, 26, 29, 30, 31, 32, 33, 34, 35, 36, 37, 40, 43, 44, 47, 48, 49, 52, 54, 57, 58, 61, 62, 63, 66, 69, 70]
set_option maxRecDepth 100000 in
set_option maxHeartbeats 4000000 in
theorem b_X7_isCode (c : Int) (i_c : InR c) (M : Mem) (Ret : KR)  (hR : Ret (some (mi (b2i (vC c)))) M) (hM : MOk M) (Z : KZ) (hZ : Sim cd_X7_isCode Z Ret) : Z 0 [some (mi c), none, none] [] M := by
  have hl4 := lnC_le c
  have loop : ∀ (d : Nat) (is k : Int), d = (4 - k).toNat → 27 ≤ c → c < 531441 → 0 ≤ k → k ≤ lnC c → ((is = 1 ∧ ∀ j, 0 ≤ j → j < k → 0 < dgC c j) ∨ (is = 0 ∧ ∃ j, 0 ≤ j ∧ j < k ∧ ¬ 0 < dgC c j)) → Z 19 [some (mi c), some (mi is), some (mi k)] [] M := by
    intro d
    induction d using Nat.strongRecOn with
    | ind d ih =>
      intro is k hd h0 h1 hk hkl hI
      have step : ∀ is2 : Int, ((is2 = 1 ∧ is = 1 ∧ 0 < dgC c k) ∨ (is2 = 0 ∧ (is = 0 ∨ ¬ 0 < dgC c k))) → k < lnC c → Z 34 [some (mi c), some (mi is2), some (mi k)] [] M := by
        intro is2 h2 hk2
        refine w_in3_2 hZ 34 35 rfl rfl rfl (by unfold InR; omega) ?_
        refine w_goto hZ 35 19 rfl ?_
        refine ih ((4 - (k + 1)).toNat) (by clear hI; omega) is2 (k + 1) rfl h0 h1 (by clear hI; omega) (by clear hI; omega) ?_
        rcases h2 with ⟨a, b, e⟩ | ⟨a, b⟩
        · refine Or.inl ⟨a, fun j j0 j1 => ?_⟩
          rcases hI with ⟨-, q⟩ | ⟨q, -⟩
          · by_cases hj : j = k
            · rw [hj]; exact e
            · exact q j j0 (by omega)
          · omega
        · refine Or.inr ⟨a, ?_⟩
          rcases hI with ⟨q, -⟩ | ⟨-, j, j0, j1, j2⟩
          · rcases b with b | b
            · omega
            · exact ⟨k, hk, by omega, b⟩
          · exact ⟨j, j0, by omega, j2⟩
      refine w_iload hZ 19 20 rfl rfl rfl ?_
      refine w_iload hZ 20 21 rfl rfl rfl ?_
      refine k_X7_lettersOf hZ 21 22 rfl rfl (Nat.le_of_ble_eq_true rfl) h1 ?_
      refine w_cge hZ 22 23 rfl rfl (fun c22 => ?_) (fun c22 => ?_)
      · refine w_iload hZ 36 37 rfl rfl rfl ?_
        refine w_zret hZ 37 rfl (by omega) ?_
        rcases hI with ⟨a, b⟩ | ⟨a, j, j0, j1, j2⟩
        · exact ret_i hR (by rw [a]; exact b2i_t ((vC_iff h0 h1).mpr fun j a1 a2 => b j a1 (by omega)))
        · exact ret_i hR (by rw [a]; exact b2i_f fun q => j2 ((vC_iff h0 h1).mp q j j0 (by omega)))
      · refine w_iload hZ 23 24 rfl rfl rfl ?_
        refine w_ifeq hZ 24 25 rfl rfl (fun c24 => ?_) (fun c24 => ?_)
        · refine w_const hZ 32 33 rfl rfl  ?_
          refine w_st3_1 hZ 33 34 rfl rfl rfl ?_
          exact step _ (by omega) c22
        · refine w_iload hZ 25 26 rfl rfl rfl ?_
          refine w_iload hZ 26 27 rfl rfl rfl ?_
          refine k_X7_letterOf hZ 27 28 rfl rfl (Nat.le_of_ble_eq_true rfl) ⟨by omega, h1, hk, c22⟩ ?_
          refine w_const hZ 28 29 rfl rfl  ?_
          refine w_cle hZ 29 30 rfl rfl (fun c29 => ?_) (fun c29 => ?_)
          · refine w_const hZ 32 33 rfl rfl  ?_
            refine w_st3_1 hZ 33 34 rfl rfl rfl ?_
            exact step _ (by omega) c22
          · refine w_const hZ 30 31 rfl rfl  ?_
            refine w_goto hZ 31 33 rfl ?_
            refine w_st3_1 hZ 33 34 rfl rfl rfl ?_
            exact step _ (by omega) c22
  refine w_iload hZ 0 1 rfl rfl rfl ?_
  refine w_i2l hZ 1 2 rfl rfl  ?_
  refine w_lconst hZ 2 3 rfl rfl  ?_
  refine w_lconst hZ 3 4 rfl rfl  ?_
  refine k_X7_in hZ 4 5 rfl rfl (Nat.le_of_ble_eq_true rfl)  ?_
  refine w_ifeq hZ 5 6 rfl rfl (fun c5 => ?_) (fun c5 => ?_)
  · refine w_const hZ 13 14 rfl rfl  ?_
    refine w_zret hZ 14 rfl (by omega) ?_
    exact ret_i hR (b2i_f (fun q => by
      have := q.1
      have := q.2.1
      have := (lnC_2 (c := c)).mpr q.1
      (first | replace c5 := b2i_z.mp c5 | replace c12 := b2i_z.mp c12)
      omega))
  · refine w_iload hZ 6 7 rfl rfl rfl ?_
    refine k_X7_lettersOf hZ 7 8 rfl rfl (Nat.le_of_ble_eq_true rfl) (by have := (b2i_e.mp c5); omega) ?_
    refine w_i2l hZ 8 9 rfl rfl  ?_
    refine w_lconst hZ 9 10 rfl rfl  ?_
    refine w_lconst hZ 10 11 rfl rfl  ?_
    refine k_X7_in hZ 11 12 rfl rfl (Nat.le_of_ble_eq_true rfl)  ?_
    refine w_ifne hZ 12 13 rfl rfl (fun c12 => ?_) (fun c12 => ?_)
    · replace c5 := b2i_e.mp c5
      replace c12 := b2i_e.mp c12
      refine w_const hZ 15 16 rfl rfl  ?_
      refine w_st3_1 hZ 16 17 rfl rfl rfl ?_
      refine w_const hZ 17 18 rfl rfl  ?_
      refine w_st3_2 hZ 18 19 rfl rfl rfl ?_
      exact loop 4 1 0 rfl (lnC_2.mp c12.1) (by omega) (by omega) (by omega) (Or.inl ⟨rfl, fun j a b => by omega⟩)
    · refine w_const hZ 13 14 rfl rfl  ?_
      refine w_zret hZ 14 rfl (by omega) ?_
      exact ret_i hR (b2i_f (fun q => by
        have := q.1
        have := q.2.1
        have := (lnC_2 (c := c)).mpr q.1
        (first | replace c5 := b2i_z.mp c5 | replace c12 := b2i_z.mp c12)
        omega))
set_option maxRecDepth 100000 in
set_option maxHeartbeats 4000000 in
theorem ao_X7_isCode : AllOk yX7_isCode.cls cX7_isCode 3 2 45 (some .boolean) none pc_X7_isCode 0 cd_X7_isCode := ⟨s_iload_n (k := 0) (by decide +kernel) rfl rfl, ⟨s_i2l (by decide +kernel) rfl, ⟨s_lconst (k := 1) (by decide +kernel) rfl ⟨by decide, by decide⟩ (by decide +kernel), ⟨s_ldc2 (v := (531440)) tw_3_233 (by decide +kernel) rfl ⟨by decide, by decide⟩ (by decide +kernel), ⟨s_callS ct_X7_in (by decide) (by decide) ⟨by decide +kernel, by decide +kernel, by decide +kernel⟩ tw_3_234 tw_3_235 tw_1_8 tw_3_236 (by decide +kernel) rfl, ⟨s_ifeq (off := (20)) (by decide +kernel) rfl rfl, ⟨s_iload_n (k := 0) (by decide +kernel) rfl rfl, ⟨s_callS ct_X7_lettersOf (by decide) (by decide) ⟨by decide +kernel, by decide +kernel, by decide +kernel⟩ tw_3_237 tw_3_238 tw_1_8 tw_3_239 (by decide +kernel) rfl, ⟨s_i2l (by decide +kernel) rfl, ⟨s_ldc2 (v := (2)) tw_4_0 (by decide +kernel) rfl ⟨by decide, by decide⟩ (by decide +kernel), ⟨s_ldc2 (v := (4)) tw_4_1 (by decide +kernel) rfl ⟨by decide, by decide⟩ (by decide +kernel), ⟨s_callS ct_X7_in (by decide) (by decide) ⟨by decide +kernel, by decide +kernel, by decide +kernel⟩ tw_3_234 tw_3_235 tw_1_8 tw_3_236 (by decide +kernel) rfl, ⟨s_ifne (off := (5)) (by decide +kernel) rfl rfl, ⟨s_iconst (by decide +kernel) rfl ⟨by decide, by decide⟩, ⟨s_zret rfl (by decide +kernel), ⟨s_iconst (by decide +kernel) rfl ⟨by decide, by decide⟩, ⟨s_istore_n (k := 1) (by decide +kernel) rfl rfl, ⟨s_iconst (by decide +kernel) rfl ⟨by decide, by decide⟩, ⟨s_istore_n (k := 2) (by decide +kernel) rfl rfl, ⟨s_iload_n (k := 2) (by decide +kernel) rfl rfl, ⟨s_iload_n (k := 0) (by decide +kernel) rfl rfl, ⟨s_callS ct_X7_lettersOf (by decide) (by decide) ⟨by decide +kernel, by decide +kernel, by decide +kernel⟩ tw_3_237 tw_3_238 tw_1_8 tw_3_239 (by decide +kernel) rfl, ⟨s_cge (off := (29)) (by decide +kernel) rfl rfl, ⟨s_iload_n (k := 1) (by decide +kernel) rfl rfl, ⟨s_ifeq (off := (17)) (by decide +kernel) rfl rfl, ⟨s_iload_n (k := 0) (by decide +kernel) rfl rfl, ⟨s_iload_n (k := 2) (by decide +kernel) rfl rfl, ⟨s_callS ct_X7_letterOf (by decide) (by decide) ⟨by decide +kernel, by decide +kernel, by decide +kernel⟩ tw_4_2 tw_4_3 tw_1_8 tw_4_4 (by decide +kernel) rfl, ⟨s_bipush (by decide +kernel) rfl ⟨by decide, by decide⟩ (by decide +kernel), ⟨s_cle (off := (7)) (by decide +kernel) rfl rfl, ⟨s_iconst (by decide +kernel) rfl ⟨by decide, by decide⟩, ⟨s_goto (off := (4)) (by decide +kernel) rfl, ⟨s_iconst (by decide +kernel) rfl ⟨by decide, by decide⟩, ⟨s_istore_n (k := 1) (by decide +kernel) rfl rfl, ⟨s_iinc (by decide +kernel) rfl, ⟨s_goto (off := (-31)) (by decide +kernel) rfl, ⟨s_iload_n (k := 1) (by decide +kernel) rfl rfl, ⟨s_zret rfl (by decide +kernel), trivial⟩⟩⟩⟩⟩⟩⟩⟩⟩⟩⟩⟩⟩⟩⟩⟩⟩⟩⟩⟩⟩⟩⟩⟩⟩⟩⟩⟩⟩⟩⟩⟩⟩⟩⟩⟩⟩⟩
theorem ct_X7_isCode : Ctr yX7_isCode cX7_isCode 3 (some .boolean) 2 45 sp_X7_isCode := by
  refine ctr_of (by decide +kernel) ao_X7_isCode rfl ?_
  rintro av M Ret ⟨c, rfl, hR⟩ hok hM
  exact ⟨Nat.le_of_ble_eq_true rfl, fun Z hZ => b_X7_isCode  c (hok _ (List.mem_of_getElem? (i := 0) rfl)) M Ret  hR hM Z hZ⟩
def sp_X7_mayByKind : SP := fun av M Ret => ∃ kd : Int, ∃ fr : Int, ∃ to : Int, ∃ a : Int, ∃ b : Int, av = [mi kd, mi fr, mi to, mi a, mi b] ∧ (Ret (some (mi (b2i (kdOk kd fr to a b)))) M)
theorem k_X7_mayByKind {code : List Sem} {Z : KZ} {Ret : KR} {ls : List (Option MV)} {M : Mem} {r : List MV} (hZ : Sim code Z Ret) (ip np : Nat) {kd fr to a b : Int} (hc : code[ip]? = some (I_callS 5 sp_X7_mayByKind)) (hn : ip + 1 = np) (h3 : catS r ≤ 8)   (kz : Z np ls (mi (b2i (kdOk kd fr to a b)) :: r) M) : Z ip ls (mi b :: mi a :: mi to :: mi fr :: mi kd :: r) M := w_callS5 hZ ip np hc hn h3 ⟨_, _, _, _, _, rfl, kz⟩
def cd_X7_mayByKind : List Sem := [I_iload 0, I_tsw (0) [2, 4, 14, 24] 34, I_const (1), I_zret, I_iload 1, I_iload 3, I_cne 12, I_iload 2, I_iload 4, I_cne 12, I_const (1), I_goto 13, I_const (0), I_zret, I_iload 1, I_iload 3, I_cne 22, I_iload 2, I_iload 4, I_cge 22, I_const (1), I_goto 23, I_const (0), I_zret, I_iload 1, I_iload 3, I_cle 32, I_iload 2, I_iload 4, I_cne 32, I_const (1), I_goto 33, I_const (0), I_zret, I_iload 1, I_iload 3, I_cle 42, I_iload 2, I_iload 4, I_cge 42, I_const (1), I_goto 43, I_const (0), I_zret]
def pc_X7_mayByKind : List Nat := [0, 1, 32, 33, 34, 35, 36, 39, 40, 42, 45, 46, 49, 50, 51, 52, 53, 56, 57, 59, 62, 63, 66, 67, 68, 69, 70, 73, 74, 76, 79, 80, 83, 84, 85, 86, 87, 90, 91, 93, 96, 97, 100, 101]
set_option maxRecDepth 100000 in
set_option maxHeartbeats 4000000 in
theorem b_X7_mayByKind (kd : Int) (i_kd : InR kd) (fr : Int) (i_fr : InR fr) (to : Int) (i_to : InR to) (a : Int) (i_a : InR a) (b : Int) (i_b : InR b) (M : Mem) (Ret : KR)  (hR : Ret (some (mi (b2i (kdOk kd fr to a b)))) M) (hM : MOk M) (Z : KZ) (hZ : Sim cd_X7_mayByKind Z Ret) : Z 0 [some (mi kd), some (mi fr), some (mi to), some (mi a), some (mi b)] [] M := by
  refine w_iload hZ 0 1 rfl rfl rfl ?_
  refine w_tsw4 hZ 1 rfl (fun c1 => ?_) (fun c1 => ?_) (fun c1 => ?_) (fun c1 => ?_) (fun c1 => ?_)
  · refine w_const hZ 2 3 rfl rfl  ?_
    refine w_zret hZ 3 rfl (by omega) ?_
    exact ret_i hR (by (first | refine b2i_t ?_ | refine b2i_f ?_); unfold kdOk; omega)
  · refine w_iload hZ 4 5 rfl rfl rfl ?_
    refine w_iload hZ 5 6 rfl rfl rfl ?_
    refine w_cne hZ 6 7 rfl rfl (fun c6 => ?_) (fun c6 => ?_)
    · refine w_const hZ 12 13 rfl rfl  ?_
      refine w_zret hZ 13 rfl (by omega) ?_
      exact ret_i hR (by (first | refine b2i_t ?_ | refine b2i_f ?_); unfold kdOk; omega)
    · refine w_iload hZ 7 8 rfl rfl rfl ?_
      refine w_iload hZ 8 9 rfl rfl rfl ?_
      refine w_cne hZ 9 10 rfl rfl (fun c9 => ?_) (fun c9 => ?_)
      · refine w_const hZ 12 13 rfl rfl  ?_
        refine w_zret hZ 13 rfl (by omega) ?_
        exact ret_i hR (by (first | refine b2i_t ?_ | refine b2i_f ?_); unfold kdOk; omega)
      · refine w_const hZ 10 11 rfl rfl  ?_
        refine w_goto hZ 11 13 rfl ?_
        refine w_zret hZ 13 rfl (by omega) ?_
        exact ret_i hR (by (first | refine b2i_t ?_ | refine b2i_f ?_); unfold kdOk; omega)
  · refine w_iload hZ 14 15 rfl rfl rfl ?_
    refine w_iload hZ 15 16 rfl rfl rfl ?_
    refine w_cne hZ 16 17 rfl rfl (fun c16 => ?_) (fun c16 => ?_)
    · refine w_const hZ 22 23 rfl rfl  ?_
      refine w_zret hZ 23 rfl (by omega) ?_
      exact ret_i hR (by (first | refine b2i_t ?_ | refine b2i_f ?_); unfold kdOk; omega)
    · refine w_iload hZ 17 18 rfl rfl rfl ?_
      refine w_iload hZ 18 19 rfl rfl rfl ?_
      refine w_cge hZ 19 20 rfl rfl (fun c19 => ?_) (fun c19 => ?_)
      · refine w_const hZ 22 23 rfl rfl  ?_
        refine w_zret hZ 23 rfl (by omega) ?_
        exact ret_i hR (by (first | refine b2i_t ?_ | refine b2i_f ?_); unfold kdOk; omega)
      · refine w_const hZ 20 21 rfl rfl  ?_
        refine w_goto hZ 21 23 rfl ?_
        refine w_zret hZ 23 rfl (by omega) ?_
        exact ret_i hR (by (first | refine b2i_t ?_ | refine b2i_f ?_); unfold kdOk; omega)
  · refine w_iload hZ 24 25 rfl rfl rfl ?_
    refine w_iload hZ 25 26 rfl rfl rfl ?_
    refine w_cle hZ 26 27 rfl rfl (fun c26 => ?_) (fun c26 => ?_)
    · refine w_const hZ 32 33 rfl rfl  ?_
      refine w_zret hZ 33 rfl (by omega) ?_
      exact ret_i hR (by (first | refine b2i_t ?_ | refine b2i_f ?_); unfold kdOk; omega)
    · refine w_iload hZ 27 28 rfl rfl rfl ?_
      refine w_iload hZ 28 29 rfl rfl rfl ?_
      refine w_cne hZ 29 30 rfl rfl (fun c29 => ?_) (fun c29 => ?_)
      · refine w_const hZ 32 33 rfl rfl  ?_
        refine w_zret hZ 33 rfl (by omega) ?_
        exact ret_i hR (by (first | refine b2i_t ?_ | refine b2i_f ?_); unfold kdOk; omega)
      · refine w_const hZ 30 31 rfl rfl  ?_
        refine w_goto hZ 31 33 rfl ?_
        refine w_zret hZ 33 rfl (by omega) ?_
        exact ret_i hR (by (first | refine b2i_t ?_ | refine b2i_f ?_); unfold kdOk; omega)
  · refine w_iload hZ 34 35 rfl rfl rfl ?_
    refine w_iload hZ 35 36 rfl rfl rfl ?_
    refine w_cle hZ 36 37 rfl rfl (fun c36 => ?_) (fun c36 => ?_)
    · refine w_const hZ 42 43 rfl rfl  ?_
      refine w_zret hZ 43 rfl (by omega) ?_
      exact ret_i hR (by (first | refine b2i_t ?_ | refine b2i_f ?_); unfold kdOk; omega)
    · refine w_iload hZ 37 38 rfl rfl rfl ?_
      refine w_iload hZ 38 39 rfl rfl rfl ?_
      refine w_cge hZ 39 40 rfl rfl (fun c39 => ?_) (fun c39 => ?_)
      · refine w_const hZ 42 43 rfl rfl  ?_
        refine w_zret hZ 43 rfl (by omega) ?_
        exact ret_i hR (by (first | refine b2i_t ?_ | refine b2i_f ?_); unfold kdOk; omega)
      · refine w_const hZ 40 41 rfl rfl  ?_
        refine w_goto hZ 41 43 rfl ?_
        refine w_zret hZ 43 rfl (by omega) ?_
        exact ret_i hR (by (first | refine b2i_t ?_ | refine b2i_f ?_); unfold kdOk; omega)
set_option maxRecDepth 100000 in
set_option maxHeartbeats 4000000 in
theorem ao_X7_mayByKind : AllOk yX7_mayByKind.cls cX7_mayByKind 5 0 0 (some .boolean) none pc_X7_mayByKind 0 cd_X7_mayByKind := ⟨s_iload_n (k := 0) (by decide +kernel) rfl rfl, ⟨s_tsw (dfl := 84) (hi0 := 3) (offs := #[31, 33, 50, 67]) (len := 31) (by decide +kernel) rfl rfl rfl, ⟨s_iconst (by decide +kernel) rfl ⟨by decide, by decide⟩, ⟨s_zret rfl (by decide +kernel), ⟨s_iload_n (k := 1) (by decide +kernel) rfl rfl, ⟨s_iload_n (k := 3) (by decide +kernel) rfl rfl, ⟨s_cne (off := (13)) (by decide +kernel) rfl rfl, ⟨s_iload_n (k := 2) (by decide +kernel) rfl rfl, ⟨s_iload (by decide +kernel) rfl, ⟨s_cne (off := (7)) (by decide +kernel) rfl rfl, ⟨s_iconst (by decide +kernel) rfl ⟨by decide, by decide⟩, ⟨s_goto (off := (4)) (by decide +kernel) rfl, ⟨s_iconst (by decide +kernel) rfl ⟨by decide, by decide⟩, ⟨s_zret rfl (by decide +kernel), ⟨s_iload_n (k := 1) (by decide +kernel) rfl rfl, ⟨s_iload_n (k := 3) (by decide +kernel) rfl rfl, ⟨s_cne (off := (13)) (by decide +kernel) rfl rfl, ⟨s_iload_n (k := 2) (by decide +kernel) rfl rfl, ⟨s_iload (by decide +kernel) rfl, ⟨s_cge (off := (7)) (by decide +kernel) rfl rfl, ⟨s_iconst (by decide +kernel) rfl ⟨by decide, by decide⟩, ⟨s_goto (off := (4)) (by decide +kernel) rfl, ⟨s_iconst (by decide +kernel) rfl ⟨by decide, by decide⟩, ⟨s_zret rfl (by decide +kernel), ⟨s_iload_n (k := 1) (by decide +kernel) rfl rfl, ⟨s_iload_n (k := 3) (by decide +kernel) rfl rfl, ⟨s_cle (off := (13)) (by decide +kernel) rfl rfl, ⟨s_iload_n (k := 2) (by decide +kernel) rfl rfl, ⟨s_iload (by decide +kernel) rfl, ⟨s_cne (off := (7)) (by decide +kernel) rfl rfl, ⟨s_iconst (by decide +kernel) rfl ⟨by decide, by decide⟩, ⟨s_goto (off := (4)) (by decide +kernel) rfl, ⟨s_iconst (by decide +kernel) rfl ⟨by decide, by decide⟩, ⟨s_zret rfl (by decide +kernel), ⟨s_iload_n (k := 1) (by decide +kernel) rfl rfl, ⟨s_iload_n (k := 3) (by decide +kernel) rfl rfl, ⟨s_cle (off := (13)) (by decide +kernel) rfl rfl, ⟨s_iload_n (k := 2) (by decide +kernel) rfl rfl, ⟨s_iload (by decide +kernel) rfl, ⟨s_cge (off := (7)) (by decide +kernel) rfl rfl, ⟨s_iconst (by decide +kernel) rfl ⟨by decide, by decide⟩, ⟨s_goto (off := (4)) (by decide +kernel) rfl, ⟨s_iconst (by decide +kernel) rfl ⟨by decide, by decide⟩, ⟨s_zret rfl (by decide +kernel), trivial⟩⟩⟩⟩⟩⟩⟩⟩⟩⟩⟩⟩⟩⟩⟩⟩⟩⟩⟩⟩⟩⟩⟩⟩⟩⟩⟩⟩⟩⟩⟩⟩⟩⟩⟩⟩⟩⟩⟩⟩⟩⟩⟩⟩
theorem ct_X7_mayByKind : Ctr yX7_mayByKind cX7_mayByKind 5 (some .boolean) 0 0 sp_X7_mayByKind := by
  refine ctr_of (by decide +kernel) ao_X7_mayByKind rfl ?_
  rintro av M Ret ⟨kd, fr, to, a, b, rfl, hR⟩ hok hM
  exact ⟨Nat.le_of_ble_eq_true rfl, fun Z hZ => b_X7_mayByKind  kd (hok _ (List.mem_of_getElem? (i := 0) rfl)) fr (hok _ (List.mem_of_getElem? (i := 1) rfl)) to (hok _ (List.mem_of_getElem? (i := 2) rfl)) a (hok _ (List.mem_of_getElem? (i := 3) rfl)) b (hok _ (List.mem_of_getElem? (i := 4) rfl)) M Ret  hR hM Z hZ⟩
end
section
/-! a book: signs, words, rules by their places -/
def sgn (n : Int) (f : Nat → Int) (i : Int) : Int := if 0 ≤ i ∧ i < n then f i.toNat else -1
theorem sgn_in {n : Int} {f : Nat → Int} {i : Int} (h0 : 0 ≤ i) (h1 : i < n) : sgn n f i = f i.toNat := if_pos ⟨h0, h1⟩
theorem sgn_lo {n : Int} {f : Nat → Int} {i : Int} (h : i < 0) : sgn n f i = -1 := if_neg (by omega)
theorem sgn_hi {n : Int} {f : Nat → Int} {i : Int} (h : n ≤ i) : sgn n f i = -1 := if_neg (by omega)
theorem sgn_congr {n : Int} {f h : Nat → Int} (e : ∀ i : Nat, (i : Int) < n → f i = h i) : sgn n f = sgn n h := by
  funext i
  unfold sgn
  split
  · exact e _ (by omega)
  · rfl
/-- r is the first place among n where f is c; -1: there is none -/
def IsF (f : Nat → Int) (c n r : Int) : Prop := (r = -1 ∧ ∀ j : Int, 0 ≤ j → j < n → ¬ f j.toNat = c) ∨ (0 ≤ r ∧ r < n ∧ f r.toNat = c ∧ ∀ j : Int, 0 ≤ j → j < r → ¬ f j.toNat = c)
def fIxN (f : Nat → Int) (c : Int) : Nat → Int
  | 0 => -1
  | n + 1 => if fIxN f c n = -1 then (if f n = c then (n : Int) else -1) else fIxN f c n
def fIx (f : Nat → Int) (c n : Int) : Int := fIxN f c n.toNat
theorem fIxN_is (f : Nat → Int) (c : Int) : ∀ n : Nat, IsF f c n (fIxN f c n)
  | 0 => Or.inl ⟨rfl, fun j h0 h1 => by omega⟩
  | n + 1 => by
    have ih := fIxN_is f c n
    unfold fIxN
    rcases ih with ⟨e, h⟩ | ⟨h0, h1, h2, h3⟩
    · rw [if_pos e]
      by_cases q : f n = c
      · rw [if_pos q]
        exact Or.inr ⟨by omega, by omega, by simpa using q, fun j a b => h j a (by omega)⟩
      · rw [if_neg q]
        refine Or.inl ⟨rfl, fun j a b => ?_⟩
        by_cases hj : j = n
        · rw [hj]; simpa using q
        · exact h j a (by omega)
    · rw [if_neg (by omega)]
      exact Or.inr ⟨h0, by omega, h2, h3⟩
theorem fIx_is (f : Nat → Int) (c : Int) {n : Int} (h : 0 ≤ n) : IsF f c n (fIx f c n) := by
  have := fIxN_is f c n.toNat
  rwa [Int.toNat_of_nonneg h] at this
theorem IsF.uniq {f : Nat → Int} {c n r r2 : Int} (h : IsF f c n r) (h2 : IsF f c n r2) : r = r2 := by
  rcases h with ⟨a, b⟩ | ⟨a1, a2, a3, a4⟩ <;> rcases h2 with ⟨c1, d⟩ | ⟨c1, c2, c3, c4⟩
  · omega
  · exact absurd c3 (b r2 c1 c2)
  · exact absurd a3 (d r a1 a2)
  · rcases Int.lt_trichotomy r r2 with q | q | q
    · exact absurd a3 (c4 r a1 q)
    · exact q
    · exact absurd c3 (a4 r2 c1 q)
theorem fIx_eq {f : Nat → Int} {c n r : Int} (h : 0 ≤ n) (h2 : IsF f c n r) : fIx f c n = r := (fIx_is f c h).uniq h2
theorem fIx_congr {f h : Nat → Int} (c : Int) {n : Int} (e : ∀ i : Nat, (i : Int) < n → f i = h i) (hn : 0 ≤ n) : fIx f c n = fIx h c n := by
  refine fIx_eq hn ?_
  rcases fIx_is h c hn with ⟨a, b⟩ | ⟨a, b, d, g⟩
  · exact Or.inl ⟨a, fun j j0 j1 => by rw [e _ (by omega)]; exact b j j0 j1⟩
  · exact Or.inr ⟨a, b, by rw [e _ (by omega)]; exact d, fun j j0 j1 => by rw [e _ (by omega)]; exact g j j0 j1⟩
theorem fIx_lt {f : Nat → Int} {c n : Int} (h : 0 ≤ n) : -1 ≤ fIx f c n ∧ fIx f c n < n ∨ fIx f c n = -1 := by
  rcases fIx_is f c h with ⟨a, -⟩ | ⟨a, b, -⟩
  · exact Or.inr a
  · exact Or.inl ⟨by omega, b⟩
/-- the end of the word that goes on at i -/
def weF (S : Int → Int) : Nat → Int → Int
  | 0, i => i
  | k + 1, i => if isLt (S i) then weF S k (i + 1) else i
def we (n : Int) (S : Int → Int) (i : Int) : Int := weF S (n - i).toNat i
theorem weF_spec (S : Int → Int) : ∀ (k : Nat) (i : Int), i ≤ weF S k i ∧ weF S k i ≤ i + k ∧ (∀ j, i ≤ j → j < weF S k i → isLt (S j)) ∧ (weF S k i < i + k → ¬ isLt (S (weF S k i)))
  | 0, i => ⟨by simp [weF], by simp [weF], fun j a b => by simp [weF] at b; omega, fun h => by simp [weF] at h⟩
  | k + 1, i => by
    unfold weF
    by_cases h : isLt (S i)
    · rw [if_pos h]
      obtain ⟨a, b, c, d⟩ := weF_spec S k (i + 1)
      refine ⟨by omega, by omega, fun j j0 j1 => ?_, fun q => d (by omega)⟩
      by_cases hj : j = i
      · rw [hj]; exact h
      · exact c j (by omega) j1
    · rw [if_neg h]
      exact ⟨by omega, by omega, fun j a b => by omega, fun _ => h⟩
theorem we_spec {n : Int} {S : Int → Int} {i : Int} (h : i ≤ n) (hn : ¬ isLt (S n)) : i ≤ we n S i ∧ we n S i ≤ n ∧ (∀ j, i ≤ j → j < we n S i → isLt (S j)) ∧ ¬ isLt (S (we n S i)) := by
  obtain ⟨a, b, c, d⟩ := weF_spec S (n - i).toNat i
  refine ⟨a, by unfold we; omega, c, ?_⟩
  by_cases q : weF S (n - i).toNat i < i + ((n - i).toNat : Int)
  · exact d q
  · have e : we n S i = n := by unfold we; omega
    rw [e]; exact hn
theorem we_eq {n : Int} {S : Int → Int} {i r : Int} (h : i ≤ r) (h2 : r ≤ n) (hn : ¬ isLt (S n)) (h3 : ∀ j, i ≤ j → j < r → isLt (S j)) (h4 : ¬ isLt (S r)) : we n S i = r := by
  obtain ⟨a, b, c, d⟩ := we_spec (by omega : i ≤ n) hn
  rcases Int.lt_trichotomy (we n S i) r with q | q | q
  · exact absurd (h3 _ a q) d
  · exact q
  · exact absurd (c r h q) h4
theorem isLt_m1 : ¬ isLt (-1) := by simp only [isLt, isSm, isCp]; omega
abbrev SX (M : Mem) : Int → Int := sgn (M 1 5) (M 5)
theorem SX_n (M : Mem) : ¬ isLt (SX M (M 1 5)) := by
  have e : SX M (M 1 5) = -1 := sgn_hi (Int.le_refl _)
  rw [e]; exact isLt_m1
abbrev Bx (M : Mem) : Prop := 0 ≤ M 1 4 ∧ M 1 4 ≤ 12 ∧ 0 ≤ M 1 5 ∧ M 1 5 ≤ 120
def cntW (S : Int → Int) : Nat → Int
  | 0 => 0
  | k + 1 => cntW S k + b2i (isLt (S k) ∧ ¬ isLt (S ((k : Int) - 1)))
theorem cntW_le (S : Int → Int) : ∀ k : Nat, 0 ≤ cntW S k ∧ cntW S k ≤ k
  | 0 => ⟨Int.le_refl _, Int.le_refl _⟩
  | k + 1 => by
    have := cntW_le S k
    unfold cntW
    have e := b2i_01 (isLt (S k) ∧ ¬ isLt (S ((k : Int) - 1)))
    omega
/-- i stands just behind figures, or one point or comma behind them -/
abbrev isBh (S : Int → Int) (i : Int) : Prop := isFg (S (i - 1)) ∨ (isPC (S (i - 1)) ∧ isFg (S (i - 2)))
/-- a book's five cells from k on -/
def isBk (k : Nat) : Prop := shp[k]? = some (.inl (0, [k + 4, k + 5, k + 6, k + 7, 0, 0, 0, 0])) ∧ shp[k + 1]? = some (.inr (.inl (0, 12))) ∧ shp[k + 2]? = some (.inr (.inl (0, 12))) ∧ shp[k + 3]? = some (.inr (.inl (0, 12))) ∧ shp[k + 4]? = some (.inr (.inl (0, 120)))
/-- book t of M2 is book o of M; nothing else changed -/
def cpB (t o : Nat) (M M2 : Mem) : Prop := M2 t 4 = M o 4 ∧ M2 t 5 = M o 5 ∧ M2 t 6 = M o 6 ∧ M2 t 7 = M o 7 ∧ (∀ j, j < 12 → M2 (t + 1) j = M (o + 1) j) ∧ (∀ j, j < 12 → M2 (t + 2) j = M (o + 2) j) ∧ (∀ j, j < 12 → M2 (t + 3) j = M (o + 3) j) ∧ (∀ j, j < 120 → M2 (t + 4) j = M (o + 4) j) ∧ ∀ k, (k < t ∨ t + 5 ≤ k) → M2 k = M k
/-- the memory with a RULE more -/
def addR (M : Mem) (c e k : Int) : Mem := mup (mup (mup (mup M 2 (M 1 4).toNat c) 3 (M 1 4).toNat e) 4 (M 1 4).toNat k) 1 4 (M 1 4 + 1)
def addS (M : Mem) (s : Int) : Mem := mup (mup M 5 (M 1 5).toNat s) 1 5 (M 1 5 + 1)
/-- RULE k is no more -/
def remR (k : Int) (M M2 : Mem) : Prop := (∀ j : Nat, M2 2 j = if k ≤ j ∧ (j : Int) + 1 < M 1 4 then M 2 (j + 1) else M 2 j) ∧ (∀ j : Nat, M2 3 j = if k ≤ j ∧ (j : Int) + 1 < M 1 4 then M 3 (j + 1) else M 3 j) ∧ (∀ j : Nat, M2 4 j = if k ≤ j ∧ (j : Int) + 1 < M 1 4 then M 4 (j + 1) else M 4 j) ∧ M2 1 = rup (M 1) 4 (M 1 4 - 1) ∧ ∀ o, o = 0 ∨ 5 ≤ o → M2 o = M o
end
section
def sp_X0_hasRule : SP := fun av M Ret => ∃ k : Int, av = [mr 1, mi k] ∧ (Ret (some (mi (b2i (0 ≤ k ∧ k < M 1 4)))) M)
theorem k_X0_hasRule {code : List Sem} {Z : KZ} {Ret : KR} {ls : List (Option MV)} {M : Mem} {r : List MV} (hZ : Sim code Z Ret) (ip np : Nat) {k : Int} (hc : code[ip]? = some (I_callV 0 1 sp_X0_hasRule)) (hn : ip + 1 = np) (h3 : catS r ≤ 8)   (kz : Z np ls (mi (b2i (0 ≤ k ∧ k < M 1 4)) :: r) M) : Z ip ls (mi k :: mr 1 :: r) M := w_callV1 hZ ip np hc hn rfl rfl h3 ⟨_, rfl, kz⟩
def cd_X0_hasRule : List Sem := [I_iload 1, I_iflt 8, I_iload 1, I_aload 0, I_get 0 4, I_cge 8, I_const (1), I_goto 9, I_const (0), I_zret]
def pc_X0_hasRule : List Nat := [0, 1, 4, 5, 6, 9, 12, 13, 16, 17]
set_option maxRecDepth 100000 in
set_option maxHeartbeats 4000000 in
theorem b_X0_hasRule (k : Int) (i_k : InR k) (M : Mem) (Ret : KR)  (hR : Ret (some (mi (b2i (0 ≤ k ∧ k < M 1 4)))) M) (hM : MOk M) (Z : KZ) (hZ : Sim cd_X0_hasRule Z Ret) : Z 0 [some (mr 1), some (mi k)] [] M := by
  refine w_iload hZ 0 1 rfl rfl rfl ?_
  refine w_iflt hZ 1 2 rfl rfl (fun c1 => ?_) (fun c1 => ?_)
  · refine w_const hZ 8 9 rfl rfl  ?_
    refine w_zret hZ 9 rfl (by omega) ?_
    exact ret_i hR (by (first | refine b2i_t ?_ | refine b2i_f ?_); omega)
  · refine w_iload hZ 2 3 rfl rfl rfl ?_
    refine w_aload hZ 3 4 rfl rfl rfl ?_
    refine w_geti hZ 4 5 rfl rfl rfl rfl rfl ?_
    refine w_cge hZ 5 6 rfl rfl (fun c5 => ?_) (fun c5 => ?_)
    · refine w_const hZ 8 9 rfl rfl  ?_
      refine w_zret hZ 9 rfl (by omega) ?_
      exact ret_i hR (by (first | refine b2i_t ?_ | refine b2i_f ?_); omega)
    · refine w_const hZ 6 7 rfl rfl  ?_
      refine w_goto hZ 7 9 rfl ?_
      refine w_zret hZ 9 rfl (by omega) ?_
      exact ret_i hR (by (first | refine b2i_t ?_ | refine b2i_f ?_); omega)
set_option maxRecDepth 100000 in
set_option maxHeartbeats 4000000 in
theorem ao_X0_hasRule : AllOk yX0_hasRule.cls cX0_hasRule 2 0 0 (some .boolean) none pc_X0_hasRule 0 cd_X0_hasRule := ⟨s_iload_n (k := 1) (by decide +kernel) rfl rfl, ⟨s_iflt (off := (15)) (by decide +kernel) rfl rfl, ⟨s_iload_n (k := 1) (by decide +kernel) rfl rfl, ⟨s_aload_n (k := 0) (by decide +kernel) rfl rfl, ⟨s_get (C := RX0) (T := TX0) (N := 8) rfl inT0 (by decide) tw_1_36 (by decide +kernel) rfl, ⟨s_cge (off := (7)) (by decide +kernel) rfl rfl, ⟨s_iconst (by decide +kernel) rfl ⟨by decide, by decide⟩, ⟨s_goto (off := (4)) (by decide +kernel) rfl, ⟨s_iconst (by decide +kernel) rfl ⟨by decide, by decide⟩, ⟨s_zret rfl (by decide +kernel), trivial⟩⟩⟩⟩⟩⟩⟩⟩⟩⟩
theorem ct_X0_hasRule : Ctr yX0_hasRule cX0_hasRule 2 (some .boolean) 0 0 sp_X0_hasRule := by
  refine ctr_of (by decide +kernel) ao_X0_hasRule rfl ?_
  rintro av M Ret ⟨k, rfl, hR⟩ hok hM
  exact ⟨Nat.le_of_ble_eq_true rfl, fun Z hZ => b_X0_hasRule  k (hok _ (List.mem_of_getElem? (i := 1) rfl)) M Ret  hR hM Z hZ⟩
def sp_X0_ruleOfCell : SP := fun av M Ret => ∃ c : Int, av = [mr 1, mi c] ∧ (Bx M) ∧ (Ret (some (mi (fIx (M 3) c (M 1 4)))) M)
theorem k_X0_ruleOfCell {code : List Sem} {Z : KZ} {Ret : KR} {ls : List (Option MV)} {M : Mem} {r : List MV} (hZ : Sim code Z Ret) (ip np : Nat) {c : Int} (hc : code[ip]? = some (I_callV 0 1 sp_X0_ruleOfCell)) (hn : ip + 1 = np) (h3 : catS r ≤ 8)  (hp : Bx M) (kz : Z np ls (mi (fIx (M 3) c (M 1 4)) :: r) M) : Z ip ls (mi c :: mr 1 :: r) M := w_callV1 hZ ip np hc hn rfl rfl h3 ⟨_, rfl, hp, kz⟩
def cd_X0_ruleOfCell : List Sem := [I_const (0), I_istore 2, I_iload 2, I_aload 0, I_get 0 4, I_cge 16, I_aload 0, I_get 0 1, I_iload 2, I_iald, I_iload 1, I_cne 14, I_iload 2, I_iret, I_iinc 2 (1), I_goto 2, I_const (-1), I_iret]
def pc_X0_ruleOfCell : List Nat := [0, 1, 2, 3, 4, 7, 10, 11, 14, 15, 16, 17, 20, 21, 22, 25, 28, 29]
set_option maxRecDepth 100000 in
set_option maxHeartbeats 4000000 in
theorem b_X0_ruleOfCell (c : Int) (i_c : InR c) (M : Mem) (Ret : KR) (hp : Bx M) (hR : Ret (some (mi (fIx (M 3) c (M 1 4)))) M) (hM : MOk M) (Z : KZ) (hZ : Sim cd_X0_ruleOfCell Z Ret) : Z 0 [some (mr 1), some (mi c), none] [] M := by
  obtain ⟨b1, b2, b3, b4⟩ := hp
  have loop : ∀ (d : Nat) (k : Int), d = (M 1 4 - k).toNat → 0 ≤ k → k ≤ M 1 4 → (∀ j : Int, 0 ≤ j → j < k → ¬ M 3 j.toNat = c) → Z 2 [some (mr 1), some (mi c), some (mi k)] [] M := by
    intro d
    induction d using Nat.strongRecOn with
    | ind d ih =>
      intro k hd h0 h1 hj
      refine w_iload hZ 2 3 rfl rfl rfl ?_
      refine w_aload hZ 3 4 rfl rfl rfl ?_
      refine w_geti hZ 4 5 rfl rfl rfl rfl rfl ?_
      refine w_cge hZ 5 6 rfl rfl (fun c5 => ?_) (fun c5 => ?_)
      · refine w_const hZ 16 17 rfl rfl  ?_
        refine w_iret hZ 17 rfl ?_
        exact ret_i hR (fIx_eq b1 (Or.inl ⟨rfl, fun j a b => hj j a (by omega)⟩))
      · refine w_aload hZ 6 7 rfl rfl rfl ?_
        refine w_getr hZ 7 8 rfl rfl rfl rfl rfl ?_
        refine w_iload hZ 8 9 rfl rfl rfl ?_
        refine w_iald hZ 9 10 rfl rfl rfl (by omega) (by omega) ?_
        refine w_iload hZ 10 11 rfl rfl rfl ?_
        refine w_cne hZ 11 12 rfl rfl (fun c11 => ?_) (fun c11 => ?_)
        · refine w_in3_2 hZ 14 15 rfl rfl rfl (by unfold InR; omega) ?_
          refine w_goto hZ 15 2 rfl ?_
          refine ih ((M 1 4 - (k + 1)).toNat) (by omega) (k + 1) rfl (by omega) (by omega) (fun j a b => ?_)
          by_cases q : j = k
          · rw [q]; exact c11
          · exact hj j a (by omega)
        · refine w_iload hZ 12 13 rfl rfl rfl ?_
          refine w_iret hZ 13 rfl ?_
          exact ret_i hR (fIx_eq b1 (Or.inr ⟨h0, c5, c11, hj⟩))
  refine w_const hZ 0 1 rfl rfl  ?_
  refine w_st3_2 hZ 1 2 rfl rfl rfl ?_
  exact loop _ 0 rfl (by omega) (by omega) (fun j a b => by omega)
set_option maxRecDepth 100000 in
set_option maxHeartbeats 4000000 in
theorem ao_X0_ruleOfCell : AllOk yX0_ruleOfCell.cls cX0_ruleOfCell 3 0 0 (some .int) none pc_X0_ruleOfCell 0 cd_X0_ruleOfCell := ⟨s_iconst (by decide +kernel) rfl ⟨by decide, by decide⟩, ⟨s_istore_n (k := 2) (by decide +kernel) rfl rfl, ⟨s_iload_n (k := 2) (by decide +kernel) rfl rfl, ⟨s_aload_n (k := 0) (by decide +kernel) rfl rfl, ⟨s_get (C := RX0) (T := TX0) (N := 8) rfl inT0 (by decide) tw_1_36 (by decide +kernel) rfl, ⟨s_cge (off := (21)) (by decide +kernel) rfl rfl, ⟨s_aload_n (k := 0) (by decide +kernel) rfl rfl, ⟨s_get (C := RX0) (T := TX0) (N := 8) rfl inT0 (by decide) tw_1_29 (by decide +kernel) rfl, ⟨s_iload_n (k := 2) (by decide +kernel) rfl rfl, ⟨s_iald (by decide +kernel) rfl, ⟨s_iload_n (k := 1) (by decide +kernel) rfl rfl, ⟨s_cne (off := (5)) (by decide +kernel) rfl rfl, ⟨s_iload_n (k := 2) (by decide +kernel) rfl rfl, ⟨s_iret rfl (by decide +kernel), ⟨s_iinc (by decide +kernel) rfl, ⟨s_goto (off := (-23)) (by decide +kernel) rfl, ⟨s_iconst (by decide +kernel) rfl ⟨by decide, by decide⟩, ⟨s_iret rfl (by decide +kernel), trivial⟩⟩⟩⟩⟩⟩⟩⟩⟩⟩⟩⟩⟩⟩⟩⟩⟩⟩
theorem ct_X0_ruleOfCell : Ctr yX0_ruleOfCell cX0_ruleOfCell 3 (some .int) 0 0 sp_X0_ruleOfCell := by
  refine ctr_of (by decide +kernel) ao_X0_ruleOfCell rfl ?_
  rintro av M Ret ⟨c, rfl, hp, hR⟩ hok hM
  exact ⟨Nat.le_of_ble_eq_true rfl, fun Z hZ => b_X0_ruleOfCell  c (hok _ (List.mem_of_getElem? (i := 1) rfl)) M Ret hp hR hM Z hZ⟩
def sp_X0_ruleOfCode : SP := fun av M Ret => ∃ c : Int, av = [mr 1, mi c] ∧ (Bx M) ∧ (Ret (some (mi (fIx (M 2) c (M 1 4)))) M)
theorem k_X0_ruleOfCode {code : List Sem} {Z : KZ} {Ret : KR} {ls : List (Option MV)} {M : Mem} {r : List MV} (hZ : Sim code Z Ret) (ip np : Nat) {c : Int} (hc : code[ip]? = some (I_callV 0 1 sp_X0_ruleOfCode)) (hn : ip + 1 = np) (h3 : catS r ≤ 8)  (hp : Bx M) (kz : Z np ls (mi (fIx (M 2) c (M 1 4)) :: r) M) : Z ip ls (mi c :: mr 1 :: r) M := w_callV1 hZ ip np hc hn rfl rfl h3 ⟨_, rfl, hp, kz⟩
def cd_X0_ruleOfCode : List Sem := [I_const (0), I_istore 2, I_iload 2, I_aload 0, I_get 0 4, I_cge 16, I_aload 0, I_get 0 0, I_iload 2, I_iald, I_iload 1, I_cne 14, I_iload 2, I_iret, I_iinc 2 (1), I_goto 2, I_const (-1), I_iret]
def pc_X0_ruleOfCode : List Nat := [0, 1, 2, 3, 4, 7, 10, 11, 14, 15, 16, 17, 20, 21, 22, 25, 28, 29]
set_option maxRecDepth 100000 in
set_option maxHeartbeats 4000000 in
theorem b_X0_ruleOfCode (c : Int) (i_c : InR c) (M : Mem) (Ret : KR) (hp : Bx M) (hR : Ret (some (mi (fIx (M 2) c (M 1 4)))) M) (hM : MOk M) (Z : KZ) (hZ : Sim cd_X0_ruleOfCode Z Ret) : Z 0 [some (mr 1), some (mi c), none] [] M := by
  obtain ⟨b1, b2, b3, b4⟩ := hp
  have loop : ∀ (d : Nat) (k : Int), d = (M 1 4 - k).toNat → 0 ≤ k → k ≤ M 1 4 → (∀ j : Int, 0 ≤ j → j < k → ¬ M 2 j.toNat = c) → Z 2 [some (mr 1), some (mi c), some (mi k)] [] M := by
    intro d
    induction d using Nat.strongRecOn with
    | ind d ih =>
      intro k hd h0 h1 hj
      refine w_iload hZ 2 3 rfl rfl rfl ?_
      refine w_aload hZ 3 4 rfl rfl rfl ?_
      refine w_geti hZ 4 5 rfl rfl rfl rfl rfl ?_
      refine w_cge hZ 5 6 rfl rfl (fun c5 => ?_) (fun c5 => ?_)
      · refine w_const hZ 16 17 rfl rfl  ?_
        refine w_iret hZ 17 rfl ?_
        exact ret_i hR (fIx_eq b1 (Or.inl ⟨rfl, fun j a b => hj j a (by omega)⟩))
      · refine w_aload hZ 6 7 rfl rfl rfl ?_
        refine w_getr hZ 7 8 rfl rfl rfl rfl rfl ?_
        refine w_iload hZ 8 9 rfl rfl rfl ?_
        refine w_iald hZ 9 10 rfl rfl rfl (by omega) (by omega) ?_
        refine w_iload hZ 10 11 rfl rfl rfl ?_
        refine w_cne hZ 11 12 rfl rfl (fun c11 => ?_) (fun c11 => ?_)
        · refine w_in3_2 hZ 14 15 rfl rfl rfl (by unfold InR; omega) ?_
          refine w_goto hZ 15 2 rfl ?_
          refine ih ((M 1 4 - (k + 1)).toNat) (by omega) (k + 1) rfl (by omega) (by omega) (fun j a b => ?_)
          by_cases q : j = k
          · rw [q]; exact c11
          · exact hj j a (by omega)
        · refine w_iload hZ 12 13 rfl rfl rfl ?_
          refine w_iret hZ 13 rfl ?_
          exact ret_i hR (fIx_eq b1 (Or.inr ⟨h0, c5, c11, hj⟩))
  refine w_const hZ 0 1 rfl rfl  ?_
  refine w_st3_2 hZ 1 2 rfl rfl rfl ?_
  exact loop _ 0 rfl (by omega) (by omega) (fun j a b => by omega)
set_option maxRecDepth 100000 in
set_option maxHeartbeats 4000000 in
theorem ao_X0_ruleOfCode : AllOk yX0_ruleOfCode.cls cX0_ruleOfCode 3 0 0 (some .int) none pc_X0_ruleOfCode 0 cd_X0_ruleOfCode := ⟨s_iconst (by decide +kernel) rfl ⟨by decide, by decide⟩, ⟨s_istore_n (k := 2) (by decide +kernel) rfl rfl, ⟨s_iload_n (k := 2) (by decide +kernel) rfl rfl, ⟨s_aload_n (k := 0) (by decide +kernel) rfl rfl, ⟨s_get (C := RX0) (T := TX0) (N := 8) rfl inT0 (by decide) tw_1_36 (by decide +kernel) rfl, ⟨s_cge (off := (21)) (by decide +kernel) rfl rfl, ⟨s_aload_n (k := 0) (by decide +kernel) rfl rfl, ⟨s_get (C := RX0) (T := TX0) (N := 8) rfl inT0 (by decide) tw_1_25 (by decide +kernel) rfl, ⟨s_iload_n (k := 2) (by decide +kernel) rfl rfl, ⟨s_iald (by decide +kernel) rfl, ⟨s_iload_n (k := 1) (by decide +kernel) rfl rfl, ⟨s_cne (off := (5)) (by decide +kernel) rfl rfl, ⟨s_iload_n (k := 2) (by decide +kernel) rfl rfl, ⟨s_iret rfl (by decide +kernel), ⟨s_iinc (by decide +kernel) rfl, ⟨s_goto (off := (-23)) (by decide +kernel) rfl, ⟨s_iconst (by decide +kernel) rfl ⟨by decide, by decide⟩, ⟨s_iret rfl (by decide +kernel), trivial⟩⟩⟩⟩⟩⟩⟩⟩⟩⟩⟩⟩⟩⟩⟩⟩⟩⟩
theorem ct_X0_ruleOfCode : Ctr yX0_ruleOfCode cX0_ruleOfCode 3 (some .int) 0 0 sp_X0_ruleOfCode := by
  refine ctr_of (by decide +kernel) ao_X0_ruleOfCode rfl ?_
  rintro av M Ret ⟨c, rfl, hp, hR⟩ hok hM
  exact ⟨Nat.le_of_ble_eq_true rfl, fun Z hZ => b_X0_ruleOfCode  c (hok _ (List.mem_of_getElem? (i := 1) rfl)) M Ret hp hR hM Z hZ⟩
def sp_X0_isTaken : SP := fun av M Ret => ∃ c : Int, ∃ e : Int, av = [mr 1, mi c, mi e] ∧ (Bx M) ∧ (Ret (some (mi (b2i (¬ fIx (M 2) c (M 1 4) = -1 ∨ ¬ fIx (M 3) e (M 1 4) = -1)))) M)
theorem k_X0_isTaken {code : List Sem} {Z : KZ} {Ret : KR} {ls : List (Option MV)} {M : Mem} {r : List MV} (hZ : Sim code Z Ret) (ip np : Nat) {c e : Int} (hc : code[ip]? = some (I_callV 0 2 sp_X0_isTaken)) (hn : ip + 1 = np) (h3 : catS r ≤ 8)  (hp : Bx M) (kz : Z np ls (mi (b2i (¬ fIx (M 2) c (M 1 4) = -1 ∨ ¬ fIx (M 3) e (M 1 4) = -1)) :: r) M) : Z ip ls (mi e :: mi c :: mr 1 :: r) M := w_callV2 hZ ip np hc hn rfl rfl h3 ⟨_, _, rfl, hp, kz⟩
def cd_X0_isTaken : List Sem := [I_aload 0, I_iload 1, I_callV 0 1 sp_X0_ruleOfCode, I_const (-1), I_cne 10, I_aload 0, I_iload 2, I_callV 0 1 sp_X0_ruleOfCell, I_const (-1), I_ceq 12, I_const (1), I_goto 13, I_const (0), I_zret]
def pc_X0_isTaken : List Nat := [0, 1, 2, 5, 6, 9, 10, 11, 14, 15, 18, 19, 22, 23]
set_option maxRecDepth 100000 in
set_option maxHeartbeats 4000000 in
theorem b_X0_isTaken (c : Int) (i_c : InR c) (e : Int) (i_e : InR e) (M : Mem) (Ret : KR) (hp : Bx M) (hR : Ret (some (mi (b2i (¬ fIx (M 2) c (M 1 4) = -1 ∨ ¬ fIx (M 3) e (M 1 4) = -1)))) M) (hM : MOk M) (Z : KZ) (hZ : Sim cd_X0_isTaken Z Ret) : Z 0 [some (mr 1), some (mi c), some (mi e)] [] M := by
  refine w_aload hZ 0 1 rfl rfl rfl ?_
  refine w_iload hZ 1 2 rfl rfl rfl ?_
  refine k_X0_ruleOfCode hZ 2 3 rfl rfl (Nat.le_of_ble_eq_true rfl) hp ?_
  refine w_const hZ 3 4 rfl rfl  ?_
  refine w_cne hZ 4 5 rfl rfl (fun c4 => ?_) (fun c4 => ?_)
  · refine w_const hZ 10 11 rfl rfl  ?_
    refine w_goto hZ 11 13 rfl ?_
    refine w_zret hZ 13 rfl (by omega) ?_
    exact ret_i hR (by (first | refine b2i_t ?_ | refine b2i_f ?_); omega)
  · refine w_aload hZ 5 6 rfl rfl rfl ?_
    refine w_iload hZ 6 7 rfl rfl rfl ?_
    refine k_X0_ruleOfCell hZ 7 8 rfl rfl (Nat.le_of_ble_eq_true rfl) hp ?_
    refine w_const hZ 8 9 rfl rfl  ?_
    refine w_ceq hZ 9 10 rfl rfl (fun c9 => ?_) (fun c9 => ?_)
    · refine w_const hZ 12 13 rfl rfl  ?_
      refine w_zret hZ 13 rfl (by omega) ?_
      exact ret_i hR (by (first | refine b2i_t ?_ | refine b2i_f ?_); omega)
    · refine w_const hZ 10 11 rfl rfl  ?_
      refine w_goto hZ 11 13 rfl ?_
      refine w_zret hZ 13 rfl (by omega) ?_
      exact ret_i hR (by (first | refine b2i_t ?_ | refine b2i_f ?_); omega)
set_option maxRecDepth 100000 in
set_option maxHeartbeats 4000000 in
theorem ao_X0_isTaken : AllOk yX0_isTaken.cls cX0_isTaken 3 1 22 (some .boolean) none pc_X0_isTaken 0 cd_X0_isTaken := ⟨s_aload_n (k := 0) (by decide +kernel) rfl rfl, ⟨s_iload_n (k := 1) (by decide +kernel) rfl rfl, ⟨s_callV (C := RX0) (T := TX0) (N := 8) rfl ct_X0_ruleOfCode (by decide) (by decide) ⟨rfl, by decide +kernel, by decide +kernel, by decide +kernel⟩ tw_2_7 tw_2_8 tw_2_9 tw_1_2 tw_2_10 (by decide +kernel) rfl, ⟨s_iconst (by decide +kernel) rfl ⟨by decide, by decide⟩, ⟨s_cne (off := (12)) (by decide +kernel) rfl rfl, ⟨s_aload_n (k := 0) (by decide +kernel) rfl rfl, ⟨s_iload_n (k := 2) (by decide +kernel) rfl rfl, ⟨s_callV (C := RX0) (T := TX0) (N := 8) rfl ct_X0_ruleOfCell (by decide) (by decide) ⟨rfl, by decide +kernel, by decide +kernel, by decide +kernel⟩ tw_2_11 tw_2_12 tw_2_13 tw_1_2 tw_2_14 (by decide +kernel) rfl, ⟨s_iconst (by decide +kernel) rfl ⟨by decide, by decide⟩, ⟨s_ceq (off := (7)) (by decide +kernel) rfl rfl, ⟨s_iconst (by decide +kernel) rfl ⟨by decide, by decide⟩, ⟨s_goto (off := (4)) (by decide +kernel) rfl, ⟨s_iconst (by decide +kernel) rfl ⟨by decide, by decide⟩, ⟨s_zret rfl (by decide +kernel), trivial⟩⟩⟩⟩⟩⟩⟩⟩⟩⟩⟩⟩⟩⟩
theorem ct_X0_isTaken : Ctr yX0_isTaken cX0_isTaken 3 (some .boolean) 1 22 sp_X0_isTaken := by
  refine ctr_of (by decide +kernel) ao_X0_isTaken rfl ?_
  rintro av M Ret ⟨c, e, rfl, hp, hR⟩ hok hM
  exact ⟨Nat.le_of_ble_eq_true rfl, fun Z hZ => b_X0_isTaken  c (hok _ (List.mem_of_getElem? (i := 1) rfl)) e (hok _ (List.mem_of_getElem? (i := 2) rfl)) M Ret hp hR hM Z hZ⟩
def sp_X0_addRule : SP := fun av M Ret => ∃ c : Int, ∃ e : Int, ∃ k : Int, av = [mr 1, mi c, mi e, mi k] ∧ (Bx M) ∧ (∀ M2 : Mem, (M2 = if M 1 4 < 12 then addR M c e k else M) → Ret none M2)
theorem k_X0_addRule {code : List Sem} {Z : KZ} {Ret : KR} {ls : List (Option MV)} {M : Mem} {r : List MV} (hZ : Sim code Z Ret) (ip np : Nat) {c e k : Int} (hc : code[ip]? = some (I_callV 0 3 sp_X0_addRule)) (hn : ip + 1 = np) (h3 : catS r ≤ 8)  (hp : Bx M) (kz : ∀ M2 : Mem, (M2 = if M 1 4 < 12 then addR M c e k else M) → Z np ls r M2) : Z ip ls (mi k :: mi e :: mi c :: mr 1 :: r) M := w_callV3 hZ ip np hc hn rfl rfl h3 ⟨_, _, _, rfl, hp, fun M2 h => kz M2 h⟩
def cd_X0_addRule : List Sem := [I_aload 0, I_get 0 4, I_const (12), I_cge 28, I_aload 0, I_get 0 0, I_aload 0, I_get 0 4, I_iload 1, I_iast, I_aload 0, I_get 0 1, I_aload 0, I_get 0 4, I_iload 2, I_iast, I_aload 0, I_get 0 2, I_aload 0, I_get 0 4, I_iload 3, I_iast, I_aload 0, I_dup, I_get 0 4, I_const (1), I_add, I_puti 0 4, I_vret]
def pc_X0_addRule : List Nat := [0, 1, 4, 6, 9, 10, 13, 14, 17, 18, 19, 20, 23, 24, 27, 28, 29, 30, 33, 34, 37, 38, 39, 40, 41, 44, 45, 46, 49]
set_option maxRecDepth 100000 in
set_option maxHeartbeats 4000000 in
theorem b_X0_addRule (c : Int) (i_c : InR c) (e : Int) (i_e : InR e) (k : Int) (i_k : InR k) (M : Mem) (Ret : KR) (hp : Bx M) (hR : ∀ M2 : Mem, (M2 = if M 1 4 < 12 then addR M c e k else M) → Ret none M2) (hM : MOk M) (Z : KZ) (hZ : Sim cd_X0_addRule Z Ret) : Z 0 [some (mr 1), some (mi c), some (mi e), some (mi k)] [] M := by
  obtain ⟨b1, b2, b3, b4⟩ := hp
  refine w_aload hZ 0 1 rfl rfl rfl ?_
  refine w_geti hZ 1 2 rfl rfl rfl rfl rfl ?_
  refine w_const hZ 2 3 rfl rfl  ?_
  refine w_cge hZ 3 4 rfl rfl (fun c3 => ?_) (fun c3 => ?_)
  · refine w_vret hZ 28 rfl ?_
    first
      | exact hR _ (by rw [if_pos (by omega)]; rfl)
      | exact hR _ (by rw [if_neg (by omega)])
  · refine w_aload hZ 4 5 rfl rfl rfl ?_
    refine w_getr hZ 5 6 rfl rfl rfl rfl rfl ?_
    refine w_aload hZ 6 7 rfl rfl rfl ?_
    refine w_geti hZ 7 8 rfl rfl rfl rfl rfl ?_
    refine w_iload hZ 8 9 rfl rfl rfl ?_
    refine w_iast hZ 9 10 rfl rfl rfl (by omega) (by omega) ?_
    refine w_aload hZ 10 11 rfl rfl rfl ?_
    refine w_getr hZ 11 12 rfl rfl rfl rfl rfl ?_
    refine w_aload hZ 12 13 rfl rfl rfl ?_
    refine w_getiv hZ 13 14 rfl rfl rfl rfl rfl (v := M 1 4) rfl ?_
    refine w_iload hZ 14 15 rfl rfl rfl ?_
    refine w_iast hZ 15 16 rfl rfl rfl (by omega) (by omega) ?_
    refine w_aload hZ 16 17 rfl rfl rfl ?_
    refine w_getr hZ 17 18 rfl rfl rfl rfl rfl ?_
    refine w_aload hZ 18 19 rfl rfl rfl ?_
    refine w_getiv hZ 19 20 rfl rfl rfl rfl rfl (v := M 1 4) rfl ?_
    refine w_iload hZ 20 21 rfl rfl rfl ?_
    refine w_iast hZ 21 22 rfl rfl rfl (by omega) (by omega) ?_
    refine w_aload hZ 22 23 rfl rfl rfl ?_
    refine w_dup hZ 23 24 rfl rfl rfl ?_
    refine w_getiv hZ 24 25 rfl rfl rfl rfl rfl (v := M 1 4) rfl ?_
    refine w_const hZ 25 26 rfl rfl  ?_
    refine w_add hZ 26 27 rfl rfl (by unfold InR; omega) ?_
    refine w_puti hZ 27 28 rfl rfl rfl rfl rfl ?_
    refine w_vret hZ 28 rfl ?_
    first
      | exact hR _ (by rw [if_pos (by omega)]; rfl)
      | exact hR _ (by rw [if_neg (by omega)])
set_option maxRecDepth 100000 in
set_option maxHeartbeats 4000000 in
theorem ao_X0_addRule : AllOk yX0_addRule.cls cX0_addRule 4 0 0 none none pc_X0_addRule 0 cd_X0_addRule := ⟨s_aload_n (k := 0) (by decide +kernel) rfl rfl, ⟨s_get (C := RX0) (T := TX0) (N := 8) rfl inT0 (by decide) tw_1_36 (by decide +kernel) rfl, ⟨s_bipush (by decide +kernel) rfl ⟨by decide, by decide⟩ (by decide +kernel), ⟨s_cge (off := (43)) (by decide +kernel) rfl rfl, ⟨s_aload_n (k := 0) (by decide +kernel) rfl rfl, ⟨s_get (C := RX0) (T := TX0) (N := 8) rfl inT0 (by decide) tw_1_25 (by decide +kernel) rfl, ⟨s_aload_n (k := 0) (by decide +kernel) rfl rfl, ⟨s_get (C := RX0) (T := TX0) (N := 8) rfl inT0 (by decide) tw_1_36 (by decide +kernel) rfl, ⟨s_iload_n (k := 1) (by decide +kernel) rfl rfl, ⟨s_iast (by decide +kernel) rfl, ⟨s_aload_n (k := 0) (by decide +kernel) rfl rfl, ⟨s_get (C := RX0) (T := TX0) (N := 8) rfl inT0 (by decide) tw_1_29 (by decide +kernel) rfl, ⟨s_aload_n (k := 0) (by decide +kernel) rfl rfl, ⟨s_get (C := RX0) (T := TX0) (N := 8) rfl inT0 (by decide) tw_1_36 (by decide +kernel) rfl, ⟨s_iload_n (k := 2) (by decide +kernel) rfl rfl, ⟨s_iast (by decide +kernel) rfl, ⟨s_aload_n (k := 0) (by decide +kernel) rfl rfl, ⟨s_get (C := RX0) (T := TX0) (N := 8) rfl inT0 (by decide) tw_1_32 (by decide +kernel) rfl, ⟨s_aload_n (k := 0) (by decide +kernel) rfl rfl, ⟨s_get (C := RX0) (T := TX0) (N := 8) rfl inT0 (by decide) tw_1_36 (by decide +kernel) rfl, ⟨s_iload_n (k := 3) (by decide +kernel) rfl rfl, ⟨s_iast (by decide +kernel) rfl, ⟨s_aload_n (k := 0) (by decide +kernel) rfl rfl, ⟨s_dup (by decide +kernel) rfl, ⟨s_get (C := RX0) (T := TX0) (N := 8) rfl inT0 (by decide) tw_1_36 (by decide +kernel) rfl, ⟨s_iconst (by decide +kernel) rfl ⟨by decide, by decide⟩, ⟨s_add (by decide +kernel) rfl, ⟨s_puti (C := RX0) (T := TX0) (N := 8) (tyf := tyX0) rfl inT0 tyX0_ok nmX0 (by decide) rfl rfl tw_1_36 (by decide +kernel) rfl, ⟨s_vret rfl (by decide +kernel), trivial⟩⟩⟩⟩⟩⟩⟩⟩⟩⟩⟩⟩⟩⟩⟩⟩⟩⟩⟩⟩⟩⟩⟩⟩⟩⟩⟩⟩⟩
theorem ct_X0_addRule : Ctr yX0_addRule cX0_addRule 4 none 0 0 sp_X0_addRule := by
  refine ctr_of (by decide +kernel) ao_X0_addRule rfl ?_
  rintro av M Ret ⟨c, e, k, rfl, hp, hR⟩ hok hM
  exact ⟨Nat.le_of_ble_eq_true rfl, fun Z hZ => b_X0_addRule  c (hok _ (List.mem_of_getElem? (i := 1) rfl)) e (hok _ (List.mem_of_getElem? (i := 2) rfl)) k (hok _ (List.mem_of_getElem? (i := 3) rfl)) M Ret hp hR hM Z hZ⟩
def sp_X0_addSign : SP := fun av M Ret => ∃ s : Int, av = [mr 1, mi s] ∧ (Bx M) ∧ (∀ M2 : Mem, (M2 = if M 1 5 < 120 then addS M s else M) → Ret none M2)
theorem k_X0_addSign {code : List Sem} {Z : KZ} {Ret : KR} {ls : List (Option MV)} {M : Mem} {r : List MV} (hZ : Sim code Z Ret) (ip np : Nat) {s : Int} (hc : code[ip]? = some (I_callV 0 1 sp_X0_addSign)) (hn : ip + 1 = np) (h3 : catS r ≤ 8)  (hp : Bx M) (kz : ∀ M2 : Mem, (M2 = if M 1 5 < 120 then addS M s else M) → Z np ls r M2) : Z ip ls (mi s :: mr 1 :: r) M := w_callV1 hZ ip np hc hn rfl rfl h3 ⟨_, rfl, hp, fun M2 h => kz M2 h⟩
def cd_X0_addSign : List Sem := [I_aload 0, I_get 0 5, I_const (120), I_cge 16, I_aload 0, I_get 0 3, I_aload 0, I_get 0 5, I_iload 1, I_iast, I_aload 0, I_dup, I_get 0 5, I_const (1), I_add, I_puti 0 5, I_vret]
def pc_X0_addSign : List Nat := [0, 1, 4, 6, 9, 10, 13, 14, 17, 18, 19, 20, 21, 24, 25, 26, 29]
set_option maxRecDepth 100000 in
set_option maxHeartbeats 4000000 in
theorem b_X0_addSign (s : Int) (i_s : InR s) (M : Mem) (Ret : KR) (hp : Bx M) (hR : ∀ M2 : Mem, (M2 = if M 1 5 < 120 then addS M s else M) → Ret none M2) (hM : MOk M) (Z : KZ) (hZ : Sim cd_X0_addSign Z Ret) : Z 0 [some (mr 1), some (mi s)] [] M := by
  obtain ⟨b1, b2, b3, b4⟩ := hp
  refine w_aload hZ 0 1 rfl rfl rfl ?_
  refine w_geti hZ 1 2 rfl rfl rfl rfl rfl ?_
  refine w_const hZ 2 3 rfl rfl  ?_
  refine w_cge hZ 3 4 rfl rfl (fun c3 => ?_) (fun c3 => ?_)
  · refine w_vret hZ 16 rfl ?_
    first
      | exact hR _ (by rw [if_pos (by omega)]; rfl)
      | exact hR _ (by rw [if_neg (by omega)])
  · refine w_aload hZ 4 5 rfl rfl rfl ?_
    refine w_getr hZ 5 6 rfl rfl rfl rfl rfl ?_
    refine w_aload hZ 6 7 rfl rfl rfl ?_
    refine w_geti hZ 7 8 rfl rfl rfl rfl rfl ?_
    refine w_iload hZ 8 9 rfl rfl rfl ?_
    refine w_iast hZ 9 10 rfl rfl rfl (by omega) (by omega) ?_
    refine w_aload hZ 10 11 rfl rfl rfl ?_
    refine w_dup hZ 11 12 rfl rfl rfl ?_
    refine w_getiv hZ 12 13 rfl rfl rfl rfl rfl (v := M 1 5) rfl ?_
    refine w_const hZ 13 14 rfl rfl  ?_
    refine w_add hZ 14 15 rfl rfl (by unfold InR; omega) ?_
    refine w_puti hZ 15 16 rfl rfl rfl rfl rfl ?_
    refine w_vret hZ 16 rfl ?_
    first
      | exact hR _ (by rw [if_pos (by omega)]; rfl)
      | exact hR _ (by rw [if_neg (by omega)])
set_option maxRecDepth 100000 in
set_option maxHeartbeats 4000000 in
theorem ao_X0_addSign : AllOk yX0_addSign.cls cX0_addSign 2 0 0 none none pc_X0_addSign 0 cd_X0_addSign := ⟨s_aload_n (k := 0) (by decide +kernel) rfl rfl, ⟨s_get (C := RX0) (T := TX0) (N := 8) rfl inT0 (by decide) tw_1_38 (by decide +kernel) rfl, ⟨s_bipush (by decide +kernel) rfl ⟨by decide, by decide⟩ (by decide +kernel), ⟨s_cge (off := (23)) (by decide +kernel) rfl rfl, ⟨s_aload_n (k := 0) (by decide +kernel) rfl rfl, ⟨s_get (C := RX0) (T := TX0) (N := 8) rfl inT0 (by decide) tw_1_35 (by decide +kernel) rfl, ⟨s_aload_n (k := 0) (by decide +kernel) rfl rfl, ⟨s_get (C := RX0) (T := TX0) (N := 8) rfl inT0 (by decide) tw_1_38 (by decide +kernel) rfl, ⟨s_iload_n (k := 1) (by decide +kernel) rfl rfl, ⟨s_iast (by decide +kernel) rfl, ⟨s_aload_n (k := 0) (by decide +kernel) rfl rfl, ⟨s_dup (by decide +kernel) rfl, ⟨s_get (C := RX0) (T := TX0) (N := 8) rfl inT0 (by decide) tw_1_38 (by decide +kernel) rfl, ⟨s_iconst (by decide +kernel) rfl ⟨by decide, by decide⟩, ⟨s_add (by decide +kernel) rfl, ⟨s_puti (C := RX0) (T := TX0) (N := 8) (tyf := tyX0) rfl inT0 tyX0_ok nmX0 (by decide) rfl rfl tw_1_38 (by decide +kernel) rfl, ⟨s_vret rfl (by decide +kernel), trivial⟩⟩⟩⟩⟩⟩⟩⟩⟩⟩⟩⟩⟩⟩⟩⟩⟩
theorem ct_X0_addSign : Ctr yX0_addSign cX0_addSign 2 none 0 0 sp_X0_addSign := by
  refine ctr_of (by decide +kernel) ao_X0_addSign rfl ?_
  rintro av M Ret ⟨s, rfl, hp, hR⟩ hok hM
  exact ⟨Nat.le_of_ble_eq_true rfl, fun Z hZ => b_X0_addSign  s (hok _ (List.mem_of_getElem? (i := 1) rfl)) M Ret hp hR hM Z hZ⟩
def sp_X0_removeRule : SP := fun av M Ret => ∃ k : Int, av = [mr 1, mi k] ∧ (Bx M ∧ 0 ≤ k ∧ k < M 1 4) ∧ (∀ M2 : Mem, (remR k M M2) → Ret none M2)
theorem k_X0_removeRule {code : List Sem} {Z : KZ} {Ret : KR} {ls : List (Option MV)} {M : Mem} {r : List MV} (hZ : Sim code Z Ret) (ip np : Nat) {k : Int} (hc : code[ip]? = some (I_callV 0 1 sp_X0_removeRule)) (hn : ip + 1 = np) (h3 : catS r ≤ 8)  (hp : Bx M ∧ 0 ≤ k ∧ k < M 1 4) (kz : ∀ M2 : Mem, (remR k M M2) → Z np ls r M2) : Z ip ls (mi k :: mr 1 :: r) M := w_callV1 hZ ip np hc hn rfl rfl h3 ⟨_, rfl, hp, fun M2 h => kz M2 h⟩
def cd_X0_removeRule : List Sem := [I_iload 1, I_istore 2, I_iload 2, I_const (1), I_add, I_aload 0, I_get 0 4, I_cge 40, I_aload 0, I_get 0 0, I_iload 2, I_aload 0, I_get 0 0, I_iload 2, I_const (1), I_add, I_iald, I_iast, I_aload 0, I_get 0 1, I_iload 2, I_aload 0, I_get 0 1, I_iload 2, I_const (1), I_add, I_iald, I_iast, I_aload 0, I_get 0 2, I_iload 2, I_aload 0, I_get 0 2, I_iload 2, I_const (1), I_add, I_iald, I_iast, I_iinc 2 (1), I_goto 2, I_aload 0, I_dup, I_get 0 4, I_const (1), I_sub, I_puti 0 4, I_vret]
def pc_X0_removeRule : List Nat := [0, 1, 2, 3, 4, 5, 6, 9, 12, 13, 16, 17, 18, 21, 22, 23, 24, 25, 26, 27, 30, 31, 32, 35, 36, 37, 38, 39, 40, 41, 44, 45, 46, 49, 50, 51, 52, 53, 54, 57, 60, 61, 62, 65, 66, 67, 70]
set_option maxRecDepth 100000 in
set_option maxHeartbeats 4000000 in
theorem b_X0_removeRule (k : Int) (i_k : InR k) (M : Mem) (Ret : KR) (hp : Bx M ∧ 0 ≤ k ∧ k < M 1 4) (hR : ∀ M2 : Mem, (remR k M M2) → Ret none M2) (hM : MOk M) (Z : KZ) (hZ : Sim cd_X0_removeRule Z Ret) : Z 0 [some (mr 1), some (mi k), none] [] M := by
  obtain ⟨⟨b1, b2, b3, b4⟩, k0, k1⟩ := hp
  have loop : ∀ (d : Nat) (i : Int) (N : Mem), d = (M 1 4 - i).toNat → k ≤ i → i < M 1 4 → (∀ (f : Nat), f = 2 ∨ f = 3 ∨ f = 4 → ∀ j : Nat, N f j = if k ≤ j ∧ (j : Int) < i then M f (j + 1) else M f j) → (∀ o, o = 0 ∨ o = 1 ∨ 5 ≤ o → N o = M o) → Z 2 [some (mr 1), some (mi k), some (mi i)] [] N := by
    intro d
    induction d using Nat.strongRecOn with
    | ind d ih =>
      intro i N hd h0 h1 hf ho
      have e1 : N 1 = M 1 := ho 1 (by omega)
      have e14 : N 1 4 = M 1 4 := by rw [e1]
      refine w_iload hZ 2 3 rfl rfl rfl ?_
      refine w_const hZ 3 4 rfl rfl  ?_
      refine w_add hZ 4 5 rfl rfl (by unfold InR; omega) ?_
      refine w_aload hZ 5 6 rfl rfl rfl ?_
      refine w_getiv hZ 6 7 rfl rfl rfl rfl rfl (v := M 1 4) e14 ?_
      refine w_cge hZ 7 8 rfl rfl (fun c7 => ?_) (fun c7 => ?_)
      · refine w_aload hZ 40 41 rfl rfl rfl ?_
        refine w_dup hZ 41 42 rfl rfl rfl ?_
        refine w_getiv hZ 42 43 rfl rfl rfl rfl rfl (v := M 1 4) e14 ?_
        refine w_const hZ 43 44 rfl rfl  ?_
        refine w_sub hZ 44 45 rfl rfl (by unfold InR; omega) ?_
        refine w_puti hZ 45 46 rfl rfl rfl rfl rfl ?_
        refine w_vret hZ 46 rfl ?_
        refine hR _ ⟨fun j => ?_, fun j => ?_, fun j => ?_, ?_, fun o ho2 => ?_⟩
        · show N 2 j = _
          rw [hf 2 (by omega) j]
          congr 1
          simp; omega
        · show N 3 j = _
          rw [hf 3 (by omega) j]
          congr 1
          simp; omega
        · show N 4 j = _
          rw [hf 4 (by omega) j]
          congr 1
          simp; omega
        · show rup (N 1) 4 _ = _
          rw [e1]
        · have n1 : ¬ o = 1 := by omega
          rw [← ho o (by omega)]
          funext j
          simp [mup_at, n1]
      · refine w_aload hZ 8 9 rfl rfl rfl ?_
        refine w_getr hZ 9 10 rfl rfl rfl rfl rfl ?_
        refine w_iload hZ 10 11 rfl rfl rfl ?_
        refine w_aload hZ 11 12 rfl rfl rfl ?_
        refine w_getr hZ 12 13 rfl rfl rfl rfl rfl ?_
        refine w_iload hZ 13 14 rfl rfl rfl ?_
        refine w_const hZ 14 15 rfl rfl  ?_
        refine w_add hZ 15 16 rfl rfl (by unfold InR; omega) ?_
        refine w_ialdv hZ 16 17 rfl rfl rfl (by omega) (by omega) (v := N 2 (i.toNat + 1)) (by congr 1; omega) ?_
        refine w_iast hZ 17 18 rfl rfl rfl (by omega) (by omega) ?_
        refine w_aload hZ 18 19 rfl rfl rfl ?_
        refine w_getr hZ 19 20 rfl rfl rfl rfl rfl ?_
        refine w_iload hZ 20 21 rfl rfl rfl ?_
        refine w_aload hZ 21 22 rfl rfl rfl ?_
        refine w_getr hZ 22 23 rfl rfl rfl rfl rfl ?_
        refine w_iload hZ 23 24 rfl rfl rfl ?_
        refine w_const hZ 24 25 rfl rfl  ?_
        refine w_add hZ 25 26 rfl rfl (by unfold InR; omega) ?_
        refine w_ialdv hZ 26 27 rfl rfl rfl (by omega) (by omega) (v := N 3 (i.toNat + 1)) (by show N 3 _ = _; congr 1; omega) ?_
        refine w_iast hZ 27 28 rfl rfl rfl (by omega) (by omega) ?_
        refine w_aload hZ 28 29 rfl rfl rfl ?_
        refine w_getr hZ 29 30 rfl rfl rfl rfl rfl ?_
        refine w_iload hZ 30 31 rfl rfl rfl ?_
        refine w_aload hZ 31 32 rfl rfl rfl ?_
        refine w_getr hZ 32 33 rfl rfl rfl rfl rfl ?_
        refine w_iload hZ 33 34 rfl rfl rfl ?_
        refine w_const hZ 34 35 rfl rfl  ?_
        refine w_add hZ 35 36 rfl rfl (by unfold InR; omega) ?_
        refine w_ialdv hZ 36 37 rfl rfl rfl (by omega) (by omega) (v := N 4 (i.toNat + 1)) (by show N 4 _ = _; congr 1; omega) ?_
        refine w_iast hZ 37 38 rfl rfl rfl (by omega) (by omega) ?_
        refine w_in3_2 hZ 38 39 rfl rfl rfl (by unfold InR; omega) ?_
        refine w_goto hZ 39 2 rfl ?_
        refine ih ((M 1 4 - (i + 1)).toNat) (by omega) (i + 1) _ rfl (by omega) (by omega) (fun f hf2 j => ?_) (fun o ho2 => ?_)
        · have q := hf f hf2 j
          have q1 := hf f hf2 (i.toNat + 1)
          rw [if_neg (by omega)] at q1
          by_cases hj : j = i.toNat
          · subst hj
            rw [if_pos (by omega)]
            rcases hf2 with rfl | rfl | rfl <;> simp [mup_at] <;> exact q1
          · rcases hf2 with rfl | rfl | rfl <;> simp [mup_at, hj] <;> rw [q] <;> congr 1 <;> simp <;> omega
        · rw [← ho o ho2]
          funext j
          have n2 : ¬ o = 2 := by omega
          have n3 : ¬ o = 3 := by omega
          have n4 : ¬ o = 4 := by omega
          simp [mup_at, n2, n3, n4]
  refine w_iload hZ 0 1 rfl rfl rfl ?_
  refine w_st3_2 hZ 1 2 rfl rfl rfl ?_
  exact loop _ k M rfl (by omega) k1 (fun f _ j => by rw [if_neg (by omega)]) (fun o _ => rfl)
set_option maxRecDepth 100000 in
set_option maxHeartbeats 4000000 in
theorem ao_X0_removeRule : AllOk yX0_removeRule.cls cX0_removeRule 3 0 0 none none pc_X0_removeRule 0 cd_X0_removeRule := ⟨s_iload_n (k := 1) (by decide +kernel) rfl rfl, ⟨s_istore_n (k := 2) (by decide +kernel) rfl rfl, ⟨s_iload_n (k := 2) (by decide +kernel) rfl rfl, ⟨s_iconst (by decide +kernel) rfl ⟨by decide, by decide⟩, ⟨s_add (by decide +kernel) rfl, ⟨s_aload_n (k := 0) (by decide +kernel) rfl rfl, ⟨s_get (C := RX0) (T := TX0) (N := 8) rfl inT0 (by decide) tw_1_36 (by decide +kernel) rfl, ⟨s_cge (off := (51)) (by decide +kernel) rfl rfl, ⟨s_aload_n (k := 0) (by decide +kernel) rfl rfl, ⟨s_get (C := RX0) (T := TX0) (N := 8) rfl inT0 (by decide) tw_1_25 (by decide +kernel) rfl, ⟨s_iload_n (k := 2) (by decide +kernel) rfl rfl, ⟨s_aload_n (k := 0) (by decide +kernel) rfl rfl, ⟨s_get (C := RX0) (T := TX0) (N := 8) rfl inT0 (by decide) tw_1_25 (by decide +kernel) rfl, ⟨s_iload_n (k := 2) (by decide +kernel) rfl rfl, ⟨s_iconst (by decide +kernel) rfl ⟨by decide, by decide⟩, ⟨s_add (by decide +kernel) rfl, ⟨s_iald (by decide +kernel) rfl, ⟨s_iast (by decide +kernel) rfl, ⟨s_aload_n (k := 0) (by decide +kernel) rfl rfl, ⟨s_get (C := RX0) (T := TX0) (N := 8) rfl inT0 (by decide) tw_1_29 (by decide +kernel) rfl, ⟨s_iload_n (k := 2) (by decide +kernel) rfl rfl, ⟨s_aload_n (k := 0) (by decide +kernel) rfl rfl, ⟨s_get (C := RX0) (T := TX0) (N := 8) rfl inT0 (by decide) tw_1_29 (by decide +kernel) rfl, ⟨s_iload_n (k := 2) (by decide +kernel) rfl rfl, ⟨s_iconst (by decide +kernel) rfl ⟨by decide, by decide⟩, ⟨s_add (by decide +kernel) rfl, ⟨s_iald (by decide +kernel) rfl, ⟨s_iast (by decide +kernel) rfl, ⟨s_aload_n (k := 0) (by decide +kernel) rfl rfl, ⟨s_get (C := RX0) (T := TX0) (N := 8) rfl inT0 (by decide) tw_1_32 (by decide +kernel) rfl, ⟨s_iload_n (k := 2) (by decide +kernel) rfl rfl, ⟨s_aload_n (k := 0) (by decide +kernel) rfl rfl, ⟨s_get (C := RX0) (T := TX0) (N := 8) rfl inT0 (by decide) tw_1_32 (by decide +kernel) rfl, ⟨s_iload_n (k := 2) (by decide +kernel) rfl rfl, ⟨s_iconst (by decide +kernel) rfl ⟨by decide, by decide⟩, ⟨s_add (by decide +kernel) rfl, ⟨s_iald (by decide +kernel) rfl, ⟨s_iast (by decide +kernel) rfl, ⟨s_iinc (by decide +kernel) rfl, ⟨s_goto (off := (-55)) (by decide +kernel) rfl, ⟨s_aload_n (k := 0) (by decide +kernel) rfl rfl, ⟨s_dup (by decide +kernel) rfl, ⟨s_get (C := RX0) (T := TX0) (N := 8) rfl inT0 (by decide) tw_1_36 (by decide +kernel) rfl, ⟨s_iconst (by decide +kernel) rfl ⟨by decide, by decide⟩, ⟨s_sub (by decide +kernel) rfl, ⟨s_puti (C := RX0) (T := TX0) (N := 8) (tyf := tyX0) rfl inT0 tyX0_ok nmX0 (by decide) rfl rfl tw_1_36 (by decide +kernel) rfl, ⟨s_vret rfl (by decide +kernel), trivial⟩⟩⟩⟩⟩⟩⟩⟩⟩⟩⟩⟩⟩⟩⟩⟩⟩⟩⟩⟩⟩⟩⟩⟩⟩⟩⟩⟩⟩⟩⟩⟩⟩⟩⟩⟩⟩⟩⟩⟩⟩⟩⟩⟩⟩⟩⟩
theorem ct_X0_removeRule : Ctr yX0_removeRule cX0_removeRule 3 none 0 0 sp_X0_removeRule := by
  refine ctr_of (by decide +kernel) ao_X0_removeRule rfl ?_
  rintro av M Ret ⟨k, rfl, hp, hR⟩ hok hM
  exact ⟨Nat.le_of_ble_eq_true rfl, fun Z hZ => b_X0_removeRule  k (hok _ (List.mem_of_getElem? (i := 1) rfl)) M Ret hp hR hM Z hZ⟩
def sp_X0_signAt : SP := fun av M Ret => ∃ i : Int, av = [mr 1, mi i] ∧ (Bx M) ∧ (Ret (some (mi (SX M i))) M)
theorem k_X0_signAt {code : List Sem} {Z : KZ} {Ret : KR} {ls : List (Option MV)} {M : Mem} {r : List MV} (hZ : Sim code Z Ret) (ip np : Nat) {i : Int} (hc : code[ip]? = some (I_callV 0 1 sp_X0_signAt)) (hn : ip + 1 = np) (h3 : catS r ≤ 8)  (hp : Bx M) (kz : Z np ls (mi (SX M i) :: r) M) : Z ip ls (mi i :: mr 1 :: r) M := w_callV1 hZ ip np hc hn rfl rfl h3 ⟨_, rfl, hp, kz⟩
def cd_X0_signAt : List Sem := [I_iload 1, I_iflt 11, I_iload 1, I_aload 0, I_get 0 5, I_cge 11, I_aload 0, I_get 0 3, I_iload 1, I_iald, I_goto 12, I_const (-1), I_iret]
def pc_X0_signAt : List Nat := [0, 1, 4, 5, 6, 9, 12, 13, 16, 17, 18, 21, 22]
set_option maxRecDepth 100000 in
set_option maxHeartbeats 4000000 in
theorem b_X0_signAt (i : Int) (i_i : InR i) (M : Mem) (Ret : KR) (hp : Bx M) (hR : Ret (some (mi (SX M i))) M) (hM : MOk M) (Z : KZ) (hZ : Sim cd_X0_signAt Z Ret) : Z 0 [some (mr 1), some (mi i)] [] M := by
  obtain ⟨b1, b2, b3, b4⟩ := hp
  refine w_iload hZ 0 1 rfl rfl rfl ?_
  refine w_iflt hZ 1 2 rfl rfl (fun c1 => ?_) (fun c1 => ?_)
  · refine w_const hZ 11 12 rfl rfl  ?_
    refine w_iret hZ 12 rfl ?_
    exact ret_i hR (by unfold SX sgn; split <;> first | rfl | omega)
  · refine w_iload hZ 2 3 rfl rfl rfl ?_
    refine w_aload hZ 3 4 rfl rfl rfl ?_
    refine w_geti hZ 4 5 rfl rfl rfl rfl rfl ?_
    refine w_cge hZ 5 6 rfl rfl (fun c5 => ?_) (fun c5 => ?_)
    · refine w_const hZ 11 12 rfl rfl  ?_
      refine w_iret hZ 12 rfl ?_
      exact ret_i hR (by unfold SX sgn; split <;> first | rfl | omega)
    · refine w_aload hZ 6 7 rfl rfl rfl ?_
      refine w_getr hZ 7 8 rfl rfl rfl rfl rfl ?_
      refine w_iload hZ 8 9 rfl rfl rfl ?_
      refine w_iald hZ 9 10 rfl rfl rfl (by omega) (by omega) ?_
      refine w_goto hZ 10 12 rfl ?_
      refine w_iret hZ 12 rfl ?_
      exact ret_i hR (by unfold SX sgn; split <;> first | rfl | omega)
set_option maxRecDepth 100000 in
set_option maxHeartbeats 4000000 in
theorem ao_X0_signAt : AllOk yX0_signAt.cls cX0_signAt 2 0 0 (some .int) none pc_X0_signAt 0 cd_X0_signAt := ⟨s_iload_n (k := 1) (by decide +kernel) rfl rfl, ⟨s_iflt (off := (20)) (by decide +kernel) rfl rfl, ⟨s_iload_n (k := 1) (by decide +kernel) rfl rfl, ⟨s_aload_n (k := 0) (by decide +kernel) rfl rfl, ⟨s_get (C := RX0) (T := TX0) (N := 8) rfl inT0 (by decide) tw_1_38 (by decide +kernel) rfl, ⟨s_cge (off := (12)) (by decide +kernel) rfl rfl, ⟨s_aload_n (k := 0) (by decide +kernel) rfl rfl, ⟨s_get (C := RX0) (T := TX0) (N := 8) rfl inT0 (by decide) tw_1_35 (by decide +kernel) rfl, ⟨s_iload_n (k := 1) (by decide +kernel) rfl rfl, ⟨s_iald (by decide +kernel) rfl, ⟨s_goto (off := (4)) (by decide +kernel) rfl, ⟨s_iconst (by decide +kernel) rfl ⟨by decide, by decide⟩, ⟨s_iret rfl (by decide +kernel), trivial⟩⟩⟩⟩⟩⟩⟩⟩⟩⟩⟩⟩⟩
theorem ct_X0_signAt : Ctr yX0_signAt cX0_signAt 2 (some .int) 0 0 sp_X0_signAt := by
  refine ctr_of (by decide +kernel) ao_X0_signAt rfl ?_
  rintro av M Ret ⟨i, rfl, hp, hR⟩ hok hM
  exact ⟨Nat.le_of_ble_eq_true rfl, fun Z hZ => b_X0_signAt  i (hok _ (List.mem_of_getElem? (i := 1) rfl)) M Ret hp hR hM Z hZ⟩
def sp_X0_wordBeginsAt : SP := fun av M Ret => ∃ i : Int, av = [mr 1, mi i] ∧ (Bx M ∧ InR (i - 1)) ∧ (Ret (some (mi (b2i (isLt (SX M i) ∧ ¬ isLt (SX M (i - 1)))))) M)
theorem k_X0_wordBeginsAt {code : List Sem} {Z : KZ} {Ret : KR} {ls : List (Option MV)} {M : Mem} {r : List MV} (hZ : Sim code Z Ret) (ip np : Nat) {i : Int} (hc : code[ip]? = some (I_callV 0 1 sp_X0_wordBeginsAt)) (hn : ip + 1 = np) (h3 : catS r ≤ 8)  (hp : Bx M ∧ InR (i - 1)) (kz : Z np ls (mi (b2i (isLt (SX M i) ∧ ¬ isLt (SX M (i - 1)))) :: r) M) : Z ip ls (mi i :: mr 1 :: r) M := w_callV1 hZ ip np hc hn rfl rfl h3 ⟨_, rfl, hp, kz⟩
def cd_X0_wordBeginsAt : List Sem := [I_aload 0, I_iload 1, I_callV 0 1 sp_X0_signAt, I_callS 1 sp_X6_isOfWord, I_ifeq 14, I_aload 0, I_iload 1, I_const (1), I_sub, I_callV 0 1 sp_X0_signAt, I_callS 1 sp_X6_isOfWord, I_ifne 14, I_const (1), I_goto 15, I_const (0), I_zret]
def pc_X0_wordBeginsAt : List Nat := [0, 1, 2, 5, 8, 11, 12, 13, 14, 15, 18, 21, 24, 25, 28, 29]
set_option maxRecDepth 100000 in
set_option maxHeartbeats 4000000 in
theorem b_X0_wordBeginsAt (i : Int) (i_i : InR i) (M : Mem) (Ret : KR) (hp : Bx M ∧ InR (i - 1)) (hR : Ret (some (mi (b2i (isLt (SX M i) ∧ ¬ isLt (SX M (i - 1)))))) M) (hM : MOk M) (Z : KZ) (hZ : Sim cd_X0_wordBeginsAt Z Ret) : Z 0 [some (mr 1), some (mi i)] [] M := by
  obtain ⟨hb, hi⟩ := hp
  refine w_aload hZ 0 1 rfl rfl rfl ?_
  refine w_iload hZ 1 2 rfl rfl rfl ?_
  refine k_X0_signAt hZ 2 3 rfl rfl (Nat.le_of_ble_eq_true rfl) hb ?_
  refine k_X6_isOfWord hZ 3 4 rfl rfl (Nat.le_of_ble_eq_true rfl)  ?_
  refine w_ifeq hZ 4 5 rfl rfl (fun c4 => ?_) (fun c4 => ?_)
  · refine w_const hZ 14 15 rfl rfl  ?_
    refine w_zret hZ 15 rfl (by omega) ?_
    exact ret_i hR (by (first | refine b2i_t ?_ | refine b2i_f ?_); (try replace c4 := b2i_z.mp c4); (try replace c4 := b2i_e.mp c4); (try replace c11 := b2i_z.mp c11); (try replace c11 := b2i_e.mp c11); simp [*])
  · refine w_aload hZ 5 6 rfl rfl rfl ?_
    refine w_iload hZ 6 7 rfl rfl rfl ?_
    refine w_const hZ 7 8 rfl rfl  ?_
    refine w_sub hZ 8 9 rfl rfl hi ?_
    refine k_X0_signAt hZ 9 10 rfl rfl (Nat.le_of_ble_eq_true rfl) hb ?_
    refine k_X6_isOfWord hZ 10 11 rfl rfl (Nat.le_of_ble_eq_true rfl)  ?_
    refine w_ifne hZ 11 12 rfl rfl (fun c11 => ?_) (fun c11 => ?_)
    · refine w_const hZ 14 15 rfl rfl  ?_
      refine w_zret hZ 15 rfl (by omega) ?_
      exact ret_i hR (by (first | refine b2i_t ?_ | refine b2i_f ?_); (try replace c4 := b2i_z.mp c4); (try replace c4 := b2i_e.mp c4); (try replace c11 := b2i_z.mp c11); (try replace c11 := b2i_e.mp c11); simp [*])
    · refine w_const hZ 12 13 rfl rfl  ?_
      refine w_goto hZ 13 15 rfl ?_
      refine w_zret hZ 15 rfl (by omega) ?_
      exact ret_i hR (by (first | refine b2i_t ?_ | refine b2i_f ?_); (try replace c4 := b2i_z.mp c4); (try replace c4 := b2i_e.mp c4); (try replace c11 := b2i_z.mp c11); (try replace c11 := b2i_e.mp c11); simp [*])
set_option maxRecDepth 100000 in
set_option maxHeartbeats 4000000 in
theorem ao_X0_wordBeginsAt : AllOk yX0_wordBeginsAt.cls cX0_wordBeginsAt 2 2 40 (some .boolean) none pc_X0_wordBeginsAt 0 cd_X0_wordBeginsAt := ⟨s_aload_n (k := 0) (by decide +kernel) rfl rfl, ⟨s_iload_n (k := 1) (by decide +kernel) rfl rfl, ⟨s_callV (C := RX0) (T := TX0) (N := 8) rfl ct_X0_signAt (by decide) (by decide) ⟨rfl, by decide +kernel, by decide +kernel, by decide +kernel⟩ tw_2_129 tw_2_130 tw_2_131 tw_1_2 tw_2_132 (by decide +kernel) rfl, ⟨s_callN ct_X6_isOfWord (by decide) (by decide) ⟨by decide +kernel, by decide +kernel, by decide +kernel⟩ ni_4 tw_2_87 tw_1_1 tw_2_88 (by decide +kernel) rfl, ⟨s_ifeq (off := (20)) (by decide +kernel) rfl rfl, ⟨s_aload_n (k := 0) (by decide +kernel) rfl rfl, ⟨s_iload_n (k := 1) (by decide +kernel) rfl rfl, ⟨s_iconst (by decide +kernel) rfl ⟨by decide, by decide⟩, ⟨s_sub (by decide +kernel) rfl, ⟨s_callV (C := RX0) (T := TX0) (N := 8) rfl ct_X0_signAt (by decide) (by decide) ⟨rfl, by decide +kernel, by decide +kernel, by decide +kernel⟩ tw_2_129 tw_2_130 tw_2_131 tw_1_2 tw_2_132 (by decide +kernel) rfl, ⟨s_callN ct_X6_isOfWord (by decide) (by decide) ⟨by decide +kernel, by decide +kernel, by decide +kernel⟩ ni_4 tw_2_87 tw_1_1 tw_2_88 (by decide +kernel) rfl, ⟨s_ifne (off := (7)) (by decide +kernel) rfl rfl, ⟨s_iconst (by decide +kernel) rfl ⟨by decide, by decide⟩, ⟨s_goto (off := (4)) (by decide +kernel) rfl, ⟨s_iconst (by decide +kernel) rfl ⟨by decide, by decide⟩, ⟨s_zret rfl (by decide +kernel), trivial⟩⟩⟩⟩⟩⟩⟩⟩⟩⟩⟩⟩⟩⟩⟩⟩
theorem ct_X0_wordBeginsAt : Ctr yX0_wordBeginsAt cX0_wordBeginsAt 2 (some .boolean) 2 40 sp_X0_wordBeginsAt := by
  refine ctr_of (by decide +kernel) ao_X0_wordBeginsAt rfl ?_
  rintro av M Ret ⟨i, rfl, hp, hR⟩ hok hM
  exact ⟨Nat.le_of_ble_eq_true rfl, fun Z hZ => b_X0_wordBeginsAt  i (hok _ (List.mem_of_getElem? (i := 1) rfl)) M Ret hp hR hM Z hZ⟩
def sp_X0_endOfWord : SP := fun av M Ret => ∃ b : Int, av = [mr 1, mi b] ∧ (Bx M ∧ 0 ≤ b ∧ b ≤ M 1 5) ∧ (Ret (some (mi (we (M 1 5) (SX M) b))) M)
theorem k_X0_endOfWord {code : List Sem} {Z : KZ} {Ret : KR} {ls : List (Option MV)} {M : Mem} {r : List MV} (hZ : Sim code Z Ret) (ip np : Nat) {b : Int} (hc : code[ip]? = some (I_callV 0 1 sp_X0_endOfWord)) (hn : ip + 1 = np) (h3 : catS r ≤ 8)  (hp : Bx M ∧ 0 ≤ b ∧ b ≤ M 1 5) (kz : Z np ls (mi (we (M 1 5) (SX M) b) :: r) M) : Z ip ls (mi b :: mr 1 :: r) M := w_callV1 hZ ip np hc hn rfl rfl h3 ⟨_, rfl, hp, kz⟩
def cd_X0_endOfWord : List Sem := [I_iload 1, I_istore 2, I_iload 2, I_aload 0, I_get 0 5, I_cge 15, I_aload 0, I_iload 2, I_callV 0 1 sp_X0_signAt, I_callS 1 sp_X6_isOfWord, I_ifne 13, I_iload 2, I_iret, I_iinc 2 (1), I_goto 2, I_aload 0, I_get 0 5, I_iret]
def pc_X0_endOfWord : List Nat := [0, 1, 2, 3, 4, 7, 10, 11, 12, 15, 18, 21, 22, 23, 26, 29, 30, 33]
set_option maxRecDepth 100000 in
set_option maxHeartbeats 4000000 in
theorem b_X0_endOfWord (b : Int) (i_b : InR b) (M : Mem) (Ret : KR) (hp : Bx M ∧ 0 ≤ b ∧ b ≤ M 1 5) (hR : Ret (some (mi (we (M 1 5) (SX M) b))) M) (hM : MOk M) (Z : KZ) (hZ : Sim cd_X0_endOfWord Z Ret) : Z 0 [some (mr 1), some (mi b), none] [] M := by
  obtain ⟨hb, k0, k1⟩ := hp
  have hb' := hb
  obtain ⟨b1, b2, b3, b4⟩ := hb'
  have loop : ∀ (d : Nat) (i : Int), d = (M 1 5 - i).toNat → b ≤ i → i ≤ M 1 5 → (∀ j : Int, b ≤ j → j < i → isLt (SX M j)) → Z 2 [some (mr 1), some (mi b), some (mi i)] [] M := by
    intro d
    induction d using Nat.strongRecOn with
    | ind d ih =>
      intro i hd h0 h1 hj
      refine w_iload hZ 2 3 rfl rfl rfl ?_
      refine w_aload hZ 3 4 rfl rfl rfl ?_
      refine w_geti hZ 4 5 rfl rfl rfl rfl rfl ?_
      refine w_cge hZ 5 6 rfl rfl (fun c5 => ?_) (fun c5 => ?_)
      · refine w_aload hZ 15 16 rfl rfl rfl ?_
        refine w_geti hZ 16 17 rfl rfl rfl rfl rfl ?_
        refine w_iret hZ 17 rfl ?_
        exact ret_i hR (we_eq k1 (Int.le_refl _) (SX_n M) (fun j a q => hj j a (by omega)) (SX_n M))
      · refine w_aload hZ 6 7 rfl rfl rfl ?_
        refine w_iload hZ 7 8 rfl rfl rfl ?_
        refine k_X0_signAt hZ 8 9 rfl rfl (Nat.le_of_ble_eq_true rfl) hb ?_
        refine k_X6_isOfWord hZ 9 10 rfl rfl (Nat.le_of_ble_eq_true rfl)  ?_
        refine w_ifne hZ 10 11 rfl rfl (fun c10 => ?_) (fun c10 => ?_)
        · refine w_in3_2 hZ 13 14 rfl rfl rfl (by unfold InR; omega) ?_
          refine w_goto hZ 14 2 rfl ?_
          refine ih ((M 1 5 - (i + 1)).toNat) (by omega) (i + 1) rfl (by omega) (by omega) (fun j a q => ?_)
          by_cases e : j = i
          · rw [e]; exact b2i_e.mp c10
          · exact hj j a (by omega)
        · refine w_iload hZ 11 12 rfl rfl rfl ?_
          refine w_iret hZ 12 rfl ?_
          exact ret_i hR (we_eq h0 h1 (SX_n M) hj (b2i_z.mp c10))
  refine w_iload hZ 0 1 rfl rfl rfl ?_
  refine w_st3_2 hZ 1 2 rfl rfl rfl ?_
  exact loop _ b rfl (by omega) (by omega) (fun j a q => by omega)
set_option maxRecDepth 100000 in
set_option maxHeartbeats 4000000 in
theorem ao_X0_endOfWord : AllOk yX0_endOfWord.cls cX0_endOfWord 3 2 40 (some .int) none pc_X0_endOfWord 0 cd_X0_endOfWord := ⟨s_iload_n (k := 1) (by decide +kernel) rfl rfl, ⟨s_istore_n (k := 2) (by decide +kernel) rfl rfl, ⟨s_iload_n (k := 2) (by decide +kernel) rfl rfl, ⟨s_aload_n (k := 0) (by decide +kernel) rfl rfl, ⟨s_get (C := RX0) (T := TX0) (N := 8) rfl inT0 (by decide) tw_1_38 (by decide +kernel) rfl, ⟨s_cge (off := (22)) (by decide +kernel) rfl rfl, ⟨s_aload_n (k := 0) (by decide +kernel) rfl rfl, ⟨s_iload_n (k := 2) (by decide +kernel) rfl rfl, ⟨s_callV (C := RX0) (T := TX0) (N := 8) rfl ct_X0_signAt (by decide) (by decide) ⟨rfl, by decide +kernel, by decide +kernel, by decide +kernel⟩ tw_2_129 tw_2_130 tw_2_131 tw_1_2 tw_2_132 (by decide +kernel) rfl, ⟨s_callN ct_X6_isOfWord (by decide) (by decide) ⟨by decide +kernel, by decide +kernel, by decide +kernel⟩ ni_4 tw_2_87 tw_1_1 tw_2_88 (by decide +kernel) rfl, ⟨s_ifne (off := (5)) (by decide +kernel) rfl rfl, ⟨s_iload_n (k := 2) (by decide +kernel) rfl rfl, ⟨s_iret rfl (by decide +kernel), ⟨s_iinc (by decide +kernel) rfl, ⟨s_goto (off := (-24)) (by decide +kernel) rfl, ⟨s_aload_n (k := 0) (by decide +kernel) rfl rfl, ⟨s_get (C := RX0) (T := TX0) (N := 8) rfl inT0 (by decide) tw_1_38 (by decide +kernel) rfl, ⟨s_iret rfl (by decide +kernel), trivial⟩⟩⟩⟩⟩⟩⟩⟩⟩⟩⟩⟩⟩⟩⟩⟩⟩⟩
theorem ct_X0_endOfWord : Ctr yX0_endOfWord cX0_endOfWord 3 (some .int) 2 40 sp_X0_endOfWord := by
  refine ctr_of (by decide +kernel) ao_X0_endOfWord rfl ?_
  rintro av M Ret ⟨b, rfl, hp, hR⟩ hok hM
  exact ⟨Nat.le_of_ble_eq_true rfl, fun Z hZ => b_X0_endOfWord  b (hok _ (List.mem_of_getElem? (i := 1) rfl)) M Ret hp hR hM Z hZ⟩
def sp_X0_wordCount : SP := fun av M Ret => av = [mr 1] ∧ (Bx M) ∧ (Ret (some (mi (cntW (SX M) (M 1 5).toNat))) M)
theorem k_X0_wordCount {code : List Sem} {Z : KZ} {Ret : KR} {ls : List (Option MV)} {M : Mem} {r : List MV} (hZ : Sim code Z Ret) (ip np : Nat)  (hc : code[ip]? = some (I_callV 0 0 sp_X0_wordCount)) (hn : ip + 1 = np) (h3 : catS r ≤ 8)  (hp : Bx M) (kz : Z np ls (mi (cntW (SX M) (M 1 5).toNat) :: r) M) : Z ip ls (mr 1 :: r) M := w_callV0 hZ ip np hc hn rfl rfl h3 ⟨rfl, hp, kz⟩
def cd_X0_wordCount : List Sem := [I_const (0), I_istore 1, I_const (0), I_istore 2, I_iload 2, I_aload 0, I_get 0 5, I_cge 15, I_aload 0, I_iload 2, I_callV 0 1 sp_X0_wordBeginsAt, I_ifeq 13, I_iinc 1 (1), I_iinc 2 (1), I_goto 4, I_iload 1, I_iret]
def pc_X0_wordCount : List Nat := [0, 1, 2, 3, 4, 5, 6, 9, 12, 13, 14, 17, 20, 23, 26, 29, 30]
set_option maxRecDepth 100000 in
set_option maxHeartbeats 4000000 in
theorem b_X0_wordCount  (M : Mem) (Ret : KR) (hp : Bx M) (hR : Ret (some (mi (cntW (SX M) (M 1 5).toNat))) M) (hM : MOk M) (Z : KZ) (hZ : Sim cd_X0_wordCount Z Ret) : Z 0 [some (mr 1), none, none] [] M := by
  have hb := hp
  obtain ⟨b1, b2, b3, b4⟩ := hp
  have loop : ∀ (d k : Nat), d + k = (M 1 5).toNat → Z 4 [some (mr 1), some (mi (cntW (SX M) k)), some (mi (k : Int))] [] M := by
    intro d
    induction d with
    | zero =>
      intro k hk
      refine w_iload hZ 4 5 rfl rfl rfl ?_
      refine w_aload hZ 5 6 rfl rfl rfl ?_
      refine w_geti hZ 6 7 rfl rfl rfl rfl rfl ?_
      refine w_cge hZ 7 8 rfl rfl (fun c7 => ?_) (fun c7 => absurd c7 (by omega))
      refine w_iload hZ 15 16 rfl rfl rfl ?_
      refine w_iret hZ 16 rfl ?_
      exact ret_i hR (by congr 1; omega)
    | succ d ih =>
      intro k hk
      have hc := cntW_le (SX M) k
      refine w_iload hZ 4 5 rfl rfl rfl ?_
      refine w_aload hZ 5 6 rfl rfl rfl ?_
      refine w_geti hZ 6 7 rfl rfl rfl rfl rfl ?_
      refine w_cge hZ 7 8 rfl rfl (fun c7 => absurd c7 (by omega)) (fun c7 => ?_)
      refine w_aload hZ 8 9 rfl rfl rfl ?_
      refine w_iload hZ 9 10 rfl rfl rfl ?_
      refine k_X0_wordBeginsAt hZ 10 11 rfl rfl (Nat.le_of_ble_eq_true rfl) ⟨hb, by unfold InR; omega⟩ ?_
      refine w_ifeq hZ 11 12 rfl rfl (fun c11 => ?_) (fun c11 => ?_)
      · refine w_in3_2 hZ 13 14 rfl rfl rfl (by unfold InR; omega) ?_
        refine w_goto hZ 14 4 rfl ?_
        have e := ih (k + 1) (by omega)
        unfold cntW at e
        first
          | (rw [b2i_t (b2i_e.mp c11)] at e; exact e)
          | (rw [b2i_f (b2i_z.mp c11)] at e; simp only [Int.add_zero] at e; exact e)
      · refine w_in3_1 hZ 12 13 rfl rfl rfl (by unfold InR; omega) ?_
        refine w_in3_2 hZ 13 14 rfl rfl rfl (by unfold InR; omega) ?_
        refine w_goto hZ 14 4 rfl ?_
        have e := ih (k + 1) (by omega)
        unfold cntW at e
        first
          | (rw [b2i_t (b2i_e.mp c11)] at e; exact e)
          | (rw [b2i_f (b2i_z.mp c11)] at e; simp only [Int.add_zero] at e; exact e)
  refine w_const hZ 0 1 rfl rfl  ?_
  refine w_st3_1 hZ 1 2 rfl rfl rfl ?_
  refine w_const hZ 2 3 rfl rfl  ?_
  refine w_st3_2 hZ 3 4 rfl rfl rfl ?_
  exact loop (M 1 5).toNat 0 (by omega)
set_option maxRecDepth 100000 in
set_option maxHeartbeats 4000000 in
theorem ao_X0_wordCount : AllOk yX0_wordCount.cls cX0_wordCount 3 3 61 (some .int) none pc_X0_wordCount 0 cd_X0_wordCount := ⟨s_iconst (by decide +kernel) rfl ⟨by decide, by decide⟩, ⟨s_istore_n (k := 1) (by decide +kernel) rfl rfl, ⟨s_iconst (by decide +kernel) rfl ⟨by decide, by decide⟩, ⟨s_istore_n (k := 2) (by decide +kernel) rfl rfl, ⟨s_iload_n (k := 2) (by decide +kernel) rfl rfl, ⟨s_aload_n (k := 0) (by decide +kernel) rfl rfl, ⟨s_get (C := RX0) (T := TX0) (N := 8) rfl inT0 (by decide) tw_1_38 (by decide +kernel) rfl, ⟨s_cge (off := (20)) (by decide +kernel) rfl rfl, ⟨s_aload_n (k := 0) (by decide +kernel) rfl rfl, ⟨s_iload_n (k := 2) (by decide +kernel) rfl rfl, ⟨s_callV (C := RX0) (T := TX0) (N := 8) rfl ct_X0_wordBeginsAt (by decide) (by decide) ⟨rfl, by decide +kernel, by decide +kernel, by decide +kernel⟩ tw_2_125 tw_2_126 tw_2_127 tw_1_2 tw_2_128 (by decide +kernel) rfl, ⟨s_ifeq (off := (6)) (by decide +kernel) rfl rfl, ⟨s_iinc (by decide +kernel) rfl, ⟨s_iinc (by decide +kernel) rfl, ⟨s_goto (off := (-22)) (by decide +kernel) rfl, ⟨s_iload_n (k := 1) (by decide +kernel) rfl rfl, ⟨s_iret rfl (by decide +kernel), trivial⟩⟩⟩⟩⟩⟩⟩⟩⟩⟩⟩⟩⟩⟩⟩⟩⟩
theorem ct_X0_wordCount : Ctr yX0_wordCount cX0_wordCount 3 (some .int) 3 61 sp_X0_wordCount := by
  refine ctr_of (by decide +kernel) ao_X0_wordCount rfl ?_
  rintro av M Ret ⟨rfl, hp, hR⟩ hok hM
  exact ⟨Nat.le_of_ble_eq_true rfl, fun Z hZ => b_X0_wordCount   M Ret hp hR hM Z hZ⟩
def sp_X0_isBehindFigures : SP := fun av M Ret => ∃ i : Int, av = [mr 1, mi i] ∧ (Bx M ∧ InR (i - 1) ∧ InR (i - 2)) ∧ (Ret (some (mi (b2i (isBh (SX M) i)))) M)
theorem k_X0_isBehindFigures {code : List Sem} {Z : KZ} {Ret : KR} {ls : List (Option MV)} {M : Mem} {r : List MV} (hZ : Sim code Z Ret) (ip np : Nat) {i : Int} (hc : code[ip]? = some (I_callV 0 1 sp_X0_isBehindFigures)) (hn : ip + 1 = np) (h3 : catS r ≤ 8)  (hp : Bx M ∧ InR (i - 1) ∧ InR (i - 2)) (kz : Z np ls (mi (b2i (isBh (SX M) i)) :: r) M) : Z ip ls (mi i :: mr 1 :: r) M := w_callV1 hZ ip np hc hn rfl rfl h3 ⟨_, rfl, hp, kz⟩
def cd_X0_isBehindFigures : List Sem := [I_aload 0, I_iload 1, I_const (1), I_sub, I_callV 0 1 sp_X0_signAt, I_callS 1 sp_X6_isFigure, I_ifne 21, I_aload 0, I_iload 1, I_const (1), I_sub, I_callV 0 1 sp_X0_signAt, I_callS 1 sp_X6_isPointOrComma, I_ifeq 23, I_aload 0, I_iload 1, I_const (2), I_sub, I_callV 0 1 sp_X0_signAt, I_callS 1 sp_X6_isFigure, I_ifeq 23, I_const (1), I_goto 24, I_const (0), I_zret]
def pc_X0_isBehindFigures : List Nat := [0, 1, 2, 3, 4, 7, 10, 13, 14, 15, 16, 17, 20, 23, 26, 27, 28, 29, 30, 33, 36, 39, 40, 43, 44]
set_option maxRecDepth 100000 in
set_option maxHeartbeats 4000000 in
theorem b_X0_isBehindFigures (i : Int) (i_i : InR i) (M : Mem) (Ret : KR) (hp : Bx M ∧ InR (i - 1) ∧ InR (i - 2)) (hR : Ret (some (mi (b2i (isBh (SX M) i)))) M) (hM : MOk M) (Z : KZ) (hZ : Sim cd_X0_isBehindFigures Z Ret) : Z 0 [some (mr 1), some (mi i)] [] M := by
  obtain ⟨hb, hi, hi2⟩ := hp
  refine w_aload hZ 0 1 rfl rfl rfl ?_
  refine w_iload hZ 1 2 rfl rfl rfl ?_
  refine w_const hZ 2 3 rfl rfl  ?_
  refine w_sub hZ 3 4 rfl rfl hi ?_
  refine k_X0_signAt hZ 4 5 rfl rfl (Nat.le_of_ble_eq_true rfl) hb ?_
  refine k_X6_isFigure hZ 5 6 rfl rfl (Nat.le_of_ble_eq_true rfl)  ?_
  refine w_ifne hZ 6 7 rfl rfl (fun c6 => ?_) (fun c6 => ?_)
  · refine w_const hZ 21 22 rfl rfl  ?_
    refine w_goto hZ 22 24 rfl ?_
    refine w_zret hZ 24 rfl (by omega) ?_
    exact ret_i hR (by (first | refine b2i_t ?_ | refine b2i_f ?_); (try replace c6 := b2i_z.mp c6); (try replace c6 := b2i_e.mp c6); (try replace c13 := b2i_z.mp c13); (try replace c13 := b2i_e.mp c13); (try replace c20 := b2i_z.mp c20); (try replace c20 := b2i_e.mp c20); simp only [isBh, isFg, isPC] at *; omega)
  · refine w_aload hZ 7 8 rfl rfl rfl ?_
    refine w_iload hZ 8 9 rfl rfl rfl ?_
    refine w_const hZ 9 10 rfl rfl  ?_
    refine w_sub hZ 10 11 rfl rfl hi ?_
    refine k_X0_signAt hZ 11 12 rfl rfl (Nat.le_of_ble_eq_true rfl) hb ?_
    refine k_X6_isPointOrComma hZ 12 13 rfl rfl (Nat.le_of_ble_eq_true rfl)  ?_
    refine w_ifeq hZ 13 14 rfl rfl (fun c13 => ?_) (fun c13 => ?_)
    · refine w_const hZ 23 24 rfl rfl  ?_
      refine w_zret hZ 24 rfl (by omega) ?_
      exact ret_i hR (by (first | refine b2i_t ?_ | refine b2i_f ?_); (try replace c6 := b2i_z.mp c6); (try replace c6 := b2i_e.mp c6); (try replace c13 := b2i_z.mp c13); (try replace c13 := b2i_e.mp c13); (try replace c20 := b2i_z.mp c20); (try replace c20 := b2i_e.mp c20); simp only [isBh, isFg, isPC] at *; omega)
    · refine w_aload hZ 14 15 rfl rfl rfl ?_
      refine w_iload hZ 15 16 rfl rfl rfl ?_
      refine w_const hZ 16 17 rfl rfl  ?_
      refine w_sub hZ 17 18 rfl rfl hi2 ?_
      refine k_X0_signAt hZ 18 19 rfl rfl (Nat.le_of_ble_eq_true rfl) hb ?_
      refine k_X6_isFigure hZ 19 20 rfl rfl (Nat.le_of_ble_eq_true rfl)  ?_
      refine w_ifeq hZ 20 21 rfl rfl (fun c20 => ?_) (fun c20 => ?_)
      · refine w_const hZ 23 24 rfl rfl  ?_
        refine w_zret hZ 24 rfl (by omega) ?_
        exact ret_i hR (by (first | refine b2i_t ?_ | refine b2i_f ?_); (try replace c6 := b2i_z.mp c6); (try replace c6 := b2i_e.mp c6); (try replace c13 := b2i_z.mp c13); (try replace c13 := b2i_e.mp c13); (try replace c20 := b2i_z.mp c20); (try replace c20 := b2i_e.mp c20); simp only [isBh, isFg, isPC] at *; omega)
      · refine w_const hZ 21 22 rfl rfl  ?_
        refine w_goto hZ 22 24 rfl ?_
        refine w_zret hZ 24 rfl (by omega) ?_
        exact ret_i hR (by (first | refine b2i_t ?_ | refine b2i_f ?_); (try replace c6 := b2i_z.mp c6); (try replace c6 := b2i_e.mp c6); (try replace c13 := b2i_z.mp c13); (try replace c13 := b2i_e.mp c13); (try replace c20 := b2i_z.mp c20); (try replace c20 := b2i_e.mp c20); simp only [isBh, isFg, isPC] at *; omega)
set_option maxRecDepth 100000 in
set_option maxHeartbeats 4000000 in
theorem ao_X0_isBehindFigures : AllOk yX0_isBehindFigures.cls cX0_isBehindFigures 2 1 21 (some .boolean) none pc_X0_isBehindFigures 0 cd_X0_isBehindFigures := ⟨s_aload_n (k := 0) (by decide +kernel) rfl rfl, ⟨s_iload_n (k := 1) (by decide +kernel) rfl rfl, ⟨s_iconst (by decide +kernel) rfl ⟨by decide, by decide⟩, ⟨s_sub (by decide +kernel) rfl, ⟨s_callV (C := RX0) (T := TX0) (N := 8) rfl ct_X0_signAt (by decide) (by decide) ⟨rfl, by decide +kernel, by decide +kernel, by decide +kernel⟩ tw_2_129 tw_2_130 tw_2_131 tw_1_2 tw_2_132 (by decide +kernel) rfl, ⟨s_callN ct_X6_isFigure (by decide) (by decide) ⟨by decide +kernel, by decide +kernel, by decide +kernel⟩ ni_8 tw_2_96 tw_1_1 tw_2_97 (by decide +kernel) rfl, ⟨s_ifne (off := (29)) (by decide +kernel) rfl rfl, ⟨s_aload_n (k := 0) (by decide +kernel) rfl rfl, ⟨s_iload_n (k := 1) (by decide +kernel) rfl rfl, ⟨s_iconst (by decide +kernel) rfl ⟨by decide, by decide⟩, ⟨s_sub (by decide +kernel) rfl, ⟨s_callV (C := RX0) (T := TX0) (N := 8) rfl ct_X0_signAt (by decide) (by decide) ⟨rfl, by decide +kernel, by decide +kernel, by decide +kernel⟩ tw_2_129 tw_2_130 tw_2_131 tw_1_2 tw_2_132 (by decide +kernel) rfl, ⟨s_callN ct_X6_isPointOrComma (by decide) (by decide) ⟨by decide +kernel, by decide +kernel, by decide +kernel⟩ ni_9 tw_2_99 tw_1_1 tw_2_100 (by decide +kernel) rfl, ⟨s_ifeq (off := (20)) (by decide +kernel) rfl rfl, ⟨s_aload_n (k := 0) (by decide +kernel) rfl rfl, ⟨s_iload_n (k := 1) (by decide +kernel) rfl rfl, ⟨s_iconst (by decide +kernel) rfl ⟨by decide, by decide⟩, ⟨s_sub (by decide +kernel) rfl, ⟨s_callV (C := RX0) (T := TX0) (N := 8) rfl ct_X0_signAt (by decide) (by decide) ⟨rfl, by decide +kernel, by decide +kernel, by decide +kernel⟩ tw_2_129 tw_2_130 tw_2_131 tw_1_2 tw_2_132 (by decide +kernel) rfl, ⟨s_callN ct_X6_isFigure (by decide) (by decide) ⟨by decide +kernel, by decide +kernel, by decide +kernel⟩ ni_8 tw_2_96 tw_1_1 tw_2_97 (by decide +kernel) rfl, ⟨s_ifeq (off := (7)) (by decide +kernel) rfl rfl, ⟨s_iconst (by decide +kernel) rfl ⟨by decide, by decide⟩, ⟨s_goto (off := (4)) (by decide +kernel) rfl, ⟨s_iconst (by decide +kernel) rfl ⟨by decide, by decide⟩, ⟨s_zret rfl (by decide +kernel), trivial⟩⟩⟩⟩⟩⟩⟩⟩⟩⟩⟩⟩⟩⟩⟩⟩⟩⟩⟩⟩⟩⟩⟩⟩⟩
theorem ct_X0_isBehindFigures : Ctr yX0_isBehindFigures cX0_isBehindFigures 2 (some .boolean) 1 21 sp_X0_isBehindFigures := by
  refine ctr_of (by decide +kernel) ao_X0_isBehindFigures rfl ?_
  rintro av M Ret ⟨i, rfl, hp, hR⟩ hok hM
  exact ⟨Nat.le_of_ble_eq_true rfl, fun Z hZ => b_X0_isBehindFigures  i (hok _ (List.mem_of_getElem? (i := 1) rfl)) M Ret hp hR hM Z hZ⟩
def sp_X0_copyFrom : SP := fun av M Ret => ∃ t o : Nat, av = [mr t, mr o] ∧ (isBk t ∧ isBk o ∧ (t = o ∨ t + 5 ≤ o ∨ o + 5 ≤ t)) ∧ (∀ M2 : Mem, (cpB t o M M2) → Ret none M2)
theorem k_X0_copyFrom {code : List Sem} {Z : KZ} {Ret : KR} {ls : List (Option MV)} {M : Mem} {r : List MV} (hZ : Sim code Z Ret) (ip np : Nat) {t o : Nat}  (hc : code[ip]? = some (I_callV 0 1 sp_X0_copyFrom)) (hn : ip + 1 = np) (h3 : catS r ≤ 8) {q : Nat × List Nat} (hs : shp[t]? = some (.inl q)) (hq : q.1 = 0) (hp : isBk t ∧ isBk o ∧ (t = o ∨ t + 5 ≤ o ∨ o + 5 ≤ t)) (kz : ∀ M2 : Mem, (cpB t o M M2) → Z np ls r M2) : Z ip ls (mr o :: mr t :: r) M := w_callV1 hZ ip np hc hn hs hq h3 ⟨_, _, rfl, hp, fun M2 h => kz M2 h⟩
def cd_X0_copyFrom : List Sem := [I_aload 0, I_aload 1, I_get 0 4, I_puti 0 4, I_aload 0, I_aload 1, I_get 0 5, I_puti 0 5, I_aload 0, I_aload 1, I_get 0 6, I_puti 0 6, I_aload 0, I_aload 1, I_get 0 7, I_puti 0 7, I_aload 1, I_get 0 0, I_const (0), I_aload 0, I_get 0 0, I_const (0), I_const (12), I_copy, I_aload 1, I_get 0 1, I_const (0), I_aload 0, I_get 0 1, I_const (0), I_const (12), I_copy, I_aload 1, I_get 0 2, I_const (0), I_aload 0, I_get 0 2, I_const (0), I_const (12), I_copy, I_aload 1, I_get 0 3, I_const (0), I_aload 0, I_get 0 3, I_const (0), I_const (120), I_copy, I_vret]
def pc_X0_copyFrom : List Nat := [0, 1, 2, 5, 8, 9, 10, 13, 16, 17, 18, 21, 24, 25, 26, 29, 32, 33, 36, 37, 38, 41, 42, 44, 47, 48, 51, 52, 53, 56, 57, 59, 62, 63, 66, 67, 68, 71, 72, 74, 77, 78, 81, 82, 83, 86, 87, 89, 92]
set_option maxRecDepth 100000 in
set_option maxHeartbeats 4000000 in
theorem b_X0_copyFrom (t o : Nat)  (M : Mem) (Ret : KR) (hp : isBk t ∧ isBk o ∧ (t = o ∨ t + 5 ≤ o ∨ o + 5 ≤ t)) (hR : ∀ M2 : Mem, (cpB t o M M2) → Ret none M2) (hM : MOk M) (Z : KZ) (hZ : Sim cd_X0_copyFrom Z Ret) : Z 0 [some (mr t), some (mr o)] [] M := by
  obtain ⟨hT, hO, hd⟩ := hp
  refine w_aload hZ 0 1 rfl rfl rfl ?_
  refine w_aload hZ 1 2 rfl rfl rfl ?_
  refine w_geti hZ 2 3 rfl rfl hO.1 rfl rfl ?_
  refine w_puti hZ 3 4 rfl rfl hT.1 rfl rfl ?_
  refine w_aload hZ 4 5 rfl rfl rfl ?_
  refine w_aload hZ 5 6 rfl rfl rfl ?_
  refine w_getiv hZ 6 7 rfl rfl hO.1 rfl rfl (v := M o 5) (by rw [mup_at, if_neg (by omega)]) ?_
  refine w_puti hZ 7 8 rfl rfl hT.1 rfl rfl ?_
  refine w_aload hZ 8 9 rfl rfl rfl ?_
  refine w_aload hZ 9 10 rfl rfl rfl ?_
  refine w_getiv hZ 10 11 rfl rfl hO.1 rfl rfl (v := M o 6) (by rw [mup_at, if_neg (by omega), mup_at, if_neg (by omega)]) ?_
  refine w_puti hZ 11 12 rfl rfl hT.1 rfl rfl ?_
  refine w_aload hZ 12 13 rfl rfl rfl ?_
  refine w_aload hZ 13 14 rfl rfl rfl ?_
  refine w_getiv hZ 14 15 rfl rfl hO.1 rfl rfl (v := M o 7) (by rw [mup_at, if_neg (by omega), mup_at, if_neg (by omega), mup_at, if_neg (by omega)]) ?_
  refine w_puti hZ 15 16 rfl rfl hT.1 rfl rfl ?_
  refine gen_mem (P := fun N => N t 4 = M o 4 ∧ N t 5 = M o 5 ∧ N t 6 = M o 6 ∧ N t 7 = M o 7 ∧ ∀ k, k ≠ t → N k = M k) ⟨by simp [mup_at], by simp [mup_at], by simp [mup_at], by simp [mup_at], fun k hk => by funext j; simp [mup_at, hk]⟩ (fun N0 hN0 => ?_)
  refine w_aload hZ 16 17 rfl rfl rfl ?_
  refine w_getr hZ 17 18 rfl rfl hO.1 rfl rfl ?_
  refine w_const hZ 18 19 rfl rfl  ?_
  refine w_aload hZ 19 20 rfl rfl rfl ?_
  refine w_getr hZ 20 21 rfl rfl hT.1 rfl rfl ?_
  refine w_const hZ 21 22 rfl rfl  ?_
  refine w_const hZ 22 23 rfl rfl  ?_
  refine w_copy hZ 23 24 rfl rfl hO.2.1 hT.2.1 (by omega) (by omega) (by omega) (by omega) (by omega) (Nat.le_of_ble_eq_true rfl) ?_
  refine gen_mem (P := fun N => (∀ j, j < 12 → N (t + 1) j = N0 (o + 1) j) ∧ ∀ k, k ≠ t + 1 → N k = N0 k) ⟨fun j hj => ?_, fun k hk => srow_ne _ _ hk⟩ (fun N1 hN1 => ?_)
  · rw [srow_same]
    unfold cpyR
    rw [if_pos ⟨Nat.zero_le _, by simp; omega⟩]
    simp
  refine w_aload hZ 24 25 rfl rfl rfl ?_
  refine w_getr hZ 25 26 rfl rfl hO.1 rfl rfl ?_
  refine w_const hZ 26 27 rfl rfl  ?_
  refine w_aload hZ 27 28 rfl rfl rfl ?_
  refine w_getr hZ 28 29 rfl rfl hT.1 rfl rfl ?_
  refine w_const hZ 29 30 rfl rfl  ?_
  refine w_const hZ 30 31 rfl rfl  ?_
  refine w_copy hZ 31 32 rfl rfl hO.2.2.1 hT.2.2.1 (by omega) (by omega) (by omega) (by omega) (by omega) (Nat.le_of_ble_eq_true rfl) ?_
  refine gen_mem (P := fun N => (∀ j, j < 12 → N (t + 2) j = N1 (o + 2) j) ∧ ∀ k, k ≠ t + 2 → N k = N1 k) ⟨fun j hj => ?_, fun k hk => srow_ne _ _ hk⟩ (fun N2 hN2 => ?_)
  · rw [srow_same]
    unfold cpyR
    rw [if_pos ⟨Nat.zero_le _, by simp; omega⟩]
    simp
  refine w_aload hZ 32 33 rfl rfl rfl ?_
  refine w_getr hZ 33 34 rfl rfl hO.1 rfl rfl ?_
  refine w_const hZ 34 35 rfl rfl  ?_
  refine w_aload hZ 35 36 rfl rfl rfl ?_
  refine w_getr hZ 36 37 rfl rfl hT.1 rfl rfl ?_
  refine w_const hZ 37 38 rfl rfl  ?_
  refine w_const hZ 38 39 rfl rfl  ?_
  refine w_copy hZ 39 40 rfl rfl hO.2.2.2.1 hT.2.2.2.1 (by omega) (by omega) (by omega) (by omega) (by omega) (Nat.le_of_ble_eq_true rfl) ?_
  refine gen_mem (P := fun N => (∀ j, j < 12 → N (t + 3) j = N2 (o + 3) j) ∧ ∀ k, k ≠ t + 3 → N k = N2 k) ⟨fun j hj => ?_, fun k hk => srow_ne _ _ hk⟩ (fun N3 hN3 => ?_)
  · rw [srow_same]
    unfold cpyR
    rw [if_pos ⟨Nat.zero_le _, by simp; omega⟩]
    simp
  refine w_aload hZ 40 41 rfl rfl rfl ?_
  refine w_getr hZ 41 42 rfl rfl hO.1 rfl rfl ?_
  refine w_const hZ 42 43 rfl rfl  ?_
  refine w_aload hZ 43 44 rfl rfl rfl ?_
  refine w_getr hZ 44 45 rfl rfl hT.1 rfl rfl ?_
  refine w_const hZ 45 46 rfl rfl  ?_
  refine w_const hZ 46 47 rfl rfl  ?_
  refine w_copy hZ 47 48 rfl rfl hO.2.2.2.2 hT.2.2.2.2 (by omega) (by omega) (by omega) (by omega) (by omega) (Nat.le_of_ble_eq_true rfl) ?_
  refine w_vret hZ 48 rfl ?_
  refine gen_mem' (Ret := Ret) (P := fun N => (∀ j, j < 120 → N (t + 4) j = N3 (o + 4) j) ∧ ∀ k, k ≠ t + 4 → N k = N3 k) ⟨fun j hj => ?_, fun k hk => srow_ne _ _ hk⟩ (fun N4 hN4 => ?_)
  · rw [srow_same]
    unfold cpyR
    rw [if_pos ⟨Nat.zero_le _, by simp; omega⟩]
    simp
  obtain ⟨a4, a5, a6, a7, a0⟩ := hN0
  have r0 : N4 t = N0 t := by rw [hN4.2 t (by omega), hN3.2 t (by omega), hN2.2 t (by omega), hN1.2 t (by omega)]
  refine hR _ ⟨by rw [r0]; exact a4, by rw [r0]; exact a5, by rw [r0]; exact a6, by rw [r0]; exact a7, fun j hj => ?_, fun j hj => ?_, fun j hj => ?_, fun j hj => ?_, fun k hk => ?_⟩
  · rw [hN4.2 _ (by omega), hN3.2 _ (by omega), hN2.2 _ (by omega), hN1.1 j hj, a0 _ (by omega)]
  · rw [hN4.2 _ (by omega), hN3.2 _ (by omega), hN2.1 j hj, hN1.2 _ (by omega), a0 _ (by omega)]
  · rw [hN4.2 _ (by omega), hN3.1 j hj, hN2.2 _ (by omega), hN1.2 _ (by omega), a0 _ (by omega)]
  · rw [hN4.1 j hj, hN3.2 _ (by omega), hN2.2 _ (by omega), hN1.2 _ (by omega), a0 _ (by omega)]
  · rw [hN4.2 _ (by omega), hN3.2 _ (by omega), hN2.2 _ (by omega), hN1.2 _ (by omega), a0 _ (by omega)]
set_option maxRecDepth 100000 in
set_option maxHeartbeats 4000000 in
theorem ao_X0_copyFrom : AllOk yX0_copyFrom.cls cX0_copyFrom 2 1 26 none none pc_X0_copyFrom 0 cd_X0_copyFrom := ⟨s_aload_n (k := 0) (by decide +kernel) rfl rfl, ⟨s_aload_n (k := 1) (by decide +kernel) rfl rfl, ⟨s_get (C := RX0) (T := TX0) (N := 8) rfl inT0 (by decide) tw_1_36 (by decide +kernel) rfl, ⟨s_puti (C := RX0) (T := TX0) (N := 8) (tyf := tyX0) rfl inT0 tyX0_ok nmX0 (by decide) rfl rfl tw_1_36 (by decide +kernel) rfl, ⟨s_aload_n (k := 0) (by decide +kernel) rfl rfl, ⟨s_aload_n (k := 1) (by decide +kernel) rfl rfl, ⟨s_get (C := RX0) (T := TX0) (N := 8) rfl inT0 (by decide) tw_1_38 (by decide +kernel) rfl, ⟨s_puti (C := RX0) (T := TX0) (N := 8) (tyf := tyX0) rfl inT0 tyX0_ok nmX0 (by decide) rfl rfl tw_1_38 (by decide +kernel) rfl, ⟨s_aload_n (k := 0) (by decide +kernel) rfl rfl, ⟨s_aload_n (k := 1) (by decide +kernel) rfl rfl, ⟨s_get (C := RX0) (T := TX0) (N := 8) rfl inT0 (by decide) tw_1_41 (by decide +kernel) rfl, ⟨s_puti (C := RX0) (T := TX0) (N := 8) (tyf := tyX0) rfl inT0 tyX0_ok nmX0 (by decide) rfl rfl tw_1_41 (by decide +kernel) rfl, ⟨s_aload_n (k := 0) (by decide +kernel) rfl rfl, ⟨s_aload_n (k := 1) (by decide +kernel) rfl rfl, ⟨s_get (C := RX0) (T := TX0) (N := 8) rfl inT0 (by decide) tw_1_43 (by decide +kernel) rfl, ⟨s_puti (C := RX0) (T := TX0) (N := 8) (tyf := tyX0) rfl inT0 tyX0_ok nmX0 (by decide) rfl rfl tw_1_43 (by decide +kernel) rfl, ⟨s_aload_n (k := 1) (by decide +kernel) rfl rfl, ⟨s_get (C := RX0) (T := TX0) (N := 8) rfl inT0 (by decide) tw_1_25 (by decide +kernel) rfl, ⟨s_iconst (by decide +kernel) rfl ⟨by decide, by decide⟩, ⟨s_aload_n (k := 0) (by decide +kernel) rfl rfl, ⟨s_get (C := RX0) (T := TX0) (N := 8) rfl inT0 (by decide) tw_1_25 (by decide +kernel) rfl, ⟨s_iconst (by decide +kernel) rfl ⟨by decide, by decide⟩, ⟨s_bipush (by decide +kernel) rfl ⟨by decide, by decide⟩ (by decide +kernel), ⟨s_copy tw_2_25 tw_2_27 tw_2_26 tw_1_9 (by decide) (by decide) (by decide +kernel) rfl, ⟨s_aload_n (k := 1) (by decide +kernel) rfl rfl, ⟨s_get (C := RX0) (T := TX0) (N := 8) rfl inT0 (by decide) tw_1_29 (by decide +kernel) rfl, ⟨s_iconst (by decide +kernel) rfl ⟨by decide, by decide⟩, ⟨s_aload_n (k := 0) (by decide +kernel) rfl rfl, ⟨s_get (C := RX0) (T := TX0) (N := 8) rfl inT0 (by decide) tw_1_29 (by decide +kernel) rfl, ⟨s_iconst (by decide +kernel) rfl ⟨by decide, by decide⟩, ⟨s_bipush (by decide +kernel) rfl ⟨by decide, by decide⟩ (by decide +kernel), ⟨s_copy tw_2_25 tw_2_27 tw_2_26 tw_1_9 (by decide) (by decide) (by decide +kernel) rfl, ⟨s_aload_n (k := 1) (by decide +kernel) rfl rfl, ⟨s_get (C := RX0) (T := TX0) (N := 8) rfl inT0 (by decide) tw_1_32 (by decide +kernel) rfl, ⟨s_iconst (by decide +kernel) rfl ⟨by decide, by decide⟩, ⟨s_aload_n (k := 0) (by decide +kernel) rfl rfl, ⟨s_get (C := RX0) (T := TX0) (N := 8) rfl inT0 (by decide) tw_1_32 (by decide +kernel) rfl, ⟨s_iconst (by decide +kernel) rfl ⟨by decide, by decide⟩, ⟨s_bipush (by decide +kernel) rfl ⟨by decide, by decide⟩ (by decide +kernel), ⟨s_copy tw_2_25 tw_2_27 tw_2_26 tw_1_9 (by decide) (by decide) (by decide +kernel) rfl, ⟨s_aload_n (k := 1) (by decide +kernel) rfl rfl, ⟨s_get (C := RX0) (T := TX0) (N := 8) rfl inT0 (by decide) tw_1_35 (by decide +kernel) rfl, ⟨s_iconst (by decide +kernel) rfl ⟨by decide, by decide⟩, ⟨s_aload_n (k := 0) (by decide +kernel) rfl rfl, ⟨s_get (C := RX0) (T := TX0) (N := 8) rfl inT0 (by decide) tw_1_35 (by decide +kernel) rfl, ⟨s_iconst (by decide +kernel) rfl ⟨by decide, by decide⟩, ⟨s_bipush (by decide +kernel) rfl ⟨by decide, by decide⟩ (by decide +kernel), ⟨s_copy tw_2_25 tw_2_27 tw_2_26 tw_1_9 (by decide) (by decide) (by decide +kernel) rfl, ⟨s_vret rfl (by decide +kernel), trivial⟩⟩⟩⟩⟩⟩⟩⟩⟩⟩⟩⟩⟩⟩⟩⟩⟩⟩⟩⟩⟩⟩⟩⟩⟩⟩⟩⟩⟩⟩⟩⟩⟩⟩⟩⟩⟩⟩⟩⟩⟩⟩⟩⟩⟩⟩⟩⟩⟩
theorem ct_X0_copyFrom : Ctr yX0_copyFrom cX0_copyFrom 2 none 1 26 sp_X0_copyFrom := by
  refine ctr_of (by decide +kernel) ao_X0_copyFrom rfl ?_
  rintro av M Ret ⟨t, o, rfl, hp, hR⟩ hok hM
  exact ⟨Nat.le_of_ble_eq_true rfl, fun Z hZ => b_X0_copyFrom t o  M Ret hp hR hM Z hZ⟩
end
section
/-! History, Lots -/
abbrev Hx (M : Mem) : Prop := 0 ≤ M 6 1 ∧ M 6 1 < 8 ∧ 0 ≤ M 6 2 ∧ M 6 2 ≤ 8
theorem isBk_1 : isBk 1 := ⟨rfl, rfl, rfl, rfl, rfl⟩
theorem isBk_23 : isBk 23 := ⟨rfl, rfl, rfl, rfl, rfl⟩
theorem isBk_28 : isBk 28 := ⟨rfl, rfl, rfl, rfl, rfl⟩
theorem isBk_33 : isBk 33 := ⟨rfl, rfl, rfl, rfl, rfl⟩
theorem isBk_38 : isBk 38 := ⟨rfl, rfl, rfl, rfl, rfl⟩
theorem isBk_43 : isBk 43 := ⟨rfl, rfl, rfl, rfl, rfl⟩
theorem isBk_48 : isBk 48 := ⟨rfl, rfl, rfl, rfl, rfl⟩
theorem isBk_53 : isBk 53 := ⟨rfl, rfl, rfl, rfl, rfl⟩
theorem isBk_58 : isBk 58 := ⟨rfl, rfl, rfl, rfl, rfl⟩
theorem isBk_63 : isBk 63 := ⟨rfl, rfl, rfl, rfl, rfl⟩
theorem isBk_68 : isBk 68 := ⟨rfl, rfl, rfl, rfl, rfl⟩
/-- the past's book number i (0 .. 7) stands from this cell on -/
def pb (i : Int) : Nat := 23 + 5 * i.toNat
/-- remember(now): the book at 'next' becomes now's, next and count go on -/
def remB (M M2 : Mem) : Prop := (∃ N, cpB (pb (M 6 1)) 1 M N ∧ M2 = mup (mup N 6 1 ((M 6 1 + 1) % 8)) 6 2 (if 8 < M 6 2 + 1 then 8 else M 6 2 + 1))
/-- takeBack(now) -/
def tkB (M M2 : Mem) : Prop := if M 6 2 ≤ 0 then M2 = M else cpB 1 (pb ((M 6 1 + 8 - 1) % 8)) (mup (mup M 6 1 ((M 6 1 + 8 - 1) % 8)) 6 2 (M 6 2 - 1)) M2
def sp_X1_remember : SP := fun av M Ret => av = [mr 6, mr 1] ∧ (Hx M) ∧ (∀ M2 : Mem, (remB M M2) → Ret none M2)
theorem k_X1_remember {code : List Sem} {Z : KZ} {Ret : KR} {ls : List (Option MV)} {M : Mem} {r : List MV} (hZ : Sim code Z Ret) (ip np : Nat)  (hc : code[ip]? = some (I_callV 1 1 sp_X1_remember)) (hn : ip + 1 = np) (h3 : catS r ≤ 8)  (hp : Hx M) (kz : ∀ M2 : Mem, (remB M M2) → Z np ls r M2) : Z ip ls (mr 1 :: mr 6 :: r) M := w_callV1 hZ ip np hc hn rfl rfl h3 ⟨rfl, hp, fun M2 h => kz M2 h⟩
def cd_X1_remember : List Sem := [I_aload 0, I_get 1 0, I_aload 0, I_get 1 1, I_aald, I_aload 1, I_callV 0 1 sp_X0_copyFrom, I_aload 0, I_aload 0, I_get 1 1, I_const (1), I_add, I_const (8), I_rem, I_puti 1 1, I_aload 0, I_aload 0, I_get 1 2, I_const (1), I_add, I_const (8), I_min, I_puti 1 2, I_vret]
def pc_X1_remember : List Nat := [0, 1, 4, 5, 8, 9, 10, 13, 14, 15, 18, 19, 20, 22, 23, 26, 27, 28, 31, 32, 33, 35, 38, 41]
set_option maxRecDepth 100000 in
set_option maxHeartbeats 4000000 in
theorem b_X1_remember  (M : Mem) (Ret : KR) (hp : Hx M) (hR : ∀ M2 : Mem, (remB M M2) → Ret none M2) (hM : MOk M) (Z : KZ) (hZ : Sim cd_X1_remember Z Ret) : Z 0 [some (mr 6), some (mr 1)] [] M := by
  obtain ⟨h1, h2, h3, h4⟩ := hp
  have fin : ∀ N : Mem, cpB (pb (M 6 1)) 1 M N → Z 7 [some (mr 6), some (mr 1)] [] N := by
    intro N hN
    have e6 : N 6 = M 6 := hN.2.2.2.2.2.2.2.2 6 (Or.inl (by unfold pb; omega))
    have e61 : N 6 1 = M 6 1 := by rw [e6]
    have e62 : N 6 2 = M 6 2 := by rw [e6]
    refine w_aload hZ 7 8 rfl rfl rfl ?_
    refine w_aload hZ 8 9 rfl rfl rfl ?_
    refine w_getiv hZ 9 10 rfl rfl rfl rfl rfl (v := M 6 1) e61 ?_
    refine w_const hZ 10 11 rfl rfl  ?_
    refine w_add hZ 11 12 rfl rfl (by unfold InR; omega) ?_
    refine w_const hZ 12 13 rfl rfl  ?_
    refine w_rem hZ 13 14 rfl rfl (by omega) (by omega) ?_
    refine w_puti hZ 14 15 rfl rfl rfl rfl rfl ?_
    refine w_aload hZ 15 16 rfl rfl rfl ?_
    refine w_aload hZ 16 17 rfl rfl rfl ?_
    refine w_getiv hZ 17 18 rfl rfl rfl rfl rfl (v := M 6 2) e62 ?_
    refine w_const hZ 18 19 rfl rfl  ?_
    refine w_add hZ 19 20 rfl rfl (by unfold InR; omega) ?_
    refine w_const hZ 20 21 rfl rfl  ?_
    refine w_min hZ 21 22 rfl rfl (Nat.le_of_ble_eq_true rfl) ?_
    refine w_puti hZ 22 23 rfl rfl rfl rfl rfl ?_
    refine w_vret hZ 23 rfl ?_
    exact hR _ ⟨N, hN, rfl⟩
  refine w_aload hZ 0 1 rfl rfl rfl ?_
  refine w_getr hZ 1 2 rfl rfl rfl rfl rfl ?_
  refine w_aload hZ 2 3 rfl rfl rfl ?_
  refine w_geti hZ 3 4 rfl rfl rfl rfl rfl ?_
  refine w_aald8 hZ 4 5 rfl rfl rfl h1 h2 (fun c => ?_) (fun c => ?_) (fun c => ?_) (fun c => ?_) (fun c => ?_) (fun c => ?_) (fun c => ?_) (fun c => ?_)
  · refine w_aload hZ 5 6 rfl rfl rfl ?_
    refine k_X0_copyFrom hZ 6 7 rfl rfl (Nat.le_of_ble_eq_true rfl) rfl rfl ⟨isBk_23, isBk_1, by omega⟩ (fun N p => fin N ?_)
    rw [c]; exact p
  · refine w_aload hZ 5 6 rfl rfl rfl ?_
    refine k_X0_copyFrom hZ 6 7 rfl rfl (Nat.le_of_ble_eq_true rfl) rfl rfl ⟨isBk_28, isBk_1, by omega⟩ (fun N p => fin N ?_)
    rw [c]; exact p
  · refine w_aload hZ 5 6 rfl rfl rfl ?_
    refine k_X0_copyFrom hZ 6 7 rfl rfl (Nat.le_of_ble_eq_true rfl) rfl rfl ⟨isBk_33, isBk_1, by omega⟩ (fun N p => fin N ?_)
    rw [c]; exact p
  · refine w_aload hZ 5 6 rfl rfl rfl ?_
    refine k_X0_copyFrom hZ 6 7 rfl rfl (Nat.le_of_ble_eq_true rfl) rfl rfl ⟨isBk_38, isBk_1, by omega⟩ (fun N p => fin N ?_)
    rw [c]; exact p
  · refine w_aload hZ 5 6 rfl rfl rfl ?_
    refine k_X0_copyFrom hZ 6 7 rfl rfl (Nat.le_of_ble_eq_true rfl) rfl rfl ⟨isBk_43, isBk_1, by omega⟩ (fun N p => fin N ?_)
    rw [c]; exact p
  · refine w_aload hZ 5 6 rfl rfl rfl ?_
    refine k_X0_copyFrom hZ 6 7 rfl rfl (Nat.le_of_ble_eq_true rfl) rfl rfl ⟨isBk_48, isBk_1, by omega⟩ (fun N p => fin N ?_)
    rw [c]; exact p
  · refine w_aload hZ 5 6 rfl rfl rfl ?_
    refine k_X0_copyFrom hZ 6 7 rfl rfl (Nat.le_of_ble_eq_true rfl) rfl rfl ⟨isBk_53, isBk_1, by omega⟩ (fun N p => fin N ?_)
    rw [c]; exact p
  · refine w_aload hZ 5 6 rfl rfl rfl ?_
    refine k_X0_copyFrom hZ 6 7 rfl rfl (Nat.le_of_ble_eq_true rfl) rfl rfl ⟨isBk_58, isBk_1, by omega⟩ (fun N p => fin N ?_)
    rw [c]; exact p
set_option maxRecDepth 100000 in
set_option maxHeartbeats 4000000 in
theorem ao_X1_remember : AllOk yX1_remember.cls cX1_remember 2 2 47 none none pc_X1_remember 0 cd_X1_remember := ⟨s_aload_n (k := 0) (by decide +kernel) rfl rfl, ⟨s_get (C := RX1) (T := TX1) (N := 3) rfl inT1 (by decide) tw_1_72 (by decide +kernel) rfl, ⟨s_aload_n (k := 0) (by decide +kernel) rfl rfl, ⟨s_get (C := RX1) (T := TX1) (N := 3) rfl inT1 (by decide) tw_1_73 (by decide +kernel) rfl, ⟨s_aald (by decide +kernel) rfl, ⟨s_aload_n (k := 1) (by decide +kernel) rfl rfl, ⟨s_callV (C := RX0) (T := TX0) (N := 8) rfl ct_X0_copyFrom (by decide) (by decide) ⟨rfl, by decide +kernel, by decide +kernel, by decide +kernel⟩ tw_2_21 tw_2_22 tw_2_23 tw_1_2 tw_2_24 (by decide +kernel) rfl, ⟨s_aload_n (k := 0) (by decide +kernel) rfl rfl, ⟨s_aload_n (k := 0) (by decide +kernel) rfl rfl, ⟨s_get (C := RX1) (T := TX1) (N := 3) rfl inT1 (by decide) tw_1_73 (by decide +kernel) rfl, ⟨s_iconst (by decide +kernel) rfl ⟨by decide, by decide⟩, ⟨s_add (by decide +kernel) rfl, ⟨s_bipush (by decide +kernel) rfl ⟨by decide, by decide⟩ (by decide +kernel), ⟨s_rem (by decide +kernel) rfl, ⟨s_puti (C := RX1) (T := TX1) (N := 3) (tyf := tyX1) rfl inT1 tyX1_ok nmX1 (by decide) rfl rfl tw_1_73 (by decide +kernel) rfl, ⟨s_aload_n (k := 0) (by decide +kernel) rfl rfl, ⟨s_aload_n (k := 0) (by decide +kernel) rfl rfl, ⟨s_get (C := RX1) (T := TX1) (N := 3) rfl inT1 (by decide) tw_1_74 (by decide +kernel) rfl, ⟨s_iconst (by decide +kernel) rfl ⟨by decide, by decide⟩, ⟨s_add (by decide +kernel) rfl, ⟨s_bipush (by decide +kernel) rfl ⟨by decide, by decide⟩ (by decide +kernel), ⟨s_min tw_2_28 tw_2_29 tw_1_10 tw_2_30 (by decide) (by decide) (by decide +kernel) rfl, ⟨s_puti (C := RX1) (T := TX1) (N := 3) (tyf := tyX1) rfl inT1 tyX1_ok nmX1 (by decide) rfl rfl tw_1_74 (by decide +kernel) rfl, ⟨s_vret rfl (by decide +kernel), trivial⟩⟩⟩⟩⟩⟩⟩⟩⟩⟩⟩⟩⟩⟩⟩⟩⟩⟩⟩⟩⟩⟩⟩⟩
theorem ct_X1_remember : Ctr yX1_remember cX1_remember 2 none 2 47 sp_X1_remember := by
  refine ctr_of (by decide +kernel) ao_X1_remember rfl ?_
  rintro av M Ret ⟨rfl, hp, hR⟩ hok hM
  exact ⟨Nat.le_of_ble_eq_true rfl, fun Z hZ => b_X1_remember   M Ret hp hR hM Z hZ⟩
def sp_X1_takeBack : SP := fun av M Ret => av = [mr 6, mr 1] ∧ (Hx M) ∧ (∀ M2 : Mem, (tkB M M2) → Ret none M2)
theorem k_X1_takeBack {code : List Sem} {Z : KZ} {Ret : KR} {ls : List (Option MV)} {M : Mem} {r : List MV} (hZ : Sim code Z Ret) (ip np : Nat)  (hc : code[ip]? = some (I_callV 1 1 sp_X1_takeBack)) (hn : ip + 1 = np) (h3 : catS r ≤ 8)  (hp : Hx M) (kz : ∀ M2 : Mem, (tkB M M2) → Z np ls r M2) : Z ip ls (mr 1 :: mr 6 :: r) M := w_callV1 hZ ip np hc hn rfl rfl h3 ⟨rfl, hp, fun M2 h => kz M2 h⟩
def cd_X1_takeBack : List Sem := [I_aload 0, I_get 1 2, I_ifle 26, I_aload 0, I_aload 0, I_get 1 1, I_const (8), I_add, I_const (1), I_sub, I_const (8), I_rem, I_puti 1 1, I_aload 0, I_dup, I_get 1 2, I_const (1), I_sub, I_puti 1 2, I_aload 1, I_aload 0, I_get 1 0, I_aload 0, I_get 1 1, I_aald, I_callV 0 1 sp_X0_copyFrom, I_vret]
def pc_X1_takeBack : List Nat := [0, 1, 4, 7, 8, 9, 12, 14, 15, 16, 17, 19, 20, 23, 24, 25, 28, 29, 30, 33, 34, 35, 38, 39, 42, 43, 46]
set_option maxRecDepth 100000 in
set_option maxHeartbeats 4000000 in
theorem b_X1_takeBack  (M : Mem) (Ret : KR) (hp : Hx M) (hR : ∀ M2 : Mem, (tkB M M2) → Ret none M2) (hM : MOk M) (Z : KZ) (hZ : Sim cd_X1_takeBack Z Ret) : Z 0 [some (mr 6), some (mr 1)] [] M := by
  obtain ⟨h1, h2, h3, h4⟩ := hp
  refine w_aload hZ 0 1 rfl rfl rfl ?_
  refine w_geti hZ 1 2 rfl rfl rfl rfl rfl ?_
  refine w_ifle hZ 2 3 rfl rfl (fun c2 => ?_) (fun c2 => ?_)
  · refine w_vret hZ 26 rfl ?_
    exact hR _ (by unfold tkB; rw [if_pos c2])
  · refine w_aload hZ 3 4 rfl rfl rfl ?_
    refine w_aload hZ 4 5 rfl rfl rfl ?_
    refine w_geti hZ 5 6 rfl rfl rfl rfl rfl ?_
    refine w_const hZ 6 7 rfl rfl  ?_
    refine w_add hZ 7 8 rfl rfl (by unfold InR; omega) ?_
    refine w_const hZ 8 9 rfl rfl  ?_
    refine w_sub hZ 9 10 rfl rfl (by unfold InR; omega) ?_
    refine w_const hZ 10 11 rfl rfl  ?_
    refine w_rem hZ 11 12 rfl rfl (by omega) (by omega) ?_
    refine w_puti hZ 12 13 rfl rfl rfl rfl rfl ?_
    refine w_aload hZ 13 14 rfl rfl rfl ?_
    refine w_dup hZ 14 15 rfl rfl rfl ?_
    refine w_getiv hZ 15 16 rfl rfl rfl rfl rfl (v := M 6 2) rfl ?_
    refine w_const hZ 16 17 rfl rfl  ?_
    refine w_sub hZ 17 18 rfl rfl (by unfold InR; omega) ?_
    refine w_puti hZ 18 19 rfl rfl rfl rfl rfl ?_
    refine w_aload hZ 19 20 rfl rfl rfl ?_
    refine w_aload hZ 20 21 rfl rfl rfl ?_
    refine w_getr hZ 21 22 rfl rfl rfl rfl rfl ?_
    refine w_aload hZ 22 23 rfl rfl rfl ?_
    refine w_getiv hZ 23 24 rfl rfl rfl rfl rfl (v := (M 6 1 + 8 - 1) % 8) rfl ?_
    refine w_aald8 hZ 24 25 rfl rfl rfl (by omega) (by omega) (fun c => ?_) (fun c => ?_) (fun c => ?_) (fun c => ?_) (fun c => ?_) (fun c => ?_) (fun c => ?_) (fun c => ?_)
    · refine k_X0_copyFrom hZ 25 26 rfl rfl (Nat.le_of_ble_eq_true rfl) rfl rfl ⟨isBk_1, isBk_23, by omega⟩ (fun N p => ?_)
      refine w_vret hZ 26 rfl ?_
      refine hR _ ?_
      unfold tkB
      rw [c] at p
      rw [if_neg (by omega), c]
      exact p
    · refine k_X0_copyFrom hZ 25 26 rfl rfl (Nat.le_of_ble_eq_true rfl) rfl rfl ⟨isBk_1, isBk_28, by omega⟩ (fun N p => ?_)
      refine w_vret hZ 26 rfl ?_
      refine hR _ ?_
      unfold tkB
      rw [c] at p
      rw [if_neg (by omega), c]
      exact p
    · refine k_X0_copyFrom hZ 25 26 rfl rfl (Nat.le_of_ble_eq_true rfl) rfl rfl ⟨isBk_1, isBk_33, by omega⟩ (fun N p => ?_)
      refine w_vret hZ 26 rfl ?_
      refine hR _ ?_
      unfold tkB
      rw [c] at p
      rw [if_neg (by omega), c]
      exact p
    · refine k_X0_copyFrom hZ 25 26 rfl rfl (Nat.le_of_ble_eq_true rfl) rfl rfl ⟨isBk_1, isBk_38, by omega⟩ (fun N p => ?_)
      refine w_vret hZ 26 rfl ?_
      refine hR _ ?_
      unfold tkB
      rw [c] at p
      rw [if_neg (by omega), c]
      exact p
    · refine k_X0_copyFrom hZ 25 26 rfl rfl (Nat.le_of_ble_eq_true rfl) rfl rfl ⟨isBk_1, isBk_43, by omega⟩ (fun N p => ?_)
      refine w_vret hZ 26 rfl ?_
      refine hR _ ?_
      unfold tkB
      rw [c] at p
      rw [if_neg (by omega), c]
      exact p
    · refine k_X0_copyFrom hZ 25 26 rfl rfl (Nat.le_of_ble_eq_true rfl) rfl rfl ⟨isBk_1, isBk_48, by omega⟩ (fun N p => ?_)
      refine w_vret hZ 26 rfl ?_
      refine hR _ ?_
      unfold tkB
      rw [c] at p
      rw [if_neg (by omega), c]
      exact p
    · refine k_X0_copyFrom hZ 25 26 rfl rfl (Nat.le_of_ble_eq_true rfl) rfl rfl ⟨isBk_1, isBk_53, by omega⟩ (fun N p => ?_)
      refine w_vret hZ 26 rfl ?_
      refine hR _ ?_
      unfold tkB
      rw [c] at p
      rw [if_neg (by omega), c]
      exact p
    · refine k_X0_copyFrom hZ 25 26 rfl rfl (Nat.le_of_ble_eq_true rfl) rfl rfl ⟨isBk_1, isBk_58, by omega⟩ (fun N p => ?_)
      refine w_vret hZ 26 rfl ?_
      refine hR _ ?_
      unfold tkB
      rw [c] at p
      rw [if_neg (by omega), c]
      exact p
set_option maxRecDepth 100000 in
set_option maxHeartbeats 4000000 in
theorem ao_X1_takeBack : AllOk yX1_takeBack.cls cX1_takeBack 2 2 47 none none pc_X1_takeBack 0 cd_X1_takeBack := ⟨s_aload_n (k := 0) (by decide +kernel) rfl rfl, ⟨s_get (C := RX1) (T := TX1) (N := 3) rfl inT1 (by decide) tw_1_74 (by decide +kernel) rfl, ⟨s_ifle (off := (42)) (by decide +kernel) rfl rfl, ⟨s_aload_n (k := 0) (by decide +kernel) rfl rfl, ⟨s_aload_n (k := 0) (by decide +kernel) rfl rfl, ⟨s_get (C := RX1) (T := TX1) (N := 3) rfl inT1 (by decide) tw_1_73 (by decide +kernel) rfl, ⟨s_bipush (by decide +kernel) rfl ⟨by decide, by decide⟩ (by decide +kernel), ⟨s_add (by decide +kernel) rfl, ⟨s_iconst (by decide +kernel) rfl ⟨by decide, by decide⟩, ⟨s_sub (by decide +kernel) rfl, ⟨s_bipush (by decide +kernel) rfl ⟨by decide, by decide⟩ (by decide +kernel), ⟨s_rem (by decide +kernel) rfl, ⟨s_puti (C := RX1) (T := TX1) (N := 3) (tyf := tyX1) rfl inT1 tyX1_ok nmX1 (by decide) rfl rfl tw_1_73 (by decide +kernel) rfl, ⟨s_aload_n (k := 0) (by decide +kernel) rfl rfl, ⟨s_dup (by decide +kernel) rfl, ⟨s_get (C := RX1) (T := TX1) (N := 3) rfl inT1 (by decide) tw_1_74 (by decide +kernel) rfl, ⟨s_iconst (by decide +kernel) rfl ⟨by decide, by decide⟩, ⟨s_sub (by decide +kernel) rfl, ⟨s_puti (C := RX1) (T := TX1) (N := 3) (tyf := tyX1) rfl inT1 tyX1_ok nmX1 (by decide) rfl rfl tw_1_74 (by decide +kernel) rfl, ⟨s_aload_n (k := 1) (by decide +kernel) rfl rfl, ⟨s_aload_n (k := 0) (by decide +kernel) rfl rfl, ⟨s_get (C := RX1) (T := TX1) (N := 3) rfl inT1 (by decide) tw_1_72 (by decide +kernel) rfl, ⟨s_aload_n (k := 0) (by decide +kernel) rfl rfl, ⟨s_get (C := RX1) (T := TX1) (N := 3) rfl inT1 (by decide) tw_1_73 (by decide +kernel) rfl, ⟨s_aald (by decide +kernel) rfl, ⟨s_callV (C := RX0) (T := TX0) (N := 8) rfl ct_X0_copyFrom (by decide) (by decide) ⟨rfl, by decide +kernel, by decide +kernel, by decide +kernel⟩ tw_2_21 tw_2_22 tw_2_23 tw_1_2 tw_2_24 (by decide +kernel) rfl, ⟨s_vret rfl (by decide +kernel), trivial⟩⟩⟩⟩⟩⟩⟩⟩⟩⟩⟩⟩⟩⟩⟩⟩⟩⟩⟩⟩⟩⟩⟩⟩⟩⟩⟩
theorem ct_X1_takeBack : Ctr yX1_takeBack cX1_takeBack 2 none 2 47 sp_X1_takeBack := by
  refine ctr_of (by decide +kernel) ao_X1_takeBack rfl ?_
  rintro av M Ret ⟨rfl, hp, hR⟩ hok hM
  exact ⟨Nat.le_of_ble_eq_true rfl, fun Z hZ => b_X1_takeBack   M Ret hp hR hM Z hZ⟩
def sp_X1_forget : SP := fun av M Ret => av = [mr 6] ∧ (∀ M2 : Mem, (M2 = mup M 6 2 0) → Ret none M2)
theorem k_X1_forget {code : List Sem} {Z : KZ} {Ret : KR} {ls : List (Option MV)} {M : Mem} {r : List MV} (hZ : Sim code Z Ret) (ip np : Nat)  (hc : code[ip]? = some (I_callV 1 0 sp_X1_forget)) (hn : ip + 1 = np) (h3 : catS r ≤ 8)   (kz : ∀ M2 : Mem, (M2 = mup M 6 2 0) → Z np ls r M2) : Z ip ls (mr 6 :: r) M := w_callV0 hZ ip np hc hn rfl rfl h3 ⟨rfl, fun M2 h => kz M2 h⟩
def cd_X1_forget : List Sem := [I_aload 0, I_const (0), I_puti 1 2, I_vret]
def pc_X1_forget : List Nat := [0, 1, 2, 5]
set_option maxRecDepth 100000 in
set_option maxHeartbeats 4000000 in
theorem b_X1_forget  (M : Mem) (Ret : KR)  (hR : ∀ M2 : Mem, (M2 = mup M 6 2 0) → Ret none M2) (hM : MOk M) (Z : KZ) (hZ : Sim cd_X1_forget Z Ret) : Z 0 [some (mr 6)] [] M := by
  refine w_aload hZ 0 1 rfl rfl rfl ?_
  refine w_const hZ 1 2 rfl rfl  ?_
  refine w_puti hZ 2 3 rfl rfl rfl rfl rfl ?_
  refine w_vret hZ 3 rfl ?_
  exact hR _ rfl
set_option maxRecDepth 100000 in
set_option maxHeartbeats 4000000 in
theorem ao_X1_forget : AllOk yX1_forget.cls cX1_forget 1 0 0 none none pc_X1_forget 0 cd_X1_forget := ⟨s_aload_n (k := 0) (by decide +kernel) rfl rfl, ⟨s_iconst (by decide +kernel) rfl ⟨by decide, by decide⟩, ⟨s_puti (C := RX1) (T := TX1) (N := 3) (tyf := tyX1) rfl inT1 tyX1_ok nmX1 (by decide) rfl rfl tw_1_74 (by decide +kernel) rfl, ⟨s_vret rfl (by decide +kernel), trivial⟩⟩⟩⟩
theorem ct_X1_forget : Ctr yX1_forget cX1_forget 1 none 0 0 sp_X1_forget := by
  refine ctr_of (by decide +kernel) ao_X1_forget rfl ?_
  rintro av M Ret ⟨rfl, hR⟩ hok hM
  exact ⟨Nat.le_of_ble_eq_true rfl, fun Z hZ => b_X1_forget   M Ret  hR hM Z hZ⟩
def sp_X3_begin : SP := fun av M Ret => ∃ s : Int, av = [mr 22, mi s] ∧ (∀ M2 : Mem, (M2 = mup M 22 0 s) → Ret none M2)
theorem k_X3_begin {code : List Sem} {Z : KZ} {Ret : KR} {ls : List (Option MV)} {M : Mem} {r : List MV} (hZ : Sim code Z Ret) (ip np : Nat) {s : Int} (hc : code[ip]? = some (I_callV 3 1 sp_X3_begin)) (hn : ip + 1 = np) (h3 : catS r ≤ 8)   (kz : ∀ M2 : Mem, (M2 = mup M 22 0 s) → Z np ls r M2) : Z ip ls (mi s :: mr 22 :: r) M := w_callV1 hZ ip np hc hn rfl rfl h3 ⟨_, rfl, fun M2 h => kz M2 h⟩
def cd_X3_begin : List Sem := [I_aload 0, I_iload 1, I_i2l, I_putl 3 0, I_vret]
def pc_X3_begin : List Nat := [0, 1, 2, 3, 6]
set_option maxRecDepth 100000 in
set_option maxHeartbeats 4000000 in
theorem b_X3_begin (s : Int) (i_s : InR s) (M : Mem) (Ret : KR)  (hR : ∀ M2 : Mem, (M2 = mup M 22 0 s) → Ret none M2) (hM : MOk M) (Z : KZ) (hZ : Sim cd_X3_begin Z Ret) : Z 0 [some (mr 22), some (mi s)] [] M := by
  refine w_aload hZ 0 1 rfl rfl rfl ?_
  refine w_iload hZ 1 2 rfl rfl rfl ?_
  refine w_i2l hZ 2 3 rfl rfl  ?_
  refine w_putl hZ 3 4 rfl rfl rfl rfl rfl ?_
  refine w_vret hZ 4 rfl ?_
  exact hR _ rfl
set_option maxRecDepth 100000 in
set_option maxHeartbeats 4000000 in
theorem ao_X3_begin : AllOk yX3_begin.cls cX3_begin 2 0 0 none none pc_X3_begin 0 cd_X3_begin := ⟨s_aload_n (k := 0) (by decide +kernel) rfl rfl, ⟨s_iload_n (k := 1) (by decide +kernel) rfl rfl, ⟨s_i2l (by decide +kernel) rfl, ⟨s_putl (C := RX3) (T := TX3) (N := 1) (tyf := tyX3) rfl inT3 tyX3_ok nmX3 (by decide) rfl rfl tw_1_193 (by decide +kernel) rfl, ⟨s_vret rfl (by decide +kernel), trivial⟩⟩⟩⟩⟩
theorem ct_X3_begin : Ctr yX3_begin cX3_begin 2 none 0 0 sp_X3_begin := by
  refine ctr_of (by decide +kernel) ao_X3_begin rfl ?_
  rintro av M Ret ⟨s, rfl, hR⟩ hok hM
  exact ⟨Nat.le_of_ble_eq_true rfl, fun Z hZ => b_X3_begin  s (hok _ (List.mem_of_getElem? (i := 1) rfl)) M Ret  hR hM Z hZ⟩
def sp_X3_next : SP := fun av M Ret => av = [mr 22] ∧ (0 < M 22 0 ∧ M 22 0 < 2147483647) ∧ (∀ M2 : Mem, (M2 = mup M 22 0 (M 22 0 * 16807 % 2147483647)) → Ret (some (mi (M 22 0 * 16807 % 2147483647))) M2)
theorem k_X3_next {code : List Sem} {Z : KZ} {Ret : KR} {ls : List (Option MV)} {M : Mem} {r : List MV} (hZ : Sim code Z Ret) (ip np : Nat)  (hc : code[ip]? = some (I_callV 3 0 sp_X3_next)) (hn : ip + 1 = np) (h3 : catS r ≤ 8)  (hp : 0 < M 22 0 ∧ M 22 0 < 2147483647) (kz : ∀ M2 : Mem, (M2 = mup M 22 0 (M 22 0 * 16807 % 2147483647)) → Z np ls (mi (M 22 0 * 16807 % 2147483647) :: r) M2) : Z ip ls (mr 22 :: r) M := w_callV0 hZ ip np hc hn rfl rfl h3 ⟨rfl, hp, fun M2 h => kz M2 h⟩
def cd_X3_next : List Sem := [I_aload 0, I_aload 0, I_get 3 0, I_lconst (16807), I_lmul, I_lconst (2147483647), I_lrem, I_putl 3 0, I_aload 0, I_get 3 0, I_l2i, I_iret]
def pc_X3_next : List Nat := [0, 1, 2, 5, 8, 9, 12, 13, 16, 17, 20, 21]
set_option maxRecDepth 100000 in
set_option maxHeartbeats 4000000 in
theorem b_X3_next  (M : Mem) (Ret : KR) (hp : 0 < M 22 0 ∧ M 22 0 < 2147483647) (hR : ∀ M2 : Mem, (M2 = mup M 22 0 (M 22 0 * 16807 % 2147483647)) → Ret (some (mi (M 22 0 * 16807 % 2147483647))) M2) (hM : MOk M) (Z : KZ) (hZ : Sim cd_X3_next Z Ret) : Z 0 [some (mr 22)] [] M := by
  obtain ⟨h0, h1⟩ := hp
  refine w_aload hZ 0 1 rfl rfl rfl ?_
  refine w_aload hZ 1 2 rfl rfl rfl ?_
  refine w_getl hZ 2 3 rfl rfl rfl rfl rfl ?_
  refine w_lconst hZ 3 4 rfl rfl  ?_
  refine w_lmul hZ 4 5 rfl rfl (by unfold InL; omega) ?_
  refine w_lconst hZ 5 6 rfl rfl  ?_
  refine w_lrem hZ 6 7 rfl rfl (by omega) (by omega) ?_
  refine w_putl hZ 7 8 rfl rfl rfl rfl rfl ?_
  refine w_aload hZ 8 9 rfl rfl rfl ?_
  refine w_getl hZ 9 10 rfl rfl rfl rfl rfl ?_
  show Z 10 _ [ml (M 22 0 * 16807 % 2147483647)] _
  refine w_l2i hZ 10 11 rfl rfl (by unfold InR; omega) ?_
  refine w_iret hZ 11 rfl ?_
  exact hR _ rfl
set_option maxRecDepth 100000 in
set_option maxHeartbeats 4000000 in
theorem ao_X3_next : AllOk yX3_next.cls cX3_next 1 0 0 (some .int) none pc_X3_next 0 cd_X3_next := ⟨s_aload_n (k := 0) (by decide +kernel) rfl rfl, ⟨s_aload_n (k := 0) (by decide +kernel) rfl rfl, ⟨s_get (C := RX3) (T := TX3) (N := 1) rfl inT3 (by decide) tw_1_193 (by decide +kernel) rfl, ⟨s_ldc2 (v := (16807)) tw_2_77 (by decide +kernel) rfl ⟨by decide, by decide⟩ (by decide +kernel), ⟨s_lmul (by decide +kernel) rfl, ⟨s_ldc2 (v := (2147483647)) tw_2_78 (by decide +kernel) rfl ⟨by decide, by decide⟩ (by decide +kernel), ⟨s_lrem (by decide +kernel) rfl, ⟨s_putl (C := RX3) (T := TX3) (N := 1) (tyf := tyX3) rfl inT3 tyX3_ok nmX3 (by decide) rfl rfl tw_1_193 (by decide +kernel) rfl, ⟨s_aload_n (k := 0) (by decide +kernel) rfl rfl, ⟨s_get (C := RX3) (T := TX3) (N := 1) rfl inT3 (by decide) tw_1_193 (by decide +kernel) rfl, ⟨s_l2i (by decide +kernel) rfl, ⟨s_iret rfl (by decide +kernel), trivial⟩⟩⟩⟩⟩⟩⟩⟩⟩⟩⟩⟩
theorem ct_X3_next : Ctr yX3_next cX3_next 1 (some .int) 0 0 sp_X3_next := by
  refine ctr_of (by decide +kernel) ao_X3_next rfl ?_
  rintro av M Ret ⟨rfl, hp, hR⟩ hok hM
  exact ⟨Nat.le_of_ble_eq_true rfl, fun Z hZ => b_X3_next   M Ret hp hR hM Z hZ⟩
end
section
/-! PUT INTO CELLS: what a book's text becomes -/
/-- a fact that arithmetic is not to look into -/
def Hid (p : Prop) : Prop := p
theorem Hid.u {p : Prop} (h : Hid p) : p := h
def cut (n : Int) (f : Nat → Int) : Nat → Int := fun k => if (k : Int) < n then f k else 0
theorem cut_in {n : Int} {f : Nat → Int} {k : Nat} (h : (k : Int) < n) : cut n f k = f k := if_pos h
theorem cut_congr {n : Int} {f h : Nat → Int} (e : ∀ i : Nat, (i : Int) < n → f i = h i) : cut n f = cut n h := by
  funext i; unfold cut; split
  · exact e _ (by assumption)
  · rfl
theorem fIx_cut (f : Nat → Int) (c : Int) {n : Int} (hn : 0 ≤ n) : fIx (cut n f) c n = fIx f c n := fIx_congr c (fun i h => cut_in h) hn
/-- a book: how many signs, the sign at a place, how many RULES, their CODES, CELLS, KINDS, W, P -/
abbrev BV : Type := Int × (Int → Int) × Int × (Nat → Int) × (Nat → Int) × (Nat → Int) × Int × Int
abbrev vN (V : BV) : Int := V.1
abbrev vS (V : BV) : Int → Int := V.2.1
abbrev vR (V : BV) : Int := V.2.2.1
abbrev vC' (V : BV) : Nat → Int := V.2.2.2.1
abbrev vE (V : BV) : Nat → Int := V.2.2.2.2.1
abbrev vK (V : BV) : Nat → Int := V.2.2.2.2.2.1
abbrev vW (V : BV) : Int := V.2.2.2.2.2.2.1
abbrev vP (V : BV) : Int := V.2.2.2.2.2.2.2
/-- the book of the class from cell k on -/
def bX (M : Mem) (k : Nat) : BV := (M k 5, sgn (M k 5) (M (k + 4)), M k 4, cut (M k 4) (M (k + 1)), cut (M k 4) (M (k + 2)), cut (M k 4) (M (k + 3)), M k 6, M k 7)
/-- what every book keeps -/
def vOk (V : BV) : Prop := 0 ≤ vN V ∧ vN V ≤ 120 ∧ 0 ≤ vR V ∧ vR V ≤ 12 ∧ (∀ i, 0 ≤ i → i < vN V → isSg (vS V i)) ∧ (∀ i, i < 0 ∨ vN V ≤ i → vS V i = -1) ∧
  (∀ k : Nat, (k : Int) < vR V → vC (vC' V k) ∧ isRC (vE V k) ∧ 0 ≤ vK V k ∧ vK V k ≤ 4) ∧ (∀ i j : Nat, (i : Int) < vR V → (j : Int) < vR V → vC' V i = vC' V j → i = j) ∧ (∀ i j : Nat, (i : Int) < vR V → (j : Int) < vR V → vE V i = vE V j → i = j) ∧
  4 ≤ vW V ∧ vW V ≤ 40 ∧ 1 ≤ vP V ∧ vP V ≤ 20
/-- all CAPITALS, k signs from i on -/
def acF (S : Int → Int) : Nat → Int → Bool
  | 0, _ => true
  | k + 1, i => decide (isCp (S i)) && acF S k (i + 1)
theorem acF_iff (S : Int → Int) : ∀ (k : Nat) (i : Int), acF S k i = true ↔ ∀ j, i ≤ j → j < i + k → isCp (S j)
  | 0, i => ⟨fun _ j a b => by omega, fun _ => rfl⟩
  | k + 1, i => by
    unfold acF
    rw [Bool.and_eq_true, decide_eq_true_eq, acF_iff S k (i + 1)]
    constructor
    · rintro ⟨a, b⟩ j h0 h1
      by_cases q : j = i
      · rw [q]; exact a
      · exact b j (by omega) (by omega)
    · intro h
      exact ⟨h i (by omega) (by omega), fun j h0 h1 => h j (by omega) (by omega)⟩
def alC (V : BV) (a b : Int) : Bool := decide (2 ≤ b - a) && acF (vS V) (b - a).toNat a
/-- 1 .. 26: a small letter, or as if small; 0: a CAPITAL by itself -/
def smV (V : BV) (g : Bool) (i : Int) : Int := if g = true ∨ isSm (vS V i) then ltN (vS V i) else 0
def cdF (sm : Int → Int) : Nat → Int → Int → Int
  | 0, _, acc => acc
  | k + 1, i, acc => if sm i = 0 then -1 else cdF sm k (i + 1) (acc * 27 + sm i)
/-- the RULE of L letters that may serve from i on in the word a .. b, but not RULE w; -1: none -/
def rA (V : BV) (w a b : Int) (g : Bool) (i L : Int) : Int :=
  if b < i + L then -1 else if cdF (smV V g) L.toNat i 0 = -1 then -1 else
  if fIx (vC' V) (cdF (smV V g) L.toNat i 0) (vR V) = -1 ∨ fIx (vC' V) (cdF (smV V g) L.toNat i 0) (vR V) = w ∨ ¬ kdOk (vK V (fIx (vC' V) (cdF (smV V g) L.toNat i 0) (vR V)).toNat) i (i + L) a b then -1
  else fIx (vC' V) (cdF (smV V g) L.toNat i 0) (vR V)
def sv (V : BV) (w a b : Int) (g : Bool) (i : Int) : Int := if ¬ rA V w a b g i 4 = -1 then rA V w a b g i 4 else if ¬ rA V w a b g i 3 = -1 then rA V w a b g i 3 else rA V w a b g i 2
/-- a CELL, the RULE that it stands for (-1: none), the sign's place, 1 where it is one of a word's letters -/
abbrev Ev : Type := Int × Int × Int × Int
def leE (V : BV) (g : Bool) (i : Int) : List Ev := if smV V g i = 0 then [(60, -1, i, 1), (ltN (vS V i), -1, i, 1)] else [(ltN (vS V i), -1, i, 1)]
def wF (V : BV) (w a b : Int) (g : Bool) : Nat → Int → List Ev
  | 0, _ => []
  | f + 1, i => if b ≤ i then [] else if sv V w a b g i = -1 then leE V g i ++ wF V w a b g f (i + 1) else (vE V (sv V w a b g i).toNat, sv V w a b g i, i, 1) :: wF V w a b g f (i + lnC (vC' V (sv V w a b g i).toNat))
def wEv (V : BV) (w a b : Int) (g : Bool) (i : Int) : List Ev := wF V w a b g (b - i).toNat i
abbrev wnt (V : BV) (i : Int) : Prop := 97 ≤ vS V i ∧ vS V i ≤ 106 ∧ isBh (vS V) i
def hdE (V : BV) (a b : Int) : List Ev := (if wnt V a then [(62, -1, a, 0)] else []) ++ (if alC V a b = true then [(60, -1, a, 0), (60, -1, a, 0)] else [])
def wdE (V : BV) (w a b : Int) : List Ev := hdE V a b ++ wEv V w a b (alC V a b) a
def sgE (V : BV) (i : Int) : List Ev := if isFg (vS V i) then (if isBh (vS V) i then [] else [(61, -1, i, 0)]) ++ [(fgC (vS V i), -1, i, 0)] else [(mkC (vS V i), -1, i, 0)]
def aF (V : BV) (w : Int) : Nat → Int → List Ev
  | 0, _ => []
  | f + 1, i => if vN V ≤ i then [] else if isLt (vS V i) then wdE V w i (we (vN V) (vS V) i) ++ aF V w f (we (vN V) (vS V) i) else sgE V i ++ aF V w f (i + 1)
def aEv (V : BV) (w i : Int) : List Ev := aF V w (vN V - i).toNat i
/-! RULES are found by their letters -/
theorem rA_cases (V : BV) (w a b : Int) (g : Bool) (i L : Int) (h : 0 ≤ vR V) : rA V w a b g i L = -1 ∨ (0 ≤ rA V w a b g i L ∧ rA V w a b g i L < vR V ∧ i + L ≤ b ∧ ¬ rA V w a b g i L = w ∧ vC' V (rA V w a b g i L).toNat = cdF (smV V g) L.toNat i 0 ∧ ¬ cdF (smV V g) L.toNat i 0 = -1 ∧ kdOk (vK V (rA V w a b g i L).toNat) i (i + L) a b) := by
  unfold rA
  by_cases h1 : b < i + L
  · rw [if_pos h1]; exact Or.inl rfl
  · rw [if_neg h1]
    by_cases h2 : cdF (smV V g) L.toNat i 0 = -1
    · rw [if_pos h2]; exact Or.inl rfl
    · rw [if_neg h2]
      by_cases h3 : fIx (vC' V) (cdF (smV V g) L.toNat i 0) (vR V) = -1 ∨ fIx (vC' V) (cdF (smV V g) L.toNat i 0) (vR V) = w ∨ ¬ kdOk (vK V (fIx (vC' V) (cdF (smV V g) L.toNat i 0) (vR V)).toNat) i (i + L) a b
      · rw [if_pos h3]; exact Or.inl rfl
      · rw [if_neg h3]
        rcases fIx_is (vC' V) (cdF (smV V g) L.toNat i 0) h with ⟨q, -⟩ | ⟨q1, q2, q3, -⟩
        · exact absurd (Or.inl q) h3
        · refine Or.inr ⟨q1, q2, by omega, fun e => h3 (Or.inr (Or.inl e)), q3, h2, ?_⟩
          exact Decidable.byContradiction fun e => h3 (Or.inr (Or.inr e))
theorem sv_cases (V : BV) (w a b : Int) (g : Bool) (i : Int) (h : 0 ≤ vR V) : sv V w a b g i = -1 ∨ ∃ L : Int, 2 ≤ L ∧ L ≤ 4 ∧ sv V w a b g i = rA V w a b g i L ∧ ¬ rA V w a b g i L = -1 := by
  unfold sv
  by_cases h4 : rA V w a b g i 4 = -1
  · rw [if_neg (by simp [h4])]
    by_cases h3 : rA V w a b g i 3 = -1
    · rw [if_neg (by simp [h3])]
      by_cases h2 : rA V w a b g i 2 = -1
      · exact Or.inl h2
      · exact Or.inr ⟨2, by omega, by omega, rfl, h2⟩
    · rw [if_pos h3]; exact Or.inr ⟨3, by omega, by omega, rfl, h3⟩
  · rw [if_pos h4]; exact Or.inr ⟨4, by omega, by omega, rfl, h4⟩
theorem sv_rng (V : BV) (w a b : Int) (g : Bool) (i : Int) (h : 0 ≤ vR V) : sv V w a b g i = -1 ∨ (0 ≤ sv V w a b g i ∧ sv V w a b g i < vR V) := by
  rcases sv_cases V w a b g i h with q | ⟨L, -, -, e, q⟩
  · exact Or.inl q
  · rcases rA_cases V w a b g i L h with z | ⟨z1, z2, -⟩
    · exact absurd z q
    · rw [e]; exact Or.inr ⟨z1, z2⟩
/-! digits -/
theorem ltN_rng {s : Int} (h : isLt s) : 1 ≤ ltN s ∧ ltN s ≤ 26 := by
  unfold ltN; simp only [isLt, isSm, isCp] at *; split <;> omega
theorem smV_rng (V : BV) (g : Bool) {i : Int} (h : isLt (vS V i)) : 0 ≤ smV V g i ∧ smV V g i ≤ 26 := by
  have := ltN_rng h
  unfold smV; split <;> omega
theorem cd2 (sm : Int → Int) (i : Int) : cdF sm 2 i 0 = if sm i = 0 then -1 else if sm (i + 1) = 0 then -1 else sm i * 27 + sm (i + 1) := by
  simp [cdF]
theorem cd3 (sm : Int → Int) (i : Int) : cdF sm 3 i 0 = if sm i = 0 then -1 else if sm (i + 1) = 0 then -1 else if sm (i + 2) = 0 then -1 else (sm i * 27 + sm (i + 1)) * 27 + sm (i + 2) := by
  simp [cdF, Int.add_assoc]
theorem cd4 (sm : Int → Int) (i : Int) : cdF sm 4 i 0 = if sm i = 0 then -1 else if sm (i + 1) = 0 then -1 else if sm (i + 2) = 0 then -1 else if sm (i + 3) = 0 then -1 else ((sm i * 27 + sm (i + 1)) * 27 + sm (i + 2)) * 27 + sm (i + 3) := by
  simp [cdF, Int.add_assoc]
/-- a row of L letters is a code of L letters -/
theorem cd_ln {sm : Int → Int} {i L : Int} (h2 : 2 ≤ L) (h4 : L ≤ 4) (hs : ∀ j, i ≤ j → j < i + L → 0 ≤ sm j ∧ sm j ≤ 26) (hne : ¬ cdF sm L.toNat i 0 = -1) : lnC (cdF sm L.toNat i 0) = L ∧ ∀ e, 0 ≤ e → e < L → sm (i + e) = dgC (cdF sm L.toNat i 0) e := by
  have s0 := hs i (by omega) (by omega)
  have s1 := hs (i + 1) (by omega) (by omega)
  rcases (by omega : L = 2 ∨ L = 3 ∨ L = 4) with rfl | rfl | rfl
  · rw [show (2 : Int).toNat = 2 from rfl, cd2] at hne ⊢
    by_cases a0 : sm i = 0
    · simp [a0] at hne
    by_cases a1 : sm (i + 1) = 0
    · simp [a1] at hne
    rw [if_neg a0, if_neg a1]
    obtain ⟨e, d0, d1⟩ := dg2 (c := sm i * 27 + sm (i + 1)) (by omega) (by omega)
    refine ⟨e, fun j j0 j1 => ?_⟩
    rcases (by omega : j = 0 ∨ j = 1) with rfl | rfl
    · rw [d0, Int.add_zero]; omega
    · rw [d1]; omega
  · have s2 := hs (i + 2) (by omega) (by omega)
    rw [show (3 : Int).toNat = 3 from rfl, cd3] at hne ⊢
    by_cases a0 : sm i = 0
    · simp [a0] at hne
    by_cases a1 : sm (i + 1) = 0
    · simp [a1] at hne
    by_cases a2 : sm (i + 2) = 0
    · simp [a2] at hne
    rw [if_neg a0, if_neg a1, if_neg a2]
    obtain ⟨e, d0, d1, d2⟩ := dg3 (c := (sm i * 27 + sm (i + 1)) * 27 + sm (i + 2)) (by omega) (by omega)
    refine ⟨e, fun j j0 j1 => ?_⟩
    rcases (by omega : j = 0 ∨ j = 1 ∨ j = 2) with rfl | rfl | rfl
    · rw [d0, Int.add_zero]; omega
    · rw [d1]; omega
    · rw [d2]; omega
  · have s2 := hs (i + 2) (by omega) (by omega)
    have s3 := hs (i + 3) (by omega) (by omega)
    rw [show (4 : Int).toNat = 4 from rfl, cd4] at hne ⊢
    by_cases a0 : sm i = 0
    · simp [a0] at hne
    by_cases a1 : sm (i + 1) = 0
    · simp [a1] at hne
    by_cases a2 : sm (i + 2) = 0
    · simp [a2] at hne
    by_cases a3 : sm (i + 3) = 0
    · simp [a3] at hne
    rw [if_neg a0, if_neg a1, if_neg a2, if_neg a3]
    obtain ⟨e, d0, d1, d2, d3⟩ := dg4 (c := ((sm i * 27 + sm (i + 1)) * 27 + sm (i + 2)) * 27 + sm (i + 3)) (by omega) (by omega)
    refine ⟨e, fun j j0 j1 => ?_⟩
    rcases (by omega : j = 0 ∨ j = 1 ∨ j = 2 ∨ j = 3) with rfl | rfl | rfl | rfl
    · rw [d0, Int.add_zero]; omega
    · rw [d1]; omega
    · rw [d2]; omega
    · rw [d3]; omega
/-- and the other way: letters that are a code's -/
theorem cd_of {sm : Int → Int} {i c : Int} (hv : vC c) (h : ∀ e, 0 ≤ e → e < lnC c → sm (i + e) = dgC c e) : cdF sm (lnC c).toNat i 0 = c := by
  have hp := (vC_iff hv.1 hv.2.1).mp hv
  by_cases a : c < 729
  · obtain ⟨e, d0, d1⟩ := dg2 hv.1 a
    rw [e] at h hp ⊢
    have q0 := h 0 (by omega) (by omega)
    have q1 := h 1 (by omega) (by omega)
    have p0 := hp 0 (by omega) (by omega)
    have p1 := hp 1 (by omega) (by omega)
    rw [Int.add_zero] at q0
    rw [show (2 : Int).toNat = 2 from rfl, cd2, if_neg (by omega), if_neg (by omega), q0, q1, d0, d1]
    omega
  · by_cases b : c < 19683
    · obtain ⟨e, d0, d1, d2⟩ := dg3 (by omega) b
      rw [e] at h hp ⊢
      have q0 := h 0 (by omega) (by omega)
      have q1 := h 1 (by omega) (by omega)
      have q2 := h 2 (by omega) (by omega)
      have p0 := hp 0 (by omega) (by omega)
      have p1 := hp 1 (by omega) (by omega)
      have p2 := hp 2 (by omega) (by omega)
      rw [Int.add_zero] at q0
      rw [show (3 : Int).toNat = 3 from rfl, cd3, if_neg (by omega), if_neg (by omega), if_neg (by omega), q0, q1, q2, d0, d1, d2]
      omega
    · obtain ⟨e, d0, d1, d2, d3⟩ := dg4 (by omega) hv.2.1
      rw [e] at h hp ⊢
      have q0 := h 0 (by omega) (by omega)
      have q1 := h 1 (by omega) (by omega)
      have q2 := h 2 (by omega) (by omega)
      have q3 := h 3 (by omega) (by omega)
      have p0 := hp 0 (by omega) (by omega)
      have p1 := hp 1 (by omega) (by omega)
      have p2 := hp 2 (by omega) (by omega)
      have p3 := hp 3 (by omega) (by omega)
      rw [Int.add_zero] at q0
      rw [show (4 : Int).toNat = 4 from rfl, cd4, if_neg (by omega), if_neg (by omega), if_neg (by omega), if_neg (by omega), q0, q1, q2, q3, d0, d1, d2, d3]
      omega
end
section
/-! the cells one behind the other -/
theorem vOk.ln {V : BV} (h : vOk V) {k : Int} (h0 : 0 ≤ k) (h1 : k < vR V) : 2 ≤ lnC (vC' V k.toNat) ∧ lnC (vC' V k.toNat) ≤ 4 := by
  have := (h.2.2.2.2.2.2.1 k.toNat (by omega)).1
  exact ⟨lnC_2.mpr this.1, (lnC_le _).2⟩
theorem vOk.sv_ln {V : BV} (h : vOk V) {w a b : Int} {g : Bool} {i : Int} (hs : ¬ sv V w a b g i = -1) : 0 ≤ sv V w a b g i ∧ sv V w a b g i < vR V ∧ 2 ≤ lnC (vC' V (sv V w a b g i).toNat) ∧ lnC (vC' V (sv V w a b g i).toNat) ≤ 4 := by
  rcases sv_rng V w a b g i h.2.2.1 with q | ⟨q1, q2⟩
  · exact absurd q hs
  · exact ⟨q1, q2, (h.ln q1 q2).1, (h.ln q1 q2).2⟩
/-- a RULE that serves stands within the word -/
theorem sv_in {V : BV} (h : vOk V) {w a b : Int} {g : Bool} {i : Int} (hl : ∀ j, i ≤ j → j < b → isLt (vS V j)) (hs : ¬ sv V w a b g i = -1) : i + lnC (vC' V (sv V w a b g i).toNat) ≤ b := by
  rcases sv_cases V w a b g i h.2.2.1 with q | ⟨L, l2, l4, e, q⟩
  · exact absurd q hs
  · rcases rA_cases V w a b g i L h.2.2.1 with z | ⟨z1, z2, z3, z4, z5, z6, z7⟩
    · exact absurd z q
    · rw [e, z5, (cd_ln l2 l4 (fun j j0 j1 => smV_rng V g (hl j j0 (by omega))) z6).1]
      exact z3
theorem wF_fuel {V : BV} (h : vOk V) (w a b : Int) (g : Bool) : ∀ (f f2 : Nat) (i : Int), (b - i).toNat ≤ f → (b - i).toNat ≤ f2 → wF V w a b g f i = wF V w a b g f2 i
  | 0, 0, i, _, _ => rfl
  | 0, f2 + 1, i, h1, _ => by unfold wF; rw [if_pos (by omega)]
  | f + 1, 0, i, _, h2 => by unfold wF; rw [if_pos (by omega)]
  | f + 1, f2 + 1, i, h1, h2 => by
    unfold wF
    by_cases hb : b ≤ i
    · rw [if_pos hb, if_pos hb]
    · rw [if_neg hb, if_neg hb]
      by_cases hs : sv V w a b g i = -1
      · rw [if_pos hs, if_pos hs, wF_fuel h w a b g f f2 (i + 1) (by omega) (by omega)]
      · obtain ⟨q1, q2, q3, q4⟩ := h.sv_ln hs
        rw [if_neg hs, if_neg hs, wF_fuel h w a b g f f2 _ (by omega) (by omega)]
theorem wEv_end {V : BV} {w a b : Int} {g : Bool} {i : Int} (hb : b ≤ i) : wEv V w a b g i = [] := by
  unfold wEv
  rw [show (b - i).toNat = 0 by omega]
  rfl
theorem wEv_let {V : BV} (h : vOk V) {w a b : Int} {g : Bool} {i : Int} (hb : i < b) (hs : sv V w a b g i = -1) : wEv V w a b g i = leE V g i ++ wEv V w a b g (i + 1) := by
  unfold wEv
  rw [show (b - i).toNat = (b - (i + 1)).toNat + 1 by omega]
  conv => lhs; unfold wF
  rw [if_neg (by omega), if_pos hs]
theorem wEv_rule {V : BV} (h : vOk V) {w a b : Int} {g : Bool} {i : Int} (hb : i < b) (hs : ¬ sv V w a b g i = -1) : wEv V w a b g i = (vE V (sv V w a b g i).toNat, sv V w a b g i, i, 1) :: wEv V w a b g (i + lnC (vC' V (sv V w a b g i).toNat)) := by
  obtain ⟨q1, q2, q3, q4⟩ := h.sv_ln hs
  unfold wEv
  rw [show (b - i).toNat = (b - (i + 1)).toNat + 1 by omega]
  conv => lhs; unfold wF
  rw [if_neg (by omega), if_neg hs, wF_fuel h w a b g _ (b - (i + lnC (vC' V (sv V w a b g i).toNat))).toNat _ (by omega) (by omega)]
theorem vOk.nl {V : BV} (h : vOk V) : ¬ isLt (vS V (vN V)) := by rw [h.2.2.2.2.2.1 _ (Or.inr (Int.le_refl _))]; exact isLt_m1
theorem we_gt {V : BV} (h : vOk V) {i : Int} (h1 : i < vN V) (hl : isLt (vS V i)) : i < we (vN V) (vS V) i ∧ we (vN V) (vS V) i ≤ vN V := by
  obtain ⟨a, b, c, d⟩ := we_spec (Int.le_of_lt h1) h.nl
  refine ⟨?_, b⟩
  rcases Int.lt_or_eq_of_le a with q | q
  · exact q
  · rw [← q] at d; exact absurd hl d
theorem aF_fuel {V : BV} (h : vOk V) (w : Int) : ∀ (f f2 : Nat) (i : Int), (vN V - i).toNat ≤ f → (vN V - i).toNat ≤ f2 → aF V w f i = aF V w f2 i
  | 0, 0, i, _, _ => rfl
  | 0, f2 + 1, i, h1, _ => by unfold aF; rw [if_pos (by omega)]
  | f + 1, 0, i, _, h2 => by unfold aF; rw [if_pos (by omega)]
  | f + 1, f2 + 1, i, h1, h2 => by
    unfold aF
    by_cases hb : vN V ≤ i
    · rw [if_pos hb, if_pos hb]
    · rw [if_neg hb, if_neg hb]
      by_cases hs : isLt (vS V i)
      · have := we_gt h (by omega) hs
        rw [if_pos hs, if_pos hs, aF_fuel h w f f2 _ (by omega) (by omega)]
      · rw [if_neg hs, if_neg hs, aF_fuel h w f f2 _ (by omega) (by omega)]
theorem aEv_end {V : BV} {w i : Int} (hb : vN V ≤ i) : aEv V w i = [] := by
  unfold aEv
  rw [show (vN V - i).toNat = 0 by omega]
  rfl
theorem aEv_word {V : BV} (h : vOk V) {w i : Int} (hb : i < vN V) (hl : isLt (vS V i)) : aEv V w i = wdE V w i (we (vN V) (vS V) i) ++ aEv V w (we (vN V) (vS V) i) := by
  have := we_gt h hb hl
  unfold aEv
  rw [show (vN V - i).toNat = (vN V - (i + 1)).toNat + 1 by omega]
  conv => lhs; unfold aF
  rw [if_neg (by omega), if_pos hl, aF_fuel h w _ (vN V - we (vN V) (vS V) i).toNat _ (by omega) (by omega)]
theorem aEv_sign {V : BV} (_h : vOk V) {w i : Int} (hb : i < vN V) (hl : ¬ isLt (vS V i)) : aEv V w i = sgE V i ++ aEv V w (i + 1) := by
  unfold aEv
  rw [show (vN V - i).toNat = (vN V - (i + 1)).toNat + 1 by omega]
  conv => lhs; unfold aF
  rw [if_neg (by omega), if_neg hl]
/-! how many -/
theorem leE_len (V : BV) (g : Bool) (i : Int) : 1 ≤ (leE V g i).length ∧ (leE V g i).length ≤ 2 ∧ (¬ smV V g i = 0 → (leE V g i).length = 1) := by
  unfold leE; split <;> simp_all
theorem wEv_len {V : BV} (h : vOk V) (w a b : Int) (g : Bool) : ∀ (d : Nat) (i : Int), d = (b - i).toNat → ((wEv V w a b g i).length : Int) ≤ 2 * d ∧ ((g = true → ∀ j, i ≤ j → j < b → isLt (vS V j)) → g = true → ((wEv V w a b g i).length : Int) ≤ d) := by
  intro d
  induction d using Nat.strongRecOn with
  | ind d ih =>
    intro i hd
    by_cases hb : b ≤ i
    · rw [wEv_end hb]; simp; omega
    · by_cases hs : sv V w a b g i = -1
      · obtain ⟨h1, h2⟩ := ih (b - (i + 1)).toNat (by omega) (i + 1) rfl
        have hl := leE_len V g i
        rw [wEv_let h (by omega) hs, List.length_append]
        refine ⟨by omega, fun hw hg => ?_⟩
        have hlt := hw hg i (Int.le_refl _) (by omega)
        have hne : ¬ smV V g i = 0 := by
          have := ltN_rng hlt
          unfold smV; rw [if_pos (Or.inl hg)]; omega
        have := h2 (fun _ j a1 a2 => hw hg j (by omega) a2) hg
        have := hl.2.2 hne
        omega
      · obtain ⟨q1, q2, q3, q4⟩ := h.sv_ln hs
        obtain ⟨h1, h2⟩ := ih (b - (i + lnC (vC' V (sv V w a b g i).toNat))).toNat (by omega) _ rfl
        rw [wEv_rule h (by omega) hs, List.length_cons]
        refine ⟨by omega, fun hw hg => ?_⟩
        have := h2 (fun _ j a1 a2 => hw hg j (by omega) a2) hg
        omega
theorem wEv_len1 {V : BV} (h : vOk V) (w a b : Int) (g : Bool) {i : Int} (hb : i < b) (hsm : isSm (vS V i)) : ((wEv V w a b g i).length : Int) ≤ 2 * (b - i) - 1 := by
  by_cases hs : sv V w a b g i = -1
  · have h1 := (wEv_len h w a b g (b - (i + 1)).toNat (i + 1) rfl).1
    have hl := leE_len V g i
    have hne : ¬ smV V g i = 0 := by
      have := ltN_rng (Or.inl hsm : isLt (vS V i))
      unfold smV; rw [if_pos (Or.inr hsm)]; omega
    have := hl.2.2 hne
    rw [wEv_let h hb hs, List.length_append]
    omega
  · obtain ⟨q1, q2, q3, q4⟩ := h.sv_ln hs
    have h1 := (wEv_len h w a b g (b - (i + lnC (vC' V (sv V w a b g i).toNat))).toNat _ rfl).1
    rw [wEv_rule h hb hs, List.length_cons]
    omega
theorem alC_iff (V : BV) (a b : Int) : alC V a b = true ↔ 2 ≤ b - a ∧ ∀ j, a ≤ j → j < b → isCp (vS V j) := by
  unfold alC
  rw [Bool.and_eq_true, decide_eq_true_eq, acF_iff]
  constructor
  · rintro ⟨x, y⟩; exact ⟨x, fun j j0 j1 => y j j0 (by omega)⟩
  · rintro ⟨x, y⟩; exact ⟨x, fun j j0 j1 => y j j0 (by omega)⟩
theorem wdE_len {V : BV} (h : vOk V) (w : Int) {a b : Int} (hab : a < b) : ((wdE V w a b).length : Int) ≤ 2 * (b - a) := by
  unfold wdE hdE
  have hw := wEv_len h w a b (alC V a b) (b - a).toNat a rfl
  by_cases hg : alC V a b = true
  · have hc := (alC_iff V a b).mp hg
    have hca := hc.2 a (Int.le_refl _) hab
    have hnw : ¬ wnt V a := by simp only [wnt, isCp] at *; omega
    have := hw.2 (fun _ j j0 j1 => Or.inr (hc.2 j j0 j1)) hg
    rw [if_neg hnw, if_pos hg]
    simp only [List.length_append, List.length_nil, List.length_cons]
    omega
  · rw [if_neg hg]
    by_cases hn : wnt V a
    · have := wEv_len1 h w a b (alC V a b) hab (show isSm (vS V a) by simp only [wnt, isSm] at *; omega)
      rw [if_pos hn]
      simp only [List.length_append, List.length_nil, List.length_cons]
      omega
    · rw [if_neg hn]
      simp only [List.length_append, List.length_nil]
      omega
theorem sgE_len (V : BV) (i : Int) : (sgE V i).length ≤ 2 := by
  unfold sgE; split
  · split <;> simp
  · simp
theorem aEv_len {V : BV} (h : vOk V) (w : Int) : ∀ (d : Nat) (i : Int), d = (vN V - i).toNat → ((aEv V w i).length : Int) ≤ 2 * d := by
  intro d
  induction d using Nat.strongRecOn with
  | ind d ih =>
    intro i hd
    by_cases hb : vN V ≤ i
    · rw [aEv_end hb]; simp; omega
    · by_cases hl : isLt (vS V i)
      · have hg := we_gt h (by omega) hl
        have := ih (vN V - we (vN V) (vS V) i).toNat (by omega) _ rfl
        have := wdE_len h w hg.1
        rw [aEv_word h (by omega) hl, List.length_append]
        omega
      · have := ih (vN V - (i + 1)).toNat (by omega) _ rfl
        have := sgE_len V i
        rw [aEv_sign h (by omega) hl, List.length_append]
        omega
theorem aEv_240 {V : BV} (h : vOk V) (w : Int) {i : Int} (h0 : 0 ≤ i) : (aEv V w i).length ≤ 240 := by
  have := aEv_len h w (vN V - i).toNat i rfl
  have := h.1
  have := h.2.1
  omega
/-! which RULES serve -/
def cntE (D : List Ev) (k : Int) : Int := ((D.filter fun e => e.2.1 == k).length : Int)
def fstE (D : List Ev) (k : Int) : Int := match D.find? fun e => e.2.1 == k with
  | some e => e.2.2.1
  | none => -1
def wcE (D : List Ev) : Int := ((D.filter fun e => e.2.2.2 == 1).length : Int)
theorem cntE_app (A B : List Ev) (k : Int) : cntE (A ++ B) k = cntE A k + cntE B k := by simp [cntE, List.filter_append]
theorem wcE_app (A B : List Ev) : wcE (A ++ B) = wcE A + wcE B := by simp [wcE, List.filter_append]
theorem cntE_nn (A : List Ev) (k : Int) : 0 ≤ cntE A k := by unfold cntE; omega
theorem cntE_le (A : List Ev) (k : Int) : cntE A k ≤ A.length := by unfold cntE; have := List.length_filter_le (fun e : Ev => e.2.1 == k) A; omega
theorem cntE_1 (e : Ev) (k : Int) : cntE [e] k = if e.2.1 = k then 1 else 0 := by
  unfold cntE
  by_cases h : e.2.1 = k
  · simp [h]
  · simp [h]
theorem fstE_app (A B : List Ev) (k : Int) : fstE (A ++ B) k = if cntE A k = 0 then fstE B k else fstE A k := by
  unfold fstE cntE
  rw [List.find?_append]
  cases hf : A.find? (fun e => e.2.1 == k) with
  | none =>
    have : A.filter (fun e => e.2.1 == k) = [] := by
      rw [List.filter_eq_nil_iff]
      exact List.find?_eq_none.mp hf
    rw [this]; simp
  | some e =>
    have hm : e ∈ A.filter (fun e => e.2.1 == k) := by
      have h2 := List.find?_some hf
      exact List.mem_filter.mpr ⟨List.mem_of_find?_eq_some hf, h2⟩
    have hl : 0 < (A.filter (fun e => e.2.1 == k)).length := List.length_pos_of_mem hm
    rw [if_neg (by omega)]
    rfl
theorem fstE_1 (e : Ev) (k : Int) : fstE [e] k = if e.2.1 = k then e.2.2.1 else -1 := by
  unfold fstE
  by_cases h : e.2.1 = k
  · simp [h]
  · simp [h]
theorem cntE_none {A : List Ev} {k : Int} (h : ∀ e ∈ A, ¬ e.2.1 = k) : cntE A k = 0 := by
  unfold cntE
  have : A.filter (fun e => e.2.1 == k) = [] := by
    rw [List.filter_eq_nil_iff]
    intro e he; simpa using h e he
  rw [this]; rfl
theorem fstE_none {A : List Ev} {k : Int} (h : ∀ e ∈ A, ¬ e.2.1 = k) : fstE A k = -1 := by
  unfold fstE
  have : A.find? (fun e => e.2.1 == k) = none := by
    rw [List.find?_eq_none]
    intro e he; simpa using h e he
  rw [this]
end
section
/-! Writer -/
def gM (M : Mem) : Bool := decide (M 10 9 = 1)
/-- a word has been entered -/
def En (M : Mem) : Prop := 0 ≤ M 10 7 ∧ M 10 7 < M 10 8 ∧ M 10 8 ≤ M 1 5 ∧ ∀ i, M 10 7 ≤ i → i < M 10 8 → isLt (vS (bX M 1) i) ∧ M 14 i.toNat = smV (bX M 1) (gM M) i
theorem bX_same {M M2 : Mem} (k : Nat) (h : ∀ j, k ≤ j → j ≤ k + 4 → M2 j = M j) : bX M2 k = bX M k := by
  unfold bX
  rw [h k (by omega) (by omega), h (k + 1) (by omega) (by omega), h (k + 2) (by omega) (by omega), h (k + 3) (by omega) (by omega), h (k + 4) (by omega) (by omega)]
theorem vOk.bx {M : Mem} (h : vOk (bX M 1)) : Bx M := ⟨h.2.2.1, h.2.2.2.1, h.1, h.2.1⟩
def q27 (j : Int) : Int := if j ≤ 0 then 1 else if j = 1 then 27 else if j = 2 then 729 else if j = 3 then 19683 else 531441
theorem q27_step {j : Int} (h0 : 0 ≤ j) (h1 : j ≤ 3) : q27 (j + 1) = 27 * q27 j := by
  rcases (by omega : j = 0 ∨ j = 1 ∨ j = 2 ∨ j = 3) with rfl | rfl | rfl | rfl <;> decide
theorem q27_le {j : Int} (h1 : j ≤ 3) : q27 j ≤ 19683 := by unfold q27; repeat' split <;> omega
def addCl (M : Mem) (c : Int) : Mem := mup (mup M 11 (M 10 4).toNat c) 10 4 (M 10 4 + 1)
/-- the events D come behind what is written -/
def ApE (D : List Ev) (M M2 : Mem) : Prop := M2 10 4 = M 10 4 + D.length ∧ (∀ j : Nat, (j : Int) < M 10 4 → M2 11 j = M 11 j) ∧ (∀ j : Nat, j < D.length → M2 11 ((M 10 4).toNat + j) = (D.map fun e => e.1).getD j 0) ∧
  (∀ k : Nat, k < 12 → M2 12 k = M 12 k + cntE D k ∧ M2 13 k = if M 12 k = 0 ∧ ¬ cntE D k = 0 then fstE D k else M 13 k) ∧ (∀ f, ¬ f = 4 → M2 10 f = M 10 f) ∧ ∀ k, k < 10 ∨ 13 < k → M2 k = M k
theorem ApE_nil (M : Mem) : ApE [] M M := by
  refine ⟨by simp, fun _ _ => rfl, fun j h => by simp at h, fun k hk => ⟨by simp [cntE], ?_⟩, fun _ _ => rfl, fun _ _ => rfl⟩
  rw [if_neg (by simp [cntE])]
theorem ApE_cell {M : Mem} (h0 : 0 ≤ M 10 4) (e : Ev) (he : e.2.1 = -1) : ApE [e] M (addCl M e.1) := by
  have hc : ∀ k : Nat, cntE [e] k = 0 := fun k => by rw [cntE_1, if_neg (by omega)]
  refine ⟨by simp [addCl, mup_at], fun j hj => ?_, fun j hj => ?_, fun k hk => ⟨?_, ?_⟩, fun f hf => ?_, fun k hk => ?_⟩
  · have : ¬ j = (M 10 4).toNat := by omega
    simp [addCl, mup_at, this]
  · have : j = 0 := by simpa using hj
    subst this
    simp [addCl, mup_at]
  · rw [hc k]; simp [addCl, mup_at]
  · rw [hc k, if_neg (by simp)]; simp [addCl, mup_at]
  · simp [addCl, mup_at, hf]
  · funext j
    have a : ¬ k = 10 := by omega
    have b : ¬ k = 11 := by omega
    simp [addCl, mup_at, a, b]
theorem ApE.trans {A B : List Ev} {M N M2 : Mem} (h : ApE A M N) (h2 : ApE B N M2) (h0 : 0 ≤ M 10 4) (hs : ∀ k : Nat, k < 12 → 0 ≤ M 12 k) : ApE (A ++ B) M M2 := by
  obtain ⟨a1, a2, a3, a4, a5, a6⟩ := h
  obtain ⟨b1, b2, b3, b4, b5, b6⟩ := h2
  refine ⟨by rw [b1, a1, List.length_append]; omega, fun j hj => by rw [b2 j (by omega), a2 j hj], fun j hj => ?_, fun k hk => ⟨?_, ?_⟩, fun f hf => by rw [b5 f hf, a5 f hf], fun k hk => by rw [b6 k hk, a6 k hk]⟩
  · rw [List.map_append]
    rw [List.length_append] at hj
    by_cases q : j < A.length
    · rw [b2 _ (by omega), a3 j q, List.getD_eq_getElem?_getD, List.getD_eq_getElem?_getD, List.getElem?_append_left (by simpa using q)]
    · have e : (M 10 4).toNat + j = (N 10 4).toNat + (j - A.length) := by omega
      rw [e, b3 _ (by omega), List.getD_eq_getElem?_getD, List.getD_eq_getElem?_getD, List.getElem?_append_right (by simpa using q)]
      simp
  · rw [(b4 k hk).1, (a4 k hk).1, cntE_app]; omega
  · have n1 := cntE_nn A k
    have n2 := cntE_nn B k
    have n3 := hs k hk
    rw [(b4 k hk).2, (a4 k hk).1, (a4 k hk).2, cntE_app, fstE_app]
    by_cases z : M 12 k = 0
    · by_cases q : cntE A k = 0
      · by_cases q2 : cntE B k = 0
        · rw [if_neg (by omega), if_neg (by omega), if_neg (by omega)]
        · rw [if_pos (by omega), if_pos (by omega), if_pos q]
      · rw [if_neg (by omega), if_pos (by omega), if_pos (by omega), if_neg q]
    · rw [if_neg (by omega), if_neg (by omega), if_neg (by omega)]
theorem ApE.bx {D : List Ev} {M M2 : Mem} (h : ApE D M M2) : bX M2 1 = bX M 1 := bX_same 1 (fun j a b => h.2.2.2.2.2 j (by omega))
theorem ApE.en {D : List Ev} {M M2 : Mem} (h : ApE D M M2) (he : En M) : En M2 := by
  have hb := h.bx
  have h1 : M2 1 = M 1 := h.2.2.2.2.2 1 (by omega)
  have h14 : M2 14 = M 14 := h.2.2.2.2.2 14 (by omega)
  have h5 := h.2.2.2.2.1
  have hg : gM M2 = gM M := by unfold gM; rw [h5 9 (by omega)]
  unfold En
  rw [h5 7 (by omega), h5 8 (by omega), h1, hb, hg, h14]
  exact he
theorem ApE.sn {D : List Ev} {M M2 : Mem} (h : ApE D M M2) (h0 : ∀ k : Nat, k < 12 → 0 ≤ M 12 k ∧ M 12 k ≤ M 10 4) : ∀ k : Nat, k < 12 → 0 ≤ M2 12 k ∧ M2 12 k ≤ M2 10 4 := fun k hk => by
  have := h0 k hk
  have := cntE_nn D k
  have := cntE_le D k
  rw [(h.2.2.2.1 k hk).1, h.1]
  omega
def sp_X5_begin : SP := fun av M Ret => ∃ w : Int, av = [mr 10, mi w] ∧ (∀ M2 : Mem, (M2 10 = rup (rup (rup (M 10) 5 w) 4 0) 6 0 ∧ (∀ j : Nat, j < 12 → M2 12 j = 0 ∧ M2 13 j = -1) ∧ ∀ k, ¬ k = 10 → ¬ k = 12 → ¬ k = 13 → M2 k = M k) → Ret none M2)
theorem k_X5_begin {code : List Sem} {Z : KZ} {Ret : KR} {ls : List (Option MV)} {M : Mem} {r : List MV} (hZ : Sim code Z Ret) (ip np : Nat) {w : Int} (hc : code[ip]? = some (I_callV 5 1 sp_X5_begin)) (hn : ip + 1 = np) (h3 : catS r ≤ 8)   (kz : ∀ M2 : Mem, (M2 10 = rup (rup (rup (M 10) 5 w) 4 0) 6 0 ∧ (∀ j : Nat, j < 12 → M2 12 j = 0 ∧ M2 13 j = -1) ∧ ∀ k, ¬ k = 10 → ¬ k = 12 → ¬ k = 13 → M2 k = M k) → Z np ls r M2) : Z ip ls (mi w :: mr 10 :: r) M := w_callV1 hZ ip np hc hn rfl rfl h3 ⟨_, rfl, fun M2 h => kz M2 h⟩
def cd_X5_begin : List Sem := [I_aload 0, I_iload 1, I_puti 5 5, I_aload 0, I_const (0), I_puti 5 4, I_aload 0, I_const (0), I_puti 5 6, I_const (0), I_istore 2, I_iload 2, I_const (12), I_cge 26, I_aload 0, I_get 5 1, I_iload 2, I_const (0), I_iast, I_aload 0, I_get 5 2, I_iload 2, I_const (-1), I_iast, I_iinc 2 (1), I_goto 11, I_vret]
def pc_X5_begin : List Nat := [0, 1, 2, 5, 6, 7, 10, 11, 12, 15, 16, 17, 18, 20, 23, 24, 27, 28, 29, 30, 31, 34, 35, 36, 37, 40, 43]
set_option maxRecDepth 100000 in
set_option maxHeartbeats 4000000 in
theorem b_X5_begin (w : Int) (i_w : InR w) (M : Mem) (Ret : KR)  (hR : ∀ M2 : Mem, (M2 10 = rup (rup (rup (M 10) 5 w) 4 0) 6 0 ∧ (∀ j : Nat, j < 12 → M2 12 j = 0 ∧ M2 13 j = -1) ∧ ∀ k, ¬ k = 10 → ¬ k = 12 → ¬ k = 13 → M2 k = M k) → Ret none M2) (hM : MOk M) (Z : KZ) (hZ : Sim cd_X5_begin Z Ret) : Z 0 [some (mr 10), some (mi w), none] [] M := by
  have loop : ∀ (d : Nat) (i : Int) (N : Mem), d = (12 - i).toNat → 0 ≤ i → i ≤ 12 → N 10 = rup (rup (rup (M 10) 5 w) 4 0) 6 0 → (∀ j : Nat, (j : Int) < i → N 12 j = 0 ∧ N 13 j = -1) → (∀ k, ¬ k = 10 → ¬ k = 12 → ¬ k = 13 → N k = M k) → Z 11 [some (mr 10), some (mi w), some (mi i)] [] N := by
    intro d
    induction d using Nat.strongRecOn with
    | ind d ih =>
      intro i N hd h0 h1 e1 e2 e3
      refine w_iload hZ 11 12 rfl rfl rfl ?_
      refine w_const hZ 12 13 rfl rfl  ?_
      refine w_cge hZ 13 14 rfl rfl (fun c13 => ?_) (fun c13 => ?_)
      · refine w_vret hZ 26 rfl ?_
        exact hR _ ⟨e1, fun j hj => e2 j (by omega), e3⟩
      · refine w_aload hZ 14 15 rfl rfl rfl ?_
        refine w_getr hZ 15 16 rfl rfl rfl rfl rfl ?_
        refine w_iload hZ 16 17 rfl rfl rfl ?_
        refine w_const hZ 17 18 rfl rfl  ?_
        refine w_iast hZ 18 19 rfl rfl rfl (by omega) (by omega) ?_
        refine w_aload hZ 19 20 rfl rfl rfl ?_
        refine w_getr hZ 20 21 rfl rfl rfl rfl rfl ?_
        refine w_iload hZ 21 22 rfl rfl rfl ?_
        refine w_const hZ 22 23 rfl rfl  ?_
        refine w_iast hZ 23 24 rfl rfl rfl (by omega) (by omega) ?_
        refine w_in3_2 hZ 24 25 rfl rfl rfl (by unfold InR; omega) ?_
        refine w_goto hZ 25 11 rfl ?_
        refine ih ((12 - (i + 1)).toNat) (by omega) (i + 1) _ rfl (by omega) (by omega) ?_ (fun j hj => ?_) (fun k a b c => ?_)
        · rw [← e1]; funext j; simp [mup_at]
        · by_cases q : j = i.toNat
          · simp [mup_at, q]
          · simp [mup_at, q]; exact e2 j (by omega)
        · rw [← e3 k a b c]; funext j; simp [mup_at, b, c]
  refine w_aload hZ 0 1 rfl rfl rfl ?_
  refine w_iload hZ 1 2 rfl rfl rfl ?_
  refine w_puti hZ 2 3 rfl rfl rfl rfl rfl ?_
  refine w_aload hZ 3 4 rfl rfl rfl ?_
  refine w_const hZ 4 5 rfl rfl  ?_
  refine w_puti hZ 5 6 rfl rfl rfl rfl rfl ?_
  refine w_aload hZ 6 7 rfl rfl rfl ?_
  refine w_const hZ 7 8 rfl rfl  ?_
  refine w_puti hZ 8 9 rfl rfl rfl rfl rfl ?_
  refine w_const hZ 9 10 rfl rfl  ?_
  refine w_st3_2 hZ 10 11 rfl rfl rfl ?_
  refine loop 12 0 _ rfl (by omega) (by omega) ?_ (fun j hj => by omega) (fun k a b c => ?_)
  · rfl
  · funext j; simp [mup_at, a]
set_option maxRecDepth 100000 in
set_option maxHeartbeats 4000000 in
theorem ao_X5_begin : AllOk yX5_begin.cls cX5_begin 3 0 0 none none pc_X5_begin 0 cd_X5_begin := ⟨s_aload_n (k := 0) (by decide +kernel) rfl rfl, ⟨s_iload_n (k := 1) (by decide +kernel) rfl rfl, ⟨s_puti (C := RX5) (T := TX5) (N := 12) (tyf := tyX5) rfl inT5 tyX5_ok nmX5 (by decide) rfl rfl tw_1_97 (by decide +kernel) rfl, ⟨s_aload_n (k := 0) (by decide +kernel) rfl rfl, ⟨s_iconst (by decide +kernel) rfl ⟨by decide, by decide⟩, ⟨s_puti (C := RX5) (T := TX5) (N := 12) (tyf := tyX5) rfl inT5 tyX5_ok nmX5 (by decide) rfl rfl tw_1_96 (by decide +kernel) rfl, ⟨s_aload_n (k := 0) (by decide +kernel) rfl rfl, ⟨s_iconst (by decide +kernel) rfl ⟨by decide, by decide⟩, ⟨s_puti (C := RX5) (T := TX5) (N := 12) (tyf := tyX5) rfl inT5 tyX5_ok nmX5 (by decide) rfl rfl tw_1_98 (by decide +kernel) rfl, ⟨s_iconst (by decide +kernel) rfl ⟨by decide, by decide⟩, ⟨s_istore_n (k := 2) (by decide +kernel) rfl rfl, ⟨s_iload_n (k := 2) (by decide +kernel) rfl rfl, ⟨s_bipush (by decide +kernel) rfl ⟨by decide, by decide⟩ (by decide +kernel), ⟨s_cge (off := (23)) (by decide +kernel) rfl rfl, ⟨s_aload_n (k := 0) (by decide +kernel) rfl rfl, ⟨s_get (C := RX5) (T := TX5) (N := 12) rfl inT5 (by decide) tw_1_91 (by decide +kernel) rfl, ⟨s_iload_n (k := 2) (by decide +kernel) rfl rfl, ⟨s_iconst (by decide +kernel) rfl ⟨by decide, by decide⟩, ⟨s_iast (by decide +kernel) rfl, ⟨s_aload_n (k := 0) (by decide +kernel) rfl rfl, ⟨s_get (C := RX5) (T := TX5) (N := 12) rfl inT5 (by decide) tw_1_93 (by decide +kernel) rfl, ⟨s_iload_n (k := 2) (by decide +kernel) rfl rfl, ⟨s_iconst (by decide +kernel) rfl ⟨by decide, by decide⟩, ⟨s_iast (by decide +kernel) rfl, ⟨s_iinc (by decide +kernel) rfl, ⟨s_goto (off := (-23)) (by decide +kernel) rfl, ⟨s_vret rfl (by decide +kernel), trivial⟩⟩⟩⟩⟩⟩⟩⟩⟩⟩⟩⟩⟩⟩⟩⟩⟩⟩⟩⟩⟩⟩⟩⟩⟩⟩⟩
theorem ct_X5_begin : Ctr yX5_begin cX5_begin 3 none 0 0 sp_X5_begin := by
  refine ctr_of (by decide +kernel) ao_X5_begin rfl ?_
  rintro av M Ret ⟨w, rfl, hR⟩ hok hM
  exact ⟨Nat.le_of_ble_eq_true rfl, fun Z hZ => b_X5_begin  w (hok _ (List.mem_of_getElem? (i := 1) rfl)) M Ret  hR hM Z hZ⟩
def sp_X5_addCell : SP := fun av M Ret => ∃ c : Int, av = [mr 10, mi c] ∧ (0 ≤ M 10 4 ∧ M 10 4 < 240) ∧ (∀ M2 : Mem, (M2 = addCl M c) → Ret none M2)
theorem k_X5_addCell {code : List Sem} {Z : KZ} {Ret : KR} {ls : List (Option MV)} {M : Mem} {r : List MV} (hZ : Sim code Z Ret) (ip np : Nat) {c : Int} (hc : code[ip]? = some (I_callV 5 1 sp_X5_addCell)) (hn : ip + 1 = np) (h3 : catS r ≤ 8)  (hp : 0 ≤ M 10 4 ∧ M 10 4 < 240) (kz : ∀ M2 : Mem, (M2 = addCl M c) → Z np ls r M2) : Z ip ls (mi c :: mr 10 :: r) M := w_callV1 hZ ip np hc hn rfl rfl h3 ⟨_, rfl, hp, fun M2 h => kz M2 h⟩
def cd_X5_addCell : List Sem := [I_aload 0, I_get 5 4, I_const (240), I_cge 16, I_aload 0, I_get 5 0, I_aload 0, I_get 5 4, I_iload 1, I_iast, I_aload 0, I_dup, I_get 5 4, I_const (1), I_add, I_puti 5 4, I_vret]
def pc_X5_addCell : List Nat := [0, 1, 4, 7, 10, 11, 14, 15, 18, 19, 20, 21, 22, 25, 26, 27, 30]
set_option maxRecDepth 100000 in
set_option maxHeartbeats 4000000 in
theorem b_X5_addCell (c : Int) (i_c : InR c) (M : Mem) (Ret : KR) (hp : 0 ≤ M 10 4 ∧ M 10 4 < 240) (hR : ∀ M2 : Mem, (M2 = addCl M c) → Ret none M2) (hM : MOk M) (Z : KZ) (hZ : Sim cd_X5_addCell Z Ret) : Z 0 [some (mr 10), some (mi c)] [] M := by
  obtain ⟨b1, b2⟩ := hp
  refine w_aload hZ 0 1 rfl rfl rfl ?_
  refine w_geti hZ 1 2 rfl rfl rfl rfl rfl ?_
  refine w_const hZ 2 3 rfl rfl  ?_
  refine w_cge hZ 3 4 rfl rfl (fun c3 => absurd c3 (by omega)) (fun c3 => ?_)
  refine w_aload hZ 4 5 rfl rfl rfl ?_
  refine w_getr hZ 5 6 rfl rfl rfl rfl rfl ?_
  refine w_aload hZ 6 7 rfl rfl rfl ?_
  refine w_geti hZ 7 8 rfl rfl rfl rfl rfl ?_
  refine w_iload hZ 8 9 rfl rfl rfl ?_
  refine w_iast hZ 9 10 rfl rfl rfl (by omega) (by omega) ?_
  refine w_aload hZ 10 11 rfl rfl rfl ?_
  refine w_dup hZ 11 12 rfl rfl rfl ?_
  refine w_getiv hZ 12 13 rfl rfl rfl rfl rfl (v := M 10 4) rfl ?_
  refine w_const hZ 13 14 rfl rfl  ?_
  refine w_add hZ 14 15 rfl rfl (by unfold InR; omega) ?_
  refine w_puti hZ 15 16 rfl rfl rfl rfl rfl ?_
  refine w_vret hZ 16 rfl ?_
  exact hR _ rfl
set_option maxRecDepth 100000 in
set_option maxHeartbeats 4000000 in
theorem ao_X5_addCell : AllOk yX5_addCell.cls cX5_addCell 2 0 0 none none pc_X5_addCell 0 cd_X5_addCell := ⟨s_aload_n (k := 0) (by decide +kernel) rfl rfl, ⟨s_get (C := RX5) (T := TX5) (N := 12) rfl inT5 (by decide) tw_1_96 (by decide +kernel) rfl, ⟨s_sipush (by decide +kernel) rfl ⟨by decide, by decide⟩ (by decide +kernel), ⟨s_cge (off := (23)) (by decide +kernel) rfl rfl, ⟨s_aload_n (k := 0) (by decide +kernel) rfl rfl, ⟨s_get (C := RX5) (T := TX5) (N := 12) rfl inT5 (by decide) tw_1_89 (by decide +kernel) rfl, ⟨s_aload_n (k := 0) (by decide +kernel) rfl rfl, ⟨s_get (C := RX5) (T := TX5) (N := 12) rfl inT5 (by decide) tw_1_96 (by decide +kernel) rfl, ⟨s_iload_n (k := 1) (by decide +kernel) rfl rfl, ⟨s_iast (by decide +kernel) rfl, ⟨s_aload_n (k := 0) (by decide +kernel) rfl rfl, ⟨s_dup (by decide +kernel) rfl, ⟨s_get (C := RX5) (T := TX5) (N := 12) rfl inT5 (by decide) tw_1_96 (by decide +kernel) rfl, ⟨s_iconst (by decide +kernel) rfl ⟨by decide, by decide⟩, ⟨s_add (by decide +kernel) rfl, ⟨s_puti (C := RX5) (T := TX5) (N := 12) (tyf := tyX5) rfl inT5 tyX5_ok nmX5 (by decide) rfl rfl tw_1_96 (by decide +kernel) rfl, ⟨s_vret rfl (by decide +kernel), trivial⟩⟩⟩⟩⟩⟩⟩⟩⟩⟩⟩⟩⟩⟩⟩⟩⟩
theorem ct_X5_addCell : Ctr yX5_addCell cX5_addCell 2 none 0 0 sp_X5_addCell := by
  refine ctr_of (by decide +kernel) ao_X5_addCell rfl ?_
  rintro av M Ret ⟨c, rfl, hp, hR⟩ hok hM
  exact ⟨Nat.le_of_ble_eq_true rfl, fun Z hZ => b_X5_addCell  c (hok _ (List.mem_of_getElem? (i := 1) rfl)) M Ret hp hR hM Z hZ⟩
def sp_X5_mayStand : SP := fun av M Ret => ∃ kd : Int, ∃ fr : Int, ∃ to : Int, av = [mr 10, mi kd, mi fr, mi to] ∧ (M 10 7 ≤ fr ∧ to ≤ M 10 8) ∧ (Ret (some (mi (b2i (kdOk kd fr to (M 10 7) (M 10 8))))) M)
theorem k_X5_mayStand {code : List Sem} {Z : KZ} {Ret : KR} {ls : List (Option MV)} {M : Mem} {r : List MV} (hZ : Sim code Z Ret) (ip np : Nat) {kd fr to : Int} (hc : code[ip]? = some (I_callV 5 3 sp_X5_mayStand)) (hn : ip + 1 = np) (h3 : catS r ≤ 8)  (hp : M 10 7 ≤ fr ∧ to ≤ M 10 8) (kz : Z np ls (mi (b2i (kdOk kd fr to (M 10 7) (M 10 8))) :: r) M) : Z ip ls (mi to :: mi fr :: mi kd :: mr 10 :: r) M := w_callV3 hZ ip np hc hn rfl rfl h3 ⟨_, _, _, rfl, hp, kz⟩
def cd_X5_mayStand : List Sem := [I_iload 2, I_aload 0, I_get 5 7, I_cle 6, I_const (1), I_goto 7, I_const (0), I_istore 4, I_iload 3, I_aload 0, I_get 5 8, I_cge 14, I_const (1), I_goto 15, I_const (0), I_istore 5, I_iload 1, I_tsw (0) [18, 20, 28, 36] 44, I_const (1), I_zret, I_iload 4, I_ifne 26, I_iload 5, I_ifne 26, I_const (1), I_goto 27, I_const (0), I_zret, I_iload 4, I_ifne 34, I_iload 5, I_ifeq 34, I_const (1), I_goto 35, I_const (0), I_zret, I_iload 4, I_ifeq 42, I_iload 5, I_ifne 42, I_const (1), I_goto 43, I_const (0), I_zret, I_iload 4, I_ifeq 50, I_iload 5, I_ifeq 50, I_const (1), I_goto 51, I_const (0), I_zret]
def pc_X5_mayStand : List Nat := [0, 1, 2, 5, 8, 9, 12, 13, 15, 16, 17, 20, 23, 24, 27, 28, 30, 31, 60, 61, 62, 64, 67, 69, 72, 73, 76, 77, 78, 80, 83, 85, 88, 89, 92, 93, 94, 96, 99, 101, 104, 105, 108, 109, 110, 112, 115, 117, 120, 121, 124, 125]
set_option maxRecDepth 100000 in
set_option maxHeartbeats 4000000 in
theorem b_X5_mayStand (kd : Int) (i_kd : InR kd) (fr : Int) (i_fr : InR fr) (to : Int) (i_to : InR to) (M : Mem) (Ret : KR) (hp : M 10 7 ≤ fr ∧ to ≤ M 10 8) (hR : Ret (some (mi (b2i (kdOk kd fr to (M 10 7) (M 10 8))))) M) (hM : MOk M) (Z : KZ) (hZ : Sim cd_X5_mayStand Z Ret) : Z 0 [some (mr 10), some (mi kd), some (mi fr), some (mi to), none, none] [] M := by
  obtain ⟨b1, b2⟩ := hp
  refine w_iload hZ 0 1 rfl rfl rfl ?_
  refine w_aload hZ 1 2 rfl rfl rfl ?_
  refine w_geti hZ 2 3 rfl rfl rfl rfl rfl ?_
  refine w_cle hZ 3 4 rfl rfl (fun c3 => ?_) (fun c3 => ?_)
  · refine w_const hZ 6 7 rfl rfl  ?_
    refine w_st6_4 hZ 7 8 rfl rfl rfl ?_
    refine w_iload hZ 8 9 rfl rfl rfl ?_
    refine w_aload hZ 9 10 rfl rfl rfl ?_
    refine w_geti hZ 10 11 rfl rfl rfl rfl rfl ?_
    refine w_cge hZ 11 12 rfl rfl (fun c11 => ?_) (fun c11 => ?_)
    · refine w_const hZ 14 15 rfl rfl  ?_
      refine w_st6_5 hZ 15 16 rfl rfl rfl ?_
      refine w_iload hZ 16 17 rfl rfl rfl ?_
      refine w_tsw4 hZ 17 rfl (fun c17 => ?_) (fun c17 => ?_) (fun c17 => ?_) (fun c17 => ?_) (fun c17 => ?_)
      · refine w_const hZ 18 19 rfl rfl  ?_
        refine w_zret hZ 19 rfl (by omega) ?_
        exact ret_i hR (by (first | refine b2i_t ?_ | refine b2i_f ?_); simp only [kdOk]; omega)
      · refine w_iload hZ 20 21 rfl rfl rfl ?_
        refine w_ifne hZ 21 22 rfl rfl (fun c21 => ?_) (fun c21 => ?_)
        · refine w_const hZ 26 27 rfl rfl  ?_
          refine w_zret hZ 27 rfl (by omega) ?_
          exact ret_i hR (by (first | refine b2i_t ?_ | refine b2i_f ?_); simp only [kdOk]; omega)
        · refine w_iload hZ 22 23 rfl rfl rfl ?_
          refine w_ifne hZ 23 24 rfl rfl (fun c23 => ?_) (fun c23 => ?_)
          · refine w_const hZ 26 27 rfl rfl  ?_
            refine w_zret hZ 27 rfl (by omega) ?_
            exact ret_i hR (by (first | refine b2i_t ?_ | refine b2i_f ?_); simp only [kdOk]; omega)
          · refine w_const hZ 24 25 rfl rfl  ?_
            refine w_goto hZ 25 27 rfl ?_
            refine w_zret hZ 27 rfl (by omega) ?_
            exact ret_i hR (by (first | refine b2i_t ?_ | refine b2i_f ?_); simp only [kdOk]; omega)
      · refine w_iload hZ 28 29 rfl rfl rfl ?_
        refine w_ifne hZ 29 30 rfl rfl (fun c29 => ?_) (fun c29 => ?_)
        · refine w_const hZ 34 35 rfl rfl  ?_
          refine w_zret hZ 35 rfl (by omega) ?_
          exact ret_i hR (by (first | refine b2i_t ?_ | refine b2i_f ?_); simp only [kdOk]; omega)
        · refine w_iload hZ 30 31 rfl rfl rfl ?_
          refine w_ifeq hZ 31 32 rfl rfl (fun c31 => ?_) (fun c31 => ?_)
          · refine w_const hZ 34 35 rfl rfl  ?_
            refine w_zret hZ 35 rfl (by omega) ?_
            exact ret_i hR (by (first | refine b2i_t ?_ | refine b2i_f ?_); simp only [kdOk]; omega)
          · refine w_const hZ 32 33 rfl rfl  ?_
            refine w_goto hZ 33 35 rfl ?_
            refine w_zret hZ 35 rfl (by omega) ?_
            exact ret_i hR (by (first | refine b2i_t ?_ | refine b2i_f ?_); simp only [kdOk]; omega)
      · refine w_iload hZ 36 37 rfl rfl rfl ?_
        refine w_ifeq hZ 37 38 rfl rfl (fun c37 => ?_) (fun c37 => ?_)
        · refine w_const hZ 42 43 rfl rfl  ?_
          refine w_zret hZ 43 rfl (by omega) ?_
          exact ret_i hR (by (first | refine b2i_t ?_ | refine b2i_f ?_); simp only [kdOk]; omega)
        · refine w_iload hZ 38 39 rfl rfl rfl ?_
          refine w_ifne hZ 39 40 rfl rfl (fun c39 => ?_) (fun c39 => ?_)
          · refine w_const hZ 42 43 rfl rfl  ?_
            refine w_zret hZ 43 rfl (by omega) ?_
            exact ret_i hR (by (first | refine b2i_t ?_ | refine b2i_f ?_); simp only [kdOk]; omega)
          · refine w_const hZ 40 41 rfl rfl  ?_
            refine w_goto hZ 41 43 rfl ?_
            refine w_zret hZ 43 rfl (by omega) ?_
            exact ret_i hR (by (first | refine b2i_t ?_ | refine b2i_f ?_); simp only [kdOk]; omega)
      · refine w_iload hZ 44 45 rfl rfl rfl ?_
        refine w_ifeq hZ 45 46 rfl rfl (fun c45 => ?_) (fun c45 => ?_)
        · refine w_const hZ 50 51 rfl rfl  ?_
          refine w_zret hZ 51 rfl (by omega) ?_
          exact ret_i hR (by (first | refine b2i_t ?_ | refine b2i_f ?_); simp only [kdOk]; omega)
        · refine w_iload hZ 46 47 rfl rfl rfl ?_
          refine w_ifeq hZ 47 48 rfl rfl (fun c47 => ?_) (fun c47 => ?_)
          · refine w_const hZ 50 51 rfl rfl  ?_
            refine w_zret hZ 51 rfl (by omega) ?_
            exact ret_i hR (by (first | refine b2i_t ?_ | refine b2i_f ?_); simp only [kdOk]; omega)
          · refine w_const hZ 48 49 rfl rfl  ?_
            refine w_goto hZ 49 51 rfl ?_
            refine w_zret hZ 51 rfl (by omega) ?_
            exact ret_i hR (by (first | refine b2i_t ?_ | refine b2i_f ?_); simp only [kdOk]; omega)
    · refine w_const hZ 12 13 rfl rfl  ?_
      refine w_goto hZ 13 15 rfl ?_
      refine w_st6_5 hZ 15 16 rfl rfl rfl ?_
      refine w_iload hZ 16 17 rfl rfl rfl ?_
      refine w_tsw4 hZ 17 rfl (fun c17 => ?_) (fun c17 => ?_) (fun c17 => ?_) (fun c17 => ?_) (fun c17 => ?_)
      · refine w_const hZ 18 19 rfl rfl  ?_
        refine w_zret hZ 19 rfl (by omega) ?_
        exact ret_i hR (by (first | refine b2i_t ?_ | refine b2i_f ?_); simp only [kdOk]; omega)
      · refine w_iload hZ 20 21 rfl rfl rfl ?_
        refine w_ifne hZ 21 22 rfl rfl (fun c21 => ?_) (fun c21 => ?_)
        · refine w_const hZ 26 27 rfl rfl  ?_
          refine w_zret hZ 27 rfl (by omega) ?_
          exact ret_i hR (by (first | refine b2i_t ?_ | refine b2i_f ?_); simp only [kdOk]; omega)
        · refine w_iload hZ 22 23 rfl rfl rfl ?_
          refine w_ifne hZ 23 24 rfl rfl (fun c23 => ?_) (fun c23 => ?_)
          · refine w_const hZ 26 27 rfl rfl  ?_
            refine w_zret hZ 27 rfl (by omega) ?_
            exact ret_i hR (by (first | refine b2i_t ?_ | refine b2i_f ?_); simp only [kdOk]; omega)
          · refine w_const hZ 24 25 rfl rfl  ?_
            refine w_goto hZ 25 27 rfl ?_
            refine w_zret hZ 27 rfl (by omega) ?_
            exact ret_i hR (by (first | refine b2i_t ?_ | refine b2i_f ?_); simp only [kdOk]; omega)
      · refine w_iload hZ 28 29 rfl rfl rfl ?_
        refine w_ifne hZ 29 30 rfl rfl (fun c29 => ?_) (fun c29 => ?_)
        · refine w_const hZ 34 35 rfl rfl  ?_
          refine w_zret hZ 35 rfl (by omega) ?_
          exact ret_i hR (by (first | refine b2i_t ?_ | refine b2i_f ?_); simp only [kdOk]; omega)
        · refine w_iload hZ 30 31 rfl rfl rfl ?_
          refine w_ifeq hZ 31 32 rfl rfl (fun c31 => ?_) (fun c31 => ?_)
          · refine w_const hZ 34 35 rfl rfl  ?_
            refine w_zret hZ 35 rfl (by omega) ?_
            exact ret_i hR (by (first | refine b2i_t ?_ | refine b2i_f ?_); simp only [kdOk]; omega)
          · refine w_const hZ 32 33 rfl rfl  ?_
            refine w_goto hZ 33 35 rfl ?_
            refine w_zret hZ 35 rfl (by omega) ?_
            exact ret_i hR (by (first | refine b2i_t ?_ | refine b2i_f ?_); simp only [kdOk]; omega)
      · refine w_iload hZ 36 37 rfl rfl rfl ?_
        refine w_ifeq hZ 37 38 rfl rfl (fun c37 => ?_) (fun c37 => ?_)
        · refine w_const hZ 42 43 rfl rfl  ?_
          refine w_zret hZ 43 rfl (by omega) ?_
          exact ret_i hR (by (first | refine b2i_t ?_ | refine b2i_f ?_); simp only [kdOk]; omega)
        · refine w_iload hZ 38 39 rfl rfl rfl ?_
          refine w_ifne hZ 39 40 rfl rfl (fun c39 => ?_) (fun c39 => ?_)
          · refine w_const hZ 42 43 rfl rfl  ?_
            refine w_zret hZ 43 rfl (by omega) ?_
            exact ret_i hR (by (first | refine b2i_t ?_ | refine b2i_f ?_); simp only [kdOk]; omega)
          · refine w_const hZ 40 41 rfl rfl  ?_
            refine w_goto hZ 41 43 rfl ?_
            refine w_zret hZ 43 rfl (by omega) ?_
            exact ret_i hR (by (first | refine b2i_t ?_ | refine b2i_f ?_); simp only [kdOk]; omega)
      · refine w_iload hZ 44 45 rfl rfl rfl ?_
        refine w_ifeq hZ 45 46 rfl rfl (fun c45 => ?_) (fun c45 => ?_)
        · refine w_const hZ 50 51 rfl rfl  ?_
          refine w_zret hZ 51 rfl (by omega) ?_
          exact ret_i hR (by (first | refine b2i_t ?_ | refine b2i_f ?_); simp only [kdOk]; omega)
        · refine w_iload hZ 46 47 rfl rfl rfl ?_
          refine w_ifeq hZ 47 48 rfl rfl (fun c47 => ?_) (fun c47 => ?_)
          · refine w_const hZ 50 51 rfl rfl  ?_
            refine w_zret hZ 51 rfl (by omega) ?_
            exact ret_i hR (by (first | refine b2i_t ?_ | refine b2i_f ?_); simp only [kdOk]; omega)
          · refine w_const hZ 48 49 rfl rfl  ?_
            refine w_goto hZ 49 51 rfl ?_
            refine w_zret hZ 51 rfl (by omega) ?_
            exact ret_i hR (by (first | refine b2i_t ?_ | refine b2i_f ?_); simp only [kdOk]; omega)
  · refine w_const hZ 4 5 rfl rfl  ?_
    refine w_goto hZ 5 7 rfl ?_
    refine w_st6_4 hZ 7 8 rfl rfl rfl ?_
    refine w_iload hZ 8 9 rfl rfl rfl ?_
    refine w_aload hZ 9 10 rfl rfl rfl ?_
    refine w_geti hZ 10 11 rfl rfl rfl rfl rfl ?_
    refine w_cge hZ 11 12 rfl rfl (fun c11 => ?_) (fun c11 => ?_)
    · refine w_const hZ 14 15 rfl rfl  ?_
      refine w_st6_5 hZ 15 16 rfl rfl rfl ?_
      refine w_iload hZ 16 17 rfl rfl rfl ?_
      refine w_tsw4 hZ 17 rfl (fun c17 => ?_) (fun c17 => ?_) (fun c17 => ?_) (fun c17 => ?_) (fun c17 => ?_)
      · refine w_const hZ 18 19 rfl rfl  ?_
        refine w_zret hZ 19 rfl (by omega) ?_
        exact ret_i hR (by (first | refine b2i_t ?_ | refine b2i_f ?_); simp only [kdOk]; omega)
      · refine w_iload hZ 20 21 rfl rfl rfl ?_
        refine w_ifne hZ 21 22 rfl rfl (fun c21 => ?_) (fun c21 => ?_)
        · refine w_const hZ 26 27 rfl rfl  ?_
          refine w_zret hZ 27 rfl (by omega) ?_
          exact ret_i hR (by (first | refine b2i_t ?_ | refine b2i_f ?_); simp only [kdOk]; omega)
        · refine w_iload hZ 22 23 rfl rfl rfl ?_
          refine w_ifne hZ 23 24 rfl rfl (fun c23 => ?_) (fun c23 => ?_)
          · refine w_const hZ 26 27 rfl rfl  ?_
            refine w_zret hZ 27 rfl (by omega) ?_
            exact ret_i hR (by (first | refine b2i_t ?_ | refine b2i_f ?_); simp only [kdOk]; omega)
          · refine w_const hZ 24 25 rfl rfl  ?_
            refine w_goto hZ 25 27 rfl ?_
            refine w_zret hZ 27 rfl (by omega) ?_
            exact ret_i hR (by (first | refine b2i_t ?_ | refine b2i_f ?_); simp only [kdOk]; omega)
      · refine w_iload hZ 28 29 rfl rfl rfl ?_
        refine w_ifne hZ 29 30 rfl rfl (fun c29 => ?_) (fun c29 => ?_)
        · refine w_const hZ 34 35 rfl rfl  ?_
          refine w_zret hZ 35 rfl (by omega) ?_
          exact ret_i hR (by (first | refine b2i_t ?_ | refine b2i_f ?_); simp only [kdOk]; omega)
        · refine w_iload hZ 30 31 rfl rfl rfl ?_
          refine w_ifeq hZ 31 32 rfl rfl (fun c31 => ?_) (fun c31 => ?_)
          · refine w_const hZ 34 35 rfl rfl  ?_
            refine w_zret hZ 35 rfl (by omega) ?_
            exact ret_i hR (by (first | refine b2i_t ?_ | refine b2i_f ?_); simp only [kdOk]; omega)
          · refine w_const hZ 32 33 rfl rfl  ?_
            refine w_goto hZ 33 35 rfl ?_
            refine w_zret hZ 35 rfl (by omega) ?_
            exact ret_i hR (by (first | refine b2i_t ?_ | refine b2i_f ?_); simp only [kdOk]; omega)
      · refine w_iload hZ 36 37 rfl rfl rfl ?_
        refine w_ifeq hZ 37 38 rfl rfl (fun c37 => ?_) (fun c37 => ?_)
        · refine w_const hZ 42 43 rfl rfl  ?_
          refine w_zret hZ 43 rfl (by omega) ?_
          exact ret_i hR (by (first | refine b2i_t ?_ | refine b2i_f ?_); simp only [kdOk]; omega)
        · refine w_iload hZ 38 39 rfl rfl rfl ?_
          refine w_ifne hZ 39 40 rfl rfl (fun c39 => ?_) (fun c39 => ?_)
          · refine w_const hZ 42 43 rfl rfl  ?_
            refine w_zret hZ 43 rfl (by omega) ?_
            exact ret_i hR (by (first | refine b2i_t ?_ | refine b2i_f ?_); simp only [kdOk]; omega)
          · refine w_const hZ 40 41 rfl rfl  ?_
            refine w_goto hZ 41 43 rfl ?_
            refine w_zret hZ 43 rfl (by omega) ?_
            exact ret_i hR (by (first | refine b2i_t ?_ | refine b2i_f ?_); simp only [kdOk]; omega)
      · refine w_iload hZ 44 45 rfl rfl rfl ?_
        refine w_ifeq hZ 45 46 rfl rfl (fun c45 => ?_) (fun c45 => ?_)
        · refine w_const hZ 50 51 rfl rfl  ?_
          refine w_zret hZ 51 rfl (by omega) ?_
          exact ret_i hR (by (first | refine b2i_t ?_ | refine b2i_f ?_); simp only [kdOk]; omega)
        · refine w_iload hZ 46 47 rfl rfl rfl ?_
          refine w_ifeq hZ 47 48 rfl rfl (fun c47 => ?_) (fun c47 => ?_)
          · refine w_const hZ 50 51 rfl rfl  ?_
            refine w_zret hZ 51 rfl (by omega) ?_
            exact ret_i hR (by (first | refine b2i_t ?_ | refine b2i_f ?_); simp only [kdOk]; omega)
          · refine w_const hZ 48 49 rfl rfl  ?_
            refine w_goto hZ 49 51 rfl ?_
            refine w_zret hZ 51 rfl (by omega) ?_
            exact ret_i hR (by (first | refine b2i_t ?_ | refine b2i_f ?_); simp only [kdOk]; omega)
    · refine w_const hZ 12 13 rfl rfl  ?_
      refine w_goto hZ 13 15 rfl ?_
      refine w_st6_5 hZ 15 16 rfl rfl rfl ?_
      refine w_iload hZ 16 17 rfl rfl rfl ?_
      refine w_tsw4 hZ 17 rfl (fun c17 => ?_) (fun c17 => ?_) (fun c17 => ?_) (fun c17 => ?_) (fun c17 => ?_)
      · refine w_const hZ 18 19 rfl rfl  ?_
        refine w_zret hZ 19 rfl (by omega) ?_
        exact ret_i hR (by (first | refine b2i_t ?_ | refine b2i_f ?_); simp only [kdOk]; omega)
      · refine w_iload hZ 20 21 rfl rfl rfl ?_
        refine w_ifne hZ 21 22 rfl rfl (fun c21 => ?_) (fun c21 => ?_)
        · refine w_const hZ 26 27 rfl rfl  ?_
          refine w_zret hZ 27 rfl (by omega) ?_
          exact ret_i hR (by (first | refine b2i_t ?_ | refine b2i_f ?_); simp only [kdOk]; omega)
        · refine w_iload hZ 22 23 rfl rfl rfl ?_
          refine w_ifne hZ 23 24 rfl rfl (fun c23 => ?_) (fun c23 => ?_)
          · refine w_const hZ 26 27 rfl rfl  ?_
            refine w_zret hZ 27 rfl (by omega) ?_
            exact ret_i hR (by (first | refine b2i_t ?_ | refine b2i_f ?_); simp only [kdOk]; omega)
          · refine w_const hZ 24 25 rfl rfl  ?_
            refine w_goto hZ 25 27 rfl ?_
            refine w_zret hZ 27 rfl (by omega) ?_
            exact ret_i hR (by (first | refine b2i_t ?_ | refine b2i_f ?_); simp only [kdOk]; omega)
      · refine w_iload hZ 28 29 rfl rfl rfl ?_
        refine w_ifne hZ 29 30 rfl rfl (fun c29 => ?_) (fun c29 => ?_)
        · refine w_const hZ 34 35 rfl rfl  ?_
          refine w_zret hZ 35 rfl (by omega) ?_
          exact ret_i hR (by (first | refine b2i_t ?_ | refine b2i_f ?_); simp only [kdOk]; omega)
        · refine w_iload hZ 30 31 rfl rfl rfl ?_
          refine w_ifeq hZ 31 32 rfl rfl (fun c31 => ?_) (fun c31 => ?_)
          · refine w_const hZ 34 35 rfl rfl  ?_
            refine w_zret hZ 35 rfl (by omega) ?_
            exact ret_i hR (by (first | refine b2i_t ?_ | refine b2i_f ?_); simp only [kdOk]; omega)
          · refine w_const hZ 32 33 rfl rfl  ?_
            refine w_goto hZ 33 35 rfl ?_
            refine w_zret hZ 35 rfl (by omega) ?_
            exact ret_i hR (by (first | refine b2i_t ?_ | refine b2i_f ?_); simp only [kdOk]; omega)
      · refine w_iload hZ 36 37 rfl rfl rfl ?_
        refine w_ifeq hZ 37 38 rfl rfl (fun c37 => ?_) (fun c37 => ?_)
        · refine w_const hZ 42 43 rfl rfl  ?_
          refine w_zret hZ 43 rfl (by omega) ?_
          exact ret_i hR (by (first | refine b2i_t ?_ | refine b2i_f ?_); simp only [kdOk]; omega)
        · refine w_iload hZ 38 39 rfl rfl rfl ?_
          refine w_ifne hZ 39 40 rfl rfl (fun c39 => ?_) (fun c39 => ?_)
          · refine w_const hZ 42 43 rfl rfl  ?_
            refine w_zret hZ 43 rfl (by omega) ?_
            exact ret_i hR (by (first | refine b2i_t ?_ | refine b2i_f ?_); simp only [kdOk]; omega)
          · refine w_const hZ 40 41 rfl rfl  ?_
            refine w_goto hZ 41 43 rfl ?_
            refine w_zret hZ 43 rfl (by omega) ?_
            exact ret_i hR (by (first | refine b2i_t ?_ | refine b2i_f ?_); simp only [kdOk]; omega)
      · refine w_iload hZ 44 45 rfl rfl rfl ?_
        refine w_ifeq hZ 45 46 rfl rfl (fun c45 => ?_) (fun c45 => ?_)
        · refine w_const hZ 50 51 rfl rfl  ?_
          refine w_zret hZ 51 rfl (by omega) ?_
          exact ret_i hR (by (first | refine b2i_t ?_ | refine b2i_f ?_); simp only [kdOk]; omega)
        · refine w_iload hZ 46 47 rfl rfl rfl ?_
          refine w_ifeq hZ 47 48 rfl rfl (fun c47 => ?_) (fun c47 => ?_)
          · refine w_const hZ 50 51 rfl rfl  ?_
            refine w_zret hZ 51 rfl (by omega) ?_
            exact ret_i hR (by (first | refine b2i_t ?_ | refine b2i_f ?_); simp only [kdOk]; omega)
          · refine w_const hZ 48 49 rfl rfl  ?_
            refine w_goto hZ 49 51 rfl ?_
            refine w_zret hZ 51 rfl (by omega) ?_
            exact ret_i hR (by (first | refine b2i_t ?_ | refine b2i_f ?_); simp only [kdOk]; omega)
set_option maxRecDepth 100000 in
set_option maxHeartbeats 4000000 in
theorem ao_X5_mayStand : AllOk yX5_mayStand.cls cX5_mayStand 6 0 0 (some .boolean) none pc_X5_mayStand 0 cd_X5_mayStand := ⟨s_iload_n (k := 2) (by decide +kernel) rfl rfl, ⟨s_aload_n (k := 0) (by decide +kernel) rfl rfl, ⟨s_get (C := RX5) (T := TX5) (N := 12) rfl inT5 (by decide) tw_1_99 (by decide +kernel) rfl, ⟨s_cle (off := (7)) (by decide +kernel) rfl rfl, ⟨s_iconst (by decide +kernel) rfl ⟨by decide, by decide⟩, ⟨s_goto (off := (4)) (by decide +kernel) rfl, ⟨s_iconst (by decide +kernel) rfl ⟨by decide, by decide⟩, ⟨s_istore (by decide +kernel) rfl, ⟨s_iload_n (k := 3) (by decide +kernel) rfl rfl, ⟨s_aload_n (k := 0) (by decide +kernel) rfl rfl, ⟨s_get (C := RX5) (T := TX5) (N := 12) rfl inT5 (by decide) tw_1_100 (by decide +kernel) rfl, ⟨s_cge (off := (7)) (by decide +kernel) rfl rfl, ⟨s_iconst (by decide +kernel) rfl ⟨by decide, by decide⟩, ⟨s_goto (off := (4)) (by decide +kernel) rfl, ⟨s_iconst (by decide +kernel) rfl ⟨by decide, by decide⟩, ⟨s_istore (by decide +kernel) rfl, ⟨s_iload_n (k := 1) (by decide +kernel) rfl rfl, ⟨s_tsw (dfl := 79) (hi0 := 3) (offs := #[29, 31, 47, 63]) (len := 29) (by decide +kernel) rfl rfl rfl, ⟨s_iconst (by decide +kernel) rfl ⟨by decide, by decide⟩, ⟨s_zret rfl (by decide +kernel), ⟨s_iload (by decide +kernel) rfl, ⟨s_ifne (off := (12)) (by decide +kernel) rfl rfl, ⟨s_iload (by decide +kernel) rfl, ⟨s_ifne (off := (7)) (by decide +kernel) rfl rfl, ⟨s_iconst (by decide +kernel) rfl ⟨by decide, by decide⟩, ⟨s_goto (off := (4)) (by decide +kernel) rfl, ⟨s_iconst (by decide +kernel) rfl ⟨by decide, by decide⟩, ⟨s_zret rfl (by decide +kernel), ⟨s_iload (by decide +kernel) rfl, ⟨s_ifne (off := (12)) (by decide +kernel) rfl rfl, ⟨s_iload (by decide +kernel) rfl, ⟨s_ifeq (off := (7)) (by decide +kernel) rfl rfl, ⟨s_iconst (by decide +kernel) rfl ⟨by decide, by decide⟩, ⟨s_goto (off := (4)) (by decide +kernel) rfl, ⟨s_iconst (by decide +kernel) rfl ⟨by decide, by decide⟩, ⟨s_zret rfl (by decide +kernel), ⟨s_iload (by decide +kernel) rfl, ⟨s_ifeq (off := (12)) (by decide +kernel) rfl rfl, ⟨s_iload (by decide +kernel) rfl, ⟨s_ifne (off := (7)) (by decide +kernel) rfl rfl, ⟨s_iconst (by decide +kernel) rfl ⟨by decide, by decide⟩, ⟨s_goto (off := (4)) (by decide +kernel) rfl, ⟨s_iconst (by decide +kernel) rfl ⟨by decide, by decide⟩, ⟨s_zret rfl (by decide +kernel), ⟨s_iload (by decide +kernel) rfl, ⟨s_ifeq (off := (12)) (by decide +kernel) rfl rfl, ⟨s_iload (by decide +kernel) rfl, ⟨s_ifeq (off := (7)) (by decide +kernel) rfl rfl, ⟨s_iconst (by decide +kernel) rfl ⟨by decide, by decide⟩, ⟨s_goto (off := (4)) (by decide +kernel) rfl, ⟨s_iconst (by decide +kernel) rfl ⟨by decide, by decide⟩, ⟨s_zret rfl (by decide +kernel), trivial⟩⟩⟩⟩⟩⟩⟩⟩⟩⟩⟩⟩⟩⟩⟩⟩⟩⟩⟩⟩⟩⟩⟩⟩⟩⟩⟩⟩⟩⟩⟩⟩⟩⟩⟩⟩⟩⟩⟩⟩⟩⟩⟩⟩⟩⟩⟩⟩⟩⟩⟩⟩
theorem ct_X5_mayStand : Ctr yX5_mayStand cX5_mayStand 6 (some .boolean) 0 0 sp_X5_mayStand := by
  refine ctr_of (by decide +kernel) ao_X5_mayStand rfl ?_
  rintro av M Ret ⟨kd, fr, to, rfl, hp, hR⟩ hok hM
  exact ⟨Nat.le_of_ble_eq_true rfl, fun Z hZ => b_X5_mayStand  kd (hok _ (List.mem_of_getElem? (i := 1) rfl)) fr (hok _ (List.mem_of_getElem? (i := 2) rfl)) to (hok _ (List.mem_of_getElem? (i := 3) rfl)) M Ret hp hR hM Z hZ⟩
def sp_X5_ruleAt : SP := fun av M Ret => ∃ i : Int, ∃ L : Int, av = [mr 10, mi i, mi L] ∧ (vOk (bX M 1) ∧ En M ∧ M 10 7 ≤ i ∧ i < M 10 8 ∧ 2 ≤ L ∧ L ≤ 4) ∧ (Ret (some (mi (rA (bX M 1) (M 10 5) (M 10 7) (M 10 8) (gM M) i L))) M)
theorem k_X5_ruleAt {code : List Sem} {Z : KZ} {Ret : KR} {ls : List (Option MV)} {M : Mem} {r : List MV} (hZ : Sim code Z Ret) (ip np : Nat) {i L : Int} (hc : code[ip]? = some (I_callV 5 2 sp_X5_ruleAt)) (hn : ip + 1 = np) (h3 : catS r ≤ 8)  (hp : vOk (bX M 1) ∧ En M ∧ M 10 7 ≤ i ∧ i < M 10 8 ∧ 2 ≤ L ∧ L ≤ 4) (kz : Z np ls (mi (rA (bX M 1) (M 10 5) (M 10 7) (M 10 8) (gM M) i L) :: r) M) : Z ip ls (mi L :: mi i :: mr 10 :: r) M := w_callV2 hZ ip np hc hn rfl rfl h3 ⟨_, _, rfl, hp, kz⟩
def cd_X5_ruleAt : List Sem := [I_iload 1, I_iload 2, I_add, I_aload 0, I_get 5 8, I_cle 8, I_const (-1), I_iret, I_const (0), I_istore 3, I_iload 1, I_istore 4, I_iload 4, I_iload 1, I_iload 2, I_add, I_cge 35, I_aload 0, I_get 5 10, I_iload 4, I_iald, I_ifne 24, I_const (-1), I_iret, I_iload 3, I_const (27), I_mul, I_aload 0, I_get 5 10, I_iload 4, I_iald, I_add, I_istore 3, I_iinc 4 (1), I_goto 12, I_aload 0, I_get 5 3, I_iload 3, I_callV 0 1 sp_X0_ruleOfCode, I_istore 4, I_iload 4, I_const (-1), I_ceq 61, I_iload 4, I_aload 0, I_get 5 5, I_ceq 61, I_aload 0, I_aload 0, I_get 5 3, I_get 0 2, I_iload 4, I_iald, I_iload 1, I_iload 1, I_iload 2, I_add, I_callV 5 3 sp_X5_mayStand, I_ifeq 61, I_const (1), I_goto 62, I_const (0), I_istore 5, I_iload 5, I_ifeq 67, I_iload 4, I_goto 68, I_const (-1), I_iret]
def pc_X5_ruleAt : List Nat := [0, 1, 2, 3, 4, 7, 10, 11, 12, 13, 14, 15, 17, 19, 20, 21, 22, 25, 26, 29, 31, 32, 35, 36, 37, 38, 40, 41, 42, 45, 47, 48, 49, 50, 53, 56, 57, 60, 61, 64, 66, 68, 69, 72, 74, 75, 78, 81, 82, 83, 86, 89, 91, 92, 93, 94, 95, 96, 99, 102, 103, 106, 107, 109, 111, 114, 116, 119, 120]
set_option maxRecDepth 100000 in
set_option maxHeartbeats 4000000 in
theorem b_X5_ruleAt (i : Int) (i_i : InR i) (L : Int) (i_L : InR L) (M : Mem) (Ret : KR) (hp : vOk (bX M 1) ∧ En M ∧ M 10 7 ≤ i ∧ i < M 10 8 ∧ 2 ≤ L ∧ L ≤ 4) (hR : Ret (some (mi (rA (bX M 1) (M 10 5) (M 10 7) (M 10 8) (gM M) i L))) M) (hM : MOk M) (Z : KZ) (hZ : Sim cd_X5_ruleAt Z Ret) : Z 0 [some (mr 10), some (mi i), some (mi L), none, none, none] [] M := by
  obtain ⟨hv, he, hi0, hi1, hL2, hL4⟩ := hp
  have hb := hv.bx
  have hbb := hb
  obtain ⟨b1, b2, b3, b4⟩ := hbb
  have hee := he
  obtain ⟨e1, e2, e3, e4⟩ := hee
  have tail : i + L ≤ M 10 8 → ∀ c : Int, cdF (smV (bX M 1) (gM M)) L.toNat i 0 = c → 0 ≤ c → Z 35 [some (mr 10), some (mi i), some (mi L), some (mi c), none, none] [] M := by
    intro hle c hc hc0
    have hk := fIx_is (M 2) c b1
    have hfe : fIx (vC' (bX M 1)) c (vR (bX M 1)) = fIx (M 2) c (M 1 4) := fIx_cut (M 2) c b1
    have key : Hid (rA (bX M 1) (M 10 5) (M 10 7) (M 10 8) (gM M) i L = if fIx (M 2) c (M 1 4) = -1 ∨ fIx (M 2) c (M 1 4) = M 10 5 ∨ ¬ kdOk (vK (bX M 1) (fIx (M 2) c (M 1 4)).toNat) i (i + L) (M 10 7) (M 10 8) then -1 else fIx (M 2) c (M 1 4)) := by
      unfold rA Hid
      rw [if_neg (by omega), hc, if_neg (by omega), hfe]
    generalize hkx : fIx (M 2) c (M 1 4) = kx at hk key
    have hkr : kx = -1 ∨ (0 ≤ kx ∧ kx < M 1 4) := by
      rcases hk with ⟨q, -⟩ | ⟨q1, q2, -⟩
      · exact Or.inl q
      · exact Or.inr ⟨q1, q2⟩
    have hK : 0 ≤ kx → vK (bX M 1) kx.toNat = M 4 kx.toNat := fun h => cut_in (by omega)
    have k1 : (kx = -1 ∨ kx = M 10 5 ∨ (0 ≤ kx ∧ ¬ kdOk (M 4 kx.toNat) i (i + L) (M 10 7) (M 10 8))) → Hid (rA (bX M 1) (M 10 5) (M 10 7) (M 10 8) (gM M) i L = -1) := by
      intro q
      unfold Hid
      rw [key.u, if_pos]
      rcases q with q | q | ⟨q1, q2⟩
      · exact Or.inl q
      · exact Or.inr (Or.inl q)
      · rw [hK q1]; exact Or.inr (Or.inr q2)
    have k2 : ¬ kx = -1 → ¬ kx = M 10 5 → kdOk (M 4 kx.toNat) i (i + L) (M 10 7) (M 10 8) → Hid (rA (bX M 1) (M 10 5) (M 10 7) (M 10 8) (gM M) i L = kx) := by
      intro q1 q2 q3
      unfold Hid
      have h0 : 0 ≤ kx := by
        rcases hkr with q | q
        · exact absurd q q1
        · exact q.1
      rw [key.u, if_neg]
      rw [hK h0]
      rintro (q | q | q)
      · exact q1 q
      · exact q2 q
      · exact q q3
    clear hk
    refine w_aload hZ 35 36 rfl rfl rfl ?_
    refine w_getr hZ 36 37 rfl rfl rfl rfl rfl ?_
    refine w_iload hZ 37 38 rfl rfl rfl ?_
    refine k_X0_ruleOfCode hZ 38 39 rfl rfl (Nat.le_of_ble_eq_true rfl) hb ?_
    rw [hkx]
    refine w_st6_4 hZ 39 40 rfl rfl rfl ?_
    refine w_iload hZ 40 41 rfl rfl rfl ?_
    refine w_const hZ 41 42 rfl rfl  ?_
    refine w_ceq hZ 42 43 rfl rfl (fun c42 => ?_) (fun c42 => ?_)
    · refine w_const hZ 61 62 rfl rfl  ?_
      refine w_st6_5 hZ 62 63 rfl rfl rfl ?_
      refine w_iload hZ 63 64 rfl rfl rfl ?_
      refine w_ifeq hZ 64 65 rfl rfl (fun c64 => ?_) (fun c64 => ?_)
      · refine w_const hZ 67 68 rfl rfl  ?_
        refine w_iret hZ 68 rfl ?_
        first
          | exact ret_i hR (k1 (Or.inl c42))
          | exact ret_i hR (k1 (Or.inr (Or.inl c46)))
          | exact ret_i hR (k1 (Or.inr (Or.inr ⟨h0x, b2i_z.mp c58⟩)))
          | exact ret_i hR (k2 c42 c46 (b2i_e.mp c58))
          | exact absurd c64 (by decide)
      · refine w_iload hZ 65 66 rfl rfl rfl ?_
        refine w_goto hZ 66 68 rfl ?_
        refine w_iret hZ 68 rfl ?_
        first
          | exact ret_i hR (k1 (Or.inl c42))
          | exact ret_i hR (k1 (Or.inr (Or.inl c46)))
          | exact ret_i hR (k1 (Or.inr (Or.inr ⟨h0x, b2i_z.mp c58⟩)))
          | exact ret_i hR (k2 c42 c46 (b2i_e.mp c58))
          | exact absurd c64 (by decide)
    · have h0x : 0 ≤ kx := by omega
      refine w_iload hZ 43 44 rfl rfl rfl ?_
      refine w_aload hZ 44 45 rfl rfl rfl ?_
      refine w_geti hZ 45 46 rfl rfl rfl rfl rfl ?_
      refine w_ceq hZ 46 47 rfl rfl (fun c46 => ?_) (fun c46 => ?_)
      · refine w_const hZ 61 62 rfl rfl  ?_
        refine w_st6_5 hZ 62 63 rfl rfl rfl ?_
        refine w_iload hZ 63 64 rfl rfl rfl ?_
        refine w_ifeq hZ 64 65 rfl rfl (fun c64 => ?_) (fun c64 => ?_)
        · refine w_const hZ 67 68 rfl rfl  ?_
          refine w_iret hZ 68 rfl ?_
          first
            | exact ret_i hR (k1 (Or.inl c42))
            | exact ret_i hR (k1 (Or.inr (Or.inl c46)))
            | exact ret_i hR (k1 (Or.inr (Or.inr ⟨h0x, b2i_z.mp c58⟩)))
            | exact ret_i hR (k2 c42 c46 (b2i_e.mp c58))
            | exact absurd c64 (by decide)
        · refine w_iload hZ 65 66 rfl rfl rfl ?_
          refine w_goto hZ 66 68 rfl ?_
          refine w_iret hZ 68 rfl ?_
          first
            | exact ret_i hR (k1 (Or.inl c42))
            | exact ret_i hR (k1 (Or.inr (Or.inl c46)))
            | exact ret_i hR (k1 (Or.inr (Or.inr ⟨h0x, b2i_z.mp c58⟩)))
            | exact ret_i hR (k2 c42 c46 (b2i_e.mp c58))
            | exact absurd c64 (by decide)
      · refine w_aload hZ 47 48 rfl rfl rfl ?_
        refine w_aload hZ 48 49 rfl rfl rfl ?_
        refine w_getr hZ 49 50 rfl rfl rfl rfl rfl ?_
        refine w_getr hZ 50 51 rfl rfl rfl rfl rfl ?_
        refine w_iload hZ 51 52 rfl rfl rfl ?_
        refine w_iald hZ 52 53 rfl rfl rfl (by omega) (by omega) ?_
        refine w_iload hZ 53 54 rfl rfl rfl ?_
        refine w_iload hZ 54 55 rfl rfl rfl ?_
        refine w_iload hZ 55 56 rfl rfl rfl ?_
        refine w_add hZ 56 57 rfl rfl (by unfold InR; omega) ?_
        refine k_X5_mayStand hZ 57 58 rfl rfl (Nat.le_of_ble_eq_true rfl) ⟨hi0, hle⟩ ?_
        refine w_ifeq hZ 58 59 rfl rfl (fun c58 => ?_) (fun c58 => ?_)
        · refine w_const hZ 61 62 rfl rfl  ?_
          refine w_st6_5 hZ 62 63 rfl rfl rfl ?_
          refine w_iload hZ 63 64 rfl rfl rfl ?_
          refine w_ifeq hZ 64 65 rfl rfl (fun c64 => ?_) (fun c64 => ?_)
          · refine w_const hZ 67 68 rfl rfl  ?_
            refine w_iret hZ 68 rfl ?_
            first
              | exact ret_i hR (k1 (Or.inl c42))
              | exact ret_i hR (k1 (Or.inr (Or.inl c46)))
              | exact ret_i hR (k1 (Or.inr (Or.inr ⟨h0x, b2i_z.mp c58⟩)))
              | exact ret_i hR (k2 c42 c46 (b2i_e.mp c58))
              | exact absurd c64 (by decide)
          · refine w_iload hZ 65 66 rfl rfl rfl ?_
            refine w_goto hZ 66 68 rfl ?_
            refine w_iret hZ 68 rfl ?_
            first
              | exact ret_i hR (k1 (Or.inl c42))
              | exact ret_i hR (k1 (Or.inr (Or.inl c46)))
              | exact ret_i hR (k1 (Or.inr (Or.inr ⟨h0x, b2i_z.mp c58⟩)))
              | exact ret_i hR (k2 c42 c46 (b2i_e.mp c58))
              | exact absurd c64 (by decide)
        · refine w_const hZ 59 60 rfl rfl  ?_
          refine w_goto hZ 60 62 rfl ?_
          refine w_st6_5 hZ 62 63 rfl rfl rfl ?_
          refine w_iload hZ 63 64 rfl rfl rfl ?_
          refine w_ifeq hZ 64 65 rfl rfl (fun c64 => ?_) (fun c64 => ?_)
          · refine w_const hZ 67 68 rfl rfl  ?_
            refine w_iret hZ 68 rfl ?_
            first
              | exact ret_i hR (k1 (Or.inl c42))
              | exact ret_i hR (k1 (Or.inr (Or.inl c46)))
              | exact ret_i hR (k1 (Or.inr (Or.inr ⟨h0x, b2i_z.mp c58⟩)))
              | exact ret_i hR (k2 c42 c46 (b2i_e.mp c58))
              | exact absurd c64 (by decide)
          · refine w_iload hZ 65 66 rfl rfl rfl ?_
            refine w_goto hZ 66 68 rfl ?_
            refine w_iret hZ 68 rfl ?_
            first
              | exact ret_i hR (k1 (Or.inl c42))
              | exact ret_i hR (k1 (Or.inr (Or.inl c46)))
              | exact ret_i hR (k1 (Or.inr (Or.inr ⟨h0x, b2i_z.mp c58⟩)))
              | exact ret_i hR (k2 c42 c46 (b2i_e.mp c58))
              | exact absurd c64 (by decide)
  have loop : i + L ≤ M 10 8 → ∀ (d : Nat) (j c : Int), d = (i + L - j).toNat → (i ≤ j ∧ 0 ≤ c ∧ c < q27 (j - i)) → j ≤ i + L → cdF (smV (bX M 1) (gM M)) L.toNat i 0 = cdF (smV (bX M 1) (gM M)) (i + L - j).toNat j c → Z 12 [some (mr 10), some (mi i), some (mi L), some (mi c), some (mi j), none] [] M := by
    intro hle d
    induction d using Nat.strongRecOn with
    | ind d ih =>
      intro j c hd hB hj hc
      refine w_iload hZ 12 13 rfl rfl rfl ?_
      refine w_iload hZ 13 14 rfl rfl rfl ?_
      refine w_iload hZ 14 15 rfl rfl rfl ?_
      refine w_add hZ 15 16 rfl rfl (by unfold InR; omega) ?_
      refine w_cge hZ 16 17 rfl rfl (fun c16 => ?_) (fun c16 => ?_)
      · refine w_fg6_4 hZ ?_
        refine tail hle c ?_ (by omega)
        rw [hc, show (i + L - j).toNat = 0 by omega]
        rfl
      · have hq1 := q27_step (j := j - i) (by omega) (by omega)
        have hq2 := q27_le (j := j - i) (by omega)
        rw [show j - i + 1 = j + 1 - i by omega] at hq1
        have hsm := smV_rng (bX M 1) (gM M) (e4 j (by omega) (by omega)).1
        have hstep : cdF (smV (bX M 1) (gM M)) (i + L - j).toNat j c = if smV (bX M 1) (gM M) j = 0 then -1 else cdF (smV (bX M 1) (gM M)) (i + L - (j + 1)).toNat (j + 1) (c * 27 + smV (bX M 1) (gM M) j) := by
          rw [show (i + L - j).toNat = (i + L - (j + 1)).toNat + 1 by omega]
          rfl
        refine w_aload hZ 17 18 rfl rfl rfl ?_
        refine w_getr hZ 18 19 rfl rfl rfl rfl rfl ?_
        refine w_iload hZ 19 20 rfl rfl rfl ?_
        refine w_ialdv hZ 20 21 rfl rfl rfl (by omega) (by omega) (v := smV (bX M 1) (gM M) j) (e4 j (by omega) (by omega)).2 ?_
        refine w_ifne hZ 21 22 rfl rfl (fun c21 => ?_) (fun c21 => ?_)
        · refine w_iload hZ 24 25 rfl rfl rfl ?_
          refine w_const hZ 25 26 rfl rfl  ?_
          refine w_mul hZ 26 27 rfl rfl (by unfold InR; omega) ?_
          refine w_aload hZ 27 28 rfl rfl rfl ?_
          refine w_getr hZ 28 29 rfl rfl rfl rfl rfl ?_
          refine w_iload hZ 29 30 rfl rfl rfl ?_
          refine w_ialdv hZ 30 31 rfl rfl rfl (by omega) (by omega) (v := smV (bX M 1) (gM M) j) (e4 j (by omega) (by omega)).2 ?_
          refine w_add hZ 31 32 rfl rfl (by unfold InR; omega) ?_
          refine w_st6_3 hZ 32 33 rfl rfl rfl ?_
          refine w_in6_4 hZ 33 34 rfl rfl rfl (by unfold InR; omega) ?_
          refine w_goto hZ 34 12 rfl ?_
          refine ih ((i + L - (j + 1)).toNat) (by omega) (j + 1) (c * 27 + smV (bX M 1) (gM M) j) rfl (by omega) (by omega) ?_
          rw [hc, hstep, if_neg c21]
        · refine w_const hZ 22 23 rfl rfl  ?_
          refine w_iret hZ 23 rfl ?_
          exact ret_i hR (by unfold rA; rw [if_neg (by omega), hc, hstep, if_pos c21, if_pos rfl])
  refine w_iload hZ 0 1 rfl rfl rfl ?_
  refine w_iload hZ 1 2 rfl rfl rfl ?_
  refine w_add hZ 2 3 rfl rfl (by unfold InR; omega) ?_
  refine w_aload hZ 3 4 rfl rfl rfl ?_
  refine w_geti hZ 4 5 rfl rfl rfl rfl rfl ?_
  refine w_cle hZ 5 6 rfl rfl (fun c5 => ?_) (fun c5 => ?_)
  · refine w_const hZ 8 9 rfl rfl  ?_
    refine w_st6_3 hZ 9 10 rfl rfl rfl ?_
    refine w_iload hZ 10 11 rfl rfl rfl ?_
    refine w_st6_4 hZ 11 12 rfl rfl rfl ?_
    exact loop c5 _ i 0 rfl ⟨Int.le_refl _, Int.le_refl _, by rw [Int.sub_self]; decide⟩ (by omega) (by congr 1; omega)
  · refine w_const hZ 6 7 rfl rfl  ?_
    refine w_iret hZ 7 rfl ?_
    exact ret_i hR (by unfold rA; rw [if_pos c5])
set_option maxRecDepth 100000 in
set_option maxHeartbeats 4000000 in
theorem ao_X5_ruleAt : AllOk yX5_ruleAt.cls cX5_ruleAt 6 1 25 (some .int) none pc_X5_ruleAt 0 cd_X5_ruleAt := ⟨s_iload_n (k := 1) (by decide +kernel) rfl rfl, ⟨s_iload_n (k := 2) (by decide +kernel) rfl rfl, ⟨s_add (by decide +kernel) rfl, ⟨s_aload_n (k := 0) (by decide +kernel) rfl rfl, ⟨s_get (C := RX5) (T := TX5) (N := 12) rfl inT5 (by decide) tw_1_100 (by decide +kernel) rfl, ⟨s_cle (off := (5)) (by decide +kernel) rfl rfl, ⟨s_iconst (by decide +kernel) rfl ⟨by decide, by decide⟩, ⟨s_iret rfl (by decide +kernel), ⟨s_iconst (by decide +kernel) rfl ⟨by decide, by decide⟩, ⟨s_istore_n (k := 3) (by decide +kernel) rfl rfl, ⟨s_iload_n (k := 1) (by decide +kernel) rfl rfl, ⟨s_istore (by decide +kernel) rfl, ⟨s_iload (by decide +kernel) rfl, ⟨s_iload_n (k := 1) (by decide +kernel) rfl rfl, ⟨s_iload_n (k := 2) (by decide +kernel) rfl rfl, ⟨s_add (by decide +kernel) rfl, ⟨s_cge (off := (34)) (by decide +kernel) rfl rfl, ⟨s_aload_n (k := 0) (by decide +kernel) rfl rfl, ⟨s_get (C := RX5) (T := TX5) (N := 12) rfl inT5 (by decide) tw_1_102 (by decide +kernel) rfl, ⟨s_iload (by decide +kernel) rfl, ⟨s_iald (by decide +kernel) rfl, ⟨s_ifne (off := (5)) (by decide +kernel) rfl rfl, ⟨s_iconst (by decide +kernel) rfl ⟨by decide, by decide⟩, ⟨s_iret rfl (by decide +kernel), ⟨s_iload_n (k := 3) (by decide +kernel) rfl rfl, ⟨s_bipush (by decide +kernel) rfl ⟨by decide, by decide⟩ (by decide +kernel), ⟨s_mul (by decide +kernel) rfl, ⟨s_aload_n (k := 0) (by decide +kernel) rfl rfl, ⟨s_get (C := RX5) (T := TX5) (N := 12) rfl inT5 (by decide) tw_1_102 (by decide +kernel) rfl, ⟨s_iload (by decide +kernel) rfl, ⟨s_iald (by decide +kernel) rfl, ⟨s_add (by decide +kernel) rfl, ⟨s_istore_n (k := 3) (by decide +kernel) rfl rfl, ⟨s_iinc (by decide +kernel) rfl, ⟨s_goto (off := (-36)) (by decide +kernel) rfl, ⟨s_aload_n (k := 0) (by decide +kernel) rfl rfl, ⟨s_get (C := RX5) (T := TX5) (N := 12) rfl inT5 (by decide) tw_1_95 (by decide +kernel) rfl, ⟨s_iload_n (k := 3) (by decide +kernel) rfl rfl, ⟨s_callV (C := RX0) (T := TX0) (N := 8) rfl ct_X0_ruleOfCode (by decide) (by decide) ⟨rfl, by decide +kernel, by decide +kernel, by decide +kernel⟩ tw_2_183 tw_2_8 tw_2_9 tw_1_2 tw_2_10 (by decide +kernel) rfl, ⟨s_istore (by decide +kernel) rfl, ⟨s_iload (by decide +kernel) rfl, ⟨s_iconst (by decide +kernel) rfl ⟨by decide, by decide⟩, ⟨s_ceq (off := (37)) (by decide +kernel) rfl rfl, ⟨s_iload (by decide +kernel) rfl, ⟨s_aload_n (k := 0) (by decide +kernel) rfl rfl, ⟨s_get (C := RX5) (T := TX5) (N := 12) rfl inT5 (by decide) tw_1_97 (by decide +kernel) rfl, ⟨s_ceq (off := (28)) (by decide +kernel) rfl rfl, ⟨s_aload_n (k := 0) (by decide +kernel) rfl rfl, ⟨s_aload_n (k := 0) (by decide +kernel) rfl rfl, ⟨s_get (C := RX5) (T := TX5) (N := 12) rfl inT5 (by decide) tw_1_95 (by decide +kernel) rfl, ⟨s_get (C := RX0) (T := TX0) (N := 8) rfl inT0 (by decide) tw_1_34 (by decide +kernel) rfl, ⟨s_iload (by decide +kernel) rfl, ⟨s_iald (by decide +kernel) rfl, ⟨s_iload_n (k := 1) (by decide +kernel) rfl rfl, ⟨s_iload_n (k := 1) (by decide +kernel) rfl rfl, ⟨s_iload_n (k := 2) (by decide +kernel) rfl rfl, ⟨s_add (by decide +kernel) rfl, ⟨s_callV (C := RX5) (T := TX5) (N := 12) rfl ct_X5_mayStand (by decide) (by decide) ⟨rfl, by decide +kernel, by decide +kernel, by decide +kernel⟩ tw_2_184 tw_2_186 ts_1_10 tw_1_4 tw_2_187 (by decide +kernel) rfl, ⟨s_ifeq (off := (7)) (by decide +kernel) rfl rfl, ⟨s_iconst (by decide +kernel) rfl ⟨by decide, by decide⟩, ⟨s_goto (off := (4)) (by decide +kernel) rfl, ⟨s_iconst (by decide +kernel) rfl ⟨by decide, by decide⟩, ⟨s_istore (by decide +kernel) rfl, ⟨s_iload (by decide +kernel) rfl, ⟨s_ifeq (off := (8)) (by decide +kernel) rfl rfl, ⟨s_iload (by decide +kernel) rfl, ⟨s_goto (off := (4)) (by decide +kernel) rfl, ⟨s_iconst (by decide +kernel) rfl ⟨by decide, by decide⟩, ⟨s_iret rfl (by decide +kernel), trivial⟩⟩⟩⟩⟩⟩⟩⟩⟩⟩⟩⟩⟩⟩⟩⟩⟩⟩⟩⟩⟩⟩⟩⟩⟩⟩⟩⟩⟩⟩⟩⟩⟩⟩⟩⟩⟩⟩⟩⟩⟩⟩⟩⟩⟩⟩⟩⟩⟩⟩⟩⟩⟩⟩⟩⟩⟩⟩⟩⟩⟩⟩⟩⟩⟩⟩⟩⟩⟩
theorem ct_X5_ruleAt : Ctr yX5_ruleAt cX5_ruleAt 6 (some .int) 1 25 sp_X5_ruleAt := by
  refine ctr_of (by decide +kernel) ao_X5_ruleAt rfl ?_
  rintro av M Ret ⟨i, L, rfl, hp, hR⟩ hok hM
  exact ⟨Nat.le_of_ble_eq_true rfl, fun Z hZ => b_X5_ruleAt  i (hok _ (List.mem_of_getElem? (i := 1) rfl)) L (hok _ (List.mem_of_getElem? (i := 2) rfl)) M Ret hp hR hM Z hZ⟩
def sp_X5_servingRule : SP := fun av M Ret => ∃ i : Int, av = [mr 10, mi i] ∧ (vOk (bX M 1) ∧ En M ∧ M 10 7 ≤ i ∧ i < M 10 8) ∧ (Ret (some (mi (sv (bX M 1) (M 10 5) (M 10 7) (M 10 8) (gM M) i))) M)
theorem k_X5_servingRule {code : List Sem} {Z : KZ} {Ret : KR} {ls : List (Option MV)} {M : Mem} {r : List MV} (hZ : Sim code Z Ret) (ip np : Nat) {i : Int} (hc : code[ip]? = some (I_callV 5 1 sp_X5_servingRule)) (hn : ip + 1 = np) (h3 : catS r ≤ 8)  (hp : vOk (bX M 1) ∧ En M ∧ M 10 7 ≤ i ∧ i < M 10 8) (kz : Z np ls (mi (sv (bX M 1) (M 10 5) (M 10 7) (M 10 8) (gM M) i) :: r) M) : Z ip ls (mi i :: mr 10 :: r) M := w_callV1 hZ ip np hc hn rfl rfl h3 ⟨_, rfl, hp, kz⟩
def cd_X5_servingRule : List Sem := [I_const (4), I_istore 2, I_iload 2, I_const (2), I_clt 17, I_aload 0, I_iload 1, I_iload 2, I_callV 5 2 sp_X5_ruleAt, I_istore 3, I_iload 3, I_const (-1), I_ceq 15, I_iload 3, I_iret, I_iinc 2 (-1), I_goto 2, I_const (-1), I_iret]
def pc_X5_servingRule : List Nat := [0, 1, 2, 3, 4, 7, 8, 9, 10, 13, 14, 15, 16, 19, 20, 21, 24, 27, 28]
set_option maxRecDepth 100000 in
set_option maxHeartbeats 4000000 in
theorem b_X5_servingRule (i : Int) (i_i : InR i) (M : Mem) (Ret : KR) (hp : vOk (bX M 1) ∧ En M ∧ M 10 7 ≤ i ∧ i < M 10 8) (hR : Ret (some (mi (sv (bX M 1) (M 10 5) (M 10 7) (M 10 8) (gM M) i))) M) (hM : MOk M) (Z : KZ) (hZ : Sim cd_X5_servingRule Z Ret) : Z 0 [some (mr 10), some (mi i), none, none] [] M := by
  obtain ⟨hv, he, hi0, hi1⟩ := hp
  have l1 : rA (bX M 1) (M 10 5) (M 10 7) (M 10 8) (gM M) i 4 = -1 → rA (bX M 1) (M 10 5) (M 10 7) (M 10 8) (gM M) i 3 = -1 → rA (bX M 1) (M 10 5) (M 10 7) (M 10 8) (gM M) i 2 = -1 → Z 2 [some (mr 10), some (mi i), some (mi 1), none] [] M := by
    intro r4 r3 r2
    refine w_iload hZ 2 3 rfl rfl rfl ?_
    refine w_const hZ 3 4 rfl rfl  ?_
    refine w_clt hZ 4 5 rfl rfl (fun c4 => ?_) (fun c4 => absurd c4 (by omega))
    refine w_const hZ 17 18 rfl rfl  ?_
    refine w_iret hZ 18 rfl ?_
    exact ret_i hR (by unfold sv; rw [if_neg (by simp [r4]), if_neg (by simp [r3]), r2])
  have l2 : rA (bX M 1) (M 10 5) (M 10 7) (M 10 8) (gM M) i 4 = -1 → rA (bX M 1) (M 10 5) (M 10 7) (M 10 8) (gM M) i 3 = -1 → Z 2 [some (mr 10), some (mi i), some (mi 2), none] [] M := by
    intro r4 r3
    refine w_iload hZ 2 3 rfl rfl rfl ?_
    refine w_const hZ 3 4 rfl rfl  ?_
    refine w_clt hZ 4 5 rfl rfl (fun c4 => absurd c4 (by omega)) (fun c4 => ?_)
    refine w_aload hZ 5 6 rfl rfl rfl ?_
    refine w_iload hZ 6 7 rfl rfl rfl ?_
    refine w_iload hZ 7 8 rfl rfl rfl ?_
    refine k_X5_ruleAt hZ 8 9 rfl rfl (Nat.le_of_ble_eq_true rfl) ⟨hv, he, hi0, hi1, by omega, by omega⟩ ?_
    refine w_st4_3 hZ 9 10 rfl rfl rfl ?_
    refine w_iload hZ 10 11 rfl rfl rfl ?_
    refine w_const hZ 11 12 rfl rfl  ?_
    refine w_ceq hZ 12 13 rfl rfl (fun c12 => ?_) (fun c12 => ?_)
    · refine w_in4_2 hZ 15 16 rfl rfl rfl (by unfold InR; omega) ?_
      refine w_goto hZ 16 2 rfl ?_
      refine w_fg4_3 hZ ?_
      exact l1 r4 r3 c12
    · refine w_iload hZ 13 14 rfl rfl rfl ?_
      refine w_iret hZ 14 rfl ?_
      exact ret_i hR (by unfold sv; rw [if_neg (by simp [r4]), if_neg (by simp [r3])])
  have l3 : rA (bX M 1) (M 10 5) (M 10 7) (M 10 8) (gM M) i 4 = -1 → Z 2 [some (mr 10), some (mi i), some (mi 3), none] [] M := by
    intro r4
    refine w_iload hZ 2 3 rfl rfl rfl ?_
    refine w_const hZ 3 4 rfl rfl  ?_
    refine w_clt hZ 4 5 rfl rfl (fun c4 => absurd c4 (by omega)) (fun c4 => ?_)
    refine w_aload hZ 5 6 rfl rfl rfl ?_
    refine w_iload hZ 6 7 rfl rfl rfl ?_
    refine w_iload hZ 7 8 rfl rfl rfl ?_
    refine k_X5_ruleAt hZ 8 9 rfl rfl (Nat.le_of_ble_eq_true rfl) ⟨hv, he, hi0, hi1, by omega, by omega⟩ ?_
    refine w_st4_3 hZ 9 10 rfl rfl rfl ?_
    refine w_iload hZ 10 11 rfl rfl rfl ?_
    refine w_const hZ 11 12 rfl rfl  ?_
    refine w_ceq hZ 12 13 rfl rfl (fun c12 => ?_) (fun c12 => ?_)
    · refine w_in4_2 hZ 15 16 rfl rfl rfl (by unfold InR; omega) ?_
      refine w_goto hZ 16 2 rfl ?_
      refine w_fg4_3 hZ ?_
      exact l2 r4 c12
    · refine w_iload hZ 13 14 rfl rfl rfl ?_
      refine w_iret hZ 14 rfl ?_
      exact ret_i hR (by unfold sv; rw [if_neg (by simp [r4]), if_pos c12])
  have l4 : Z 2 [some (mr 10), some (mi i), some (mi 4), none] [] M := by
    refine w_iload hZ 2 3 rfl rfl rfl ?_
    refine w_const hZ 3 4 rfl rfl  ?_
    refine w_clt hZ 4 5 rfl rfl (fun c4 => absurd c4 (by omega)) (fun c4 => ?_)
    refine w_aload hZ 5 6 rfl rfl rfl ?_
    refine w_iload hZ 6 7 rfl rfl rfl ?_
    refine w_iload hZ 7 8 rfl rfl rfl ?_
    refine k_X5_ruleAt hZ 8 9 rfl rfl (Nat.le_of_ble_eq_true rfl) ⟨hv, he, hi0, hi1, by omega, by omega⟩ ?_
    refine w_st4_3 hZ 9 10 rfl rfl rfl ?_
    refine w_iload hZ 10 11 rfl rfl rfl ?_
    refine w_const hZ 11 12 rfl rfl  ?_
    refine w_ceq hZ 12 13 rfl rfl (fun c12 => ?_) (fun c12 => ?_)
    · refine w_in4_2 hZ 15 16 rfl rfl rfl (by unfold InR; omega) ?_
      refine w_goto hZ 16 2 rfl ?_
      refine w_fg4_3 hZ ?_
      exact l3 c12
    · refine w_iload hZ 13 14 rfl rfl rfl ?_
      refine w_iret hZ 14 rfl ?_
      exact ret_i hR (by unfold sv; rw [if_pos c12])
  refine w_const hZ 0 1 rfl rfl  ?_
  refine w_st4_2 hZ 1 2 rfl rfl rfl ?_
  exact l4
set_option maxRecDepth 100000 in
set_option maxHeartbeats 4000000 in
theorem ao_X5_servingRule : AllOk yX5_servingRule.cls cX5_servingRule 4 2 50 (some .int) none pc_X5_servingRule 0 cd_X5_servingRule := ⟨s_iconst (by decide +kernel) rfl ⟨by decide, by decide⟩, ⟨s_istore_n (k := 2) (by decide +kernel) rfl rfl, ⟨s_iload_n (k := 2) (by decide +kernel) rfl rfl, ⟨s_iconst (by decide +kernel) rfl ⟨by decide, by decide⟩, ⟨s_clt (off := (23)) (by decide +kernel) rfl rfl, ⟨s_aload_n (k := 0) (by decide +kernel) rfl rfl, ⟨s_iload_n (k := 1) (by decide +kernel) rfl rfl, ⟨s_iload_n (k := 2) (by decide +kernel) rfl rfl, ⟨s_callV (C := RX5) (T := TX5) (N := 12) rfl ct_X5_ruleAt (by decide) (by decide) ⟨rfl, by decide +kernel, by decide +kernel, by decide +kernel⟩ tw_2_179 tw_2_181 ts_1_9 tw_1_4 tw_2_182 (by decide +kernel) rfl, ⟨s_istore_n (k := 3) (by decide +kernel) rfl rfl, ⟨s_iload_n (k := 3) (by decide +kernel) rfl rfl, ⟨s_iconst (by decide +kernel) rfl ⟨by decide, by decide⟩, ⟨s_ceq (off := (5)) (by decide +kernel) rfl rfl, ⟨s_iload_n (k := 3) (by decide +kernel) rfl rfl, ⟨s_iret rfl (by decide +kernel), ⟨s_iinc (by decide +kernel) rfl, ⟨s_goto (off := (-22)) (by decide +kernel) rfl, ⟨s_iconst (by decide +kernel) rfl ⟨by decide, by decide⟩, ⟨s_iret rfl (by decide +kernel), trivial⟩⟩⟩⟩⟩⟩⟩⟩⟩⟩⟩⟩⟩⟩⟩⟩⟩⟩⟩
theorem ct_X5_servingRule : Ctr yX5_servingRule cX5_servingRule 4 (some .int) 2 50 sp_X5_servingRule := by
  refine ctr_of (by decide +kernel) ao_X5_servingRule rfl ?_
  rintro av M Ret ⟨i, rfl, hp, hR⟩ hok hM
  exact ⟨Nat.le_of_ble_eq_true rfl, fun Z hZ => b_X5_servingRule  i (hok _ (List.mem_of_getElem? (i := 1) rfl)) M Ret hp hR hM Z hZ⟩
def sp_X5_needsLetters : SP := fun av M Ret => av = [mr 10] ∧ (Bx M ∧ 0 ≤ M 10 7 ∧ M 10 7 ≤ 120) ∧ (Ret (some (mi (b2i (wnt (bX M 1) (M 10 7))))) M)
theorem k_X5_needsLetters {code : List Sem} {Z : KZ} {Ret : KR} {ls : List (Option MV)} {M : Mem} {r : List MV} (hZ : Sim code Z Ret) (ip np : Nat)  (hc : code[ip]? = some (I_callV 5 0 sp_X5_needsLetters)) (hn : ip + 1 = np) (h3 : catS r ≤ 8)  (hp : Bx M ∧ 0 ≤ M 10 7 ∧ M 10 7 ≤ 120) (kz : Z np ls (mi (b2i (wnt (bX M 1) (M 10 7))) :: r) M) : Z ip ls (mr 10 :: r) M := w_callV0 hZ ip np hc hn rfl rfl h3 ⟨rfl, hp, kz⟩
def cd_X5_needsLetters : List Sem := [I_aload 0, I_get 5 3, I_aload 0, I_get 5 7, I_callV 0 1 sp_X0_signAt, I_istore 1, I_iload 1, I_const (97), I_clt 20, I_iload 1, I_const (107), I_cge 20, I_aload 0, I_get 5 3, I_aload 0, I_get 5 7, I_callV 0 1 sp_X0_isBehindFigures, I_ifeq 20, I_const (1), I_goto 21, I_const (0), I_zret]
def pc_X5_needsLetters : List Nat := [0, 1, 4, 5, 8, 11, 12, 13, 15, 18, 19, 21, 24, 25, 28, 29, 32, 35, 38, 39, 42, 43]
set_option maxRecDepth 100000 in
set_option maxHeartbeats 4000000 in
theorem b_X5_needsLetters  (M : Mem) (Ret : KR) (hp : Bx M ∧ 0 ≤ M 10 7 ∧ M 10 7 ≤ 120) (hR : Ret (some (mi (b2i (wnt (bX M 1) (M 10 7))))) M) (hM : MOk M) (Z : KZ) (hZ : Sim cd_X5_needsLetters Z Ret) : Z 0 [some (mr 10), none] [] M := by
  obtain ⟨hb, h0, h1⟩ := hp
  refine w_aload hZ 0 1 rfl rfl rfl ?_
  refine w_getr hZ 1 2 rfl rfl rfl rfl rfl ?_
  refine w_aload hZ 2 3 rfl rfl rfl ?_
  refine w_geti hZ 3 4 rfl rfl rfl rfl rfl ?_
  refine k_X0_signAt hZ 4 5 rfl rfl (Nat.le_of_ble_eq_true rfl) hb ?_
  refine w_st2_1 hZ 5 6 rfl rfl rfl ?_
  refine w_iload hZ 6 7 rfl rfl rfl ?_
  refine w_const hZ 7 8 rfl rfl  ?_
  refine w_clt hZ 8 9 rfl rfl (fun c8 => ?_) (fun c8 => ?_)
  · refine w_const hZ 20 21 rfl rfl  ?_
    refine w_zret hZ 21 rfl (by omega) ?_
    first
      | exact ret_i hR (b2i_t ⟨c8, by have : vS (bX M 1) (M 10 7) = SX M (M 10 7) := rfl; omega, b2i_e.mp c17⟩)
      | exact ret_i hR (b2i_f (fun q => (b2i_z.mp c17) q.2.2))
      | exact ret_i hR (b2i_f (fun q => by have := q.1; have := q.2.1; have : vS (bX M 1) (M 10 7) = SX M (M 10 7) := rfl; omega))
  · refine w_iload hZ 9 10 rfl rfl rfl ?_
    refine w_const hZ 10 11 rfl rfl  ?_
    refine w_cge hZ 11 12 rfl rfl (fun c11 => ?_) (fun c11 => ?_)
    · refine w_const hZ 20 21 rfl rfl  ?_
      refine w_zret hZ 21 rfl (by omega) ?_
      first
        | exact ret_i hR (b2i_t ⟨c8, by have : vS (bX M 1) (M 10 7) = SX M (M 10 7) := rfl; omega, b2i_e.mp c17⟩)
        | exact ret_i hR (b2i_f (fun q => (b2i_z.mp c17) q.2.2))
        | exact ret_i hR (b2i_f (fun q => by have := q.1; have := q.2.1; have : vS (bX M 1) (M 10 7) = SX M (M 10 7) := rfl; omega))
    · refine w_aload hZ 12 13 rfl rfl rfl ?_
      refine w_getr hZ 13 14 rfl rfl rfl rfl rfl ?_
      refine w_aload hZ 14 15 rfl rfl rfl ?_
      refine w_geti hZ 15 16 rfl rfl rfl rfl rfl ?_
      refine k_X0_isBehindFigures hZ 16 17 rfl rfl (Nat.le_of_ble_eq_true rfl) ⟨hb, by unfold InR; omega, by unfold InR; omega⟩ ?_
      refine w_ifeq hZ 17 18 rfl rfl (fun c17 => ?_) (fun c17 => ?_)
      · refine w_const hZ 20 21 rfl rfl  ?_
        refine w_zret hZ 21 rfl (by omega) ?_
        first
          | exact ret_i hR (b2i_t ⟨c8, by have : vS (bX M 1) (M 10 7) = SX M (M 10 7) := rfl; omega, b2i_e.mp c17⟩)
          | exact ret_i hR (b2i_f (fun q => (b2i_z.mp c17) q.2.2))
          | exact ret_i hR (b2i_f (fun q => by have := q.1; have := q.2.1; have : vS (bX M 1) (M 10 7) = SX M (M 10 7) := rfl; omega))
      · refine w_const hZ 18 19 rfl rfl  ?_
        refine w_goto hZ 19 21 rfl ?_
        refine w_zret hZ 21 rfl (by omega) ?_
        first
          | exact ret_i hR (b2i_t ⟨c8, by have : vS (bX M 1) (M 10 7) = SX M (M 10 7) := rfl; omega, b2i_e.mp c17⟩)
          | exact ret_i hR (b2i_f (fun q => (b2i_z.mp c17) q.2.2))
          | exact ret_i hR (b2i_f (fun q => by have := q.1; have := q.2.1; have : vS (bX M 1) (M 10 7) = SX M (M 10 7) := rfl; omega))
set_option maxRecDepth 100000 in
set_option maxHeartbeats 4000000 in
theorem ao_X5_needsLetters : AllOk yX5_needsLetters.cls cX5_needsLetters 2 2 42 (some .boolean) none pc_X5_needsLetters 0 cd_X5_needsLetters := ⟨s_aload_n (k := 0) (by decide +kernel) rfl rfl, ⟨s_get (C := RX5) (T := TX5) (N := 12) rfl inT5 (by decide) tw_1_95 (by decide +kernel) rfl, ⟨s_aload_n (k := 0) (by decide +kernel) rfl rfl, ⟨s_get (C := RX5) (T := TX5) (N := 12) rfl inT5 (by decide) tw_1_99 (by decide +kernel) rfl, ⟨s_callV (C := RX0) (T := TX0) (N := 8) rfl ct_X0_signAt (by decide) (by decide) ⟨rfl, by decide +kernel, by decide +kernel, by decide +kernel⟩ tw_2_142 tw_2_130 tw_2_131 tw_1_2 tw_2_132 (by decide +kernel) rfl, ⟨s_istore_n (k := 1) (by decide +kernel) rfl rfl, ⟨s_iload_n (k := 1) (by decide +kernel) rfl rfl, ⟨s_bipush (by decide +kernel) rfl ⟨by decide, by decide⟩ (by decide +kernel), ⟨s_clt (off := (27)) (by decide +kernel) rfl rfl, ⟨s_iload_n (k := 1) (by decide +kernel) rfl rfl, ⟨s_bipush (by decide +kernel) rfl ⟨by decide, by decide⟩ (by decide +kernel), ⟨s_cge (off := (21)) (by decide +kernel) rfl rfl, ⟨s_aload_n (k := 0) (by decide +kernel) rfl rfl, ⟨s_get (C := RX5) (T := TX5) (N := 12) rfl inT5 (by decide) tw_1_95 (by decide +kernel) rfl, ⟨s_aload_n (k := 0) (by decide +kernel) rfl rfl, ⟨s_get (C := RX5) (T := TX5) (N := 12) rfl inT5 (by decide) tw_1_99 (by decide +kernel) rfl, ⟨s_callV (C := RX0) (T := TX0) (N := 8) rfl ct_X0_isBehindFigures (by decide) (by decide) ⟨rfl, by decide +kernel, by decide +kernel, by decide +kernel⟩ tw_2_165 tw_2_166 tw_2_167 tw_1_2 tw_2_168 (by decide +kernel) rfl, ⟨s_ifeq (off := (7)) (by decide +kernel) rfl rfl, ⟨s_iconst (by decide +kernel) rfl ⟨by decide, by decide⟩, ⟨s_goto (off := (4)) (by decide +kernel) rfl, ⟨s_iconst (by decide +kernel) rfl ⟨by decide, by decide⟩, ⟨s_zret rfl (by decide +kernel), trivial⟩⟩⟩⟩⟩⟩⟩⟩⟩⟩⟩⟩⟩⟩⟩⟩⟩⟩⟩⟩⟩⟩
theorem ct_X5_needsLetters : Ctr yX5_needsLetters cX5_needsLetters 2 (some .boolean) 2 42 sp_X5_needsLetters := by
  refine ctr_of (by decide +kernel) ao_X5_needsLetters rfl ?_
  rintro av M Ret ⟨rfl, hp, hR⟩ hok hM
  exact ⟨Nat.le_of_ble_eq_true rfl, fun Z hZ => b_X5_needsLetters   M Ret hp hR hM Z hZ⟩
end
section
/-! Writer: what it writes -/
abbrev Sn (M : Mem) : Prop := ∀ k : Nat, k < 12 → 0 ≤ M 12 k ∧ M 12 k ≤ M 10 4
theorem leE_rule (V : BV) (g : Bool) (i : Int) : ∀ e ∈ leE V g i, e.2.1 = -1 := by
  unfold leE; split <;> simp
theorem smV_0 {V : BV} {g : Bool} {i : Int} : leE V g i = if smV V g i = 0 then [(60, -1, i, 1), (ltN (vS V i), -1, i, 1)] else [(ltN (vS V i), -1, i, 1)] := rfl
theorem ApE_rule {M : Mem} (h0 : 0 ≤ M 10 4) {k : Nat} (hk : k < 12) (i c : Int) (hs : 0 ≤ M 12 k) : ApE [(c, (k : Int), i, 1)] M (mup (if M 12 k = 0 then mup (addCl M c) 13 k i else addCl M c) 12 k (M 12 k + 1)) := by
  have hA := ApE_cell h0 (c, -1, i, 1) rfl
  obtain ⟨a1, a2, a3, a4, a5, a6⟩ := hA
  have hn : ∀ j : Nat, cntE [(c, (-1 : Int), i, (1 : Int))] j = 0 := fun j => by rw [cntE_1, if_neg (by show ¬ (-1 : Int) = j; omega)]
  have e2 : ∀ (o j : Nat), mup (if M 12 k = 0 then mup (addCl M c) 13 k i else addCl M c) 12 k (M 12 k + 1) o j = if o = 12 ∧ j = k then M 12 k + 1 else if o = 13 ∧ j = k ∧ M 12 k = 0 then i else addCl M c o j := by
    intro o j
    rw [mup_at]
    by_cases q1 : o = 12 ∧ j = k
    · rw [if_pos q1, if_pos q1]
    · rw [if_neg q1, if_neg q1]
      by_cases q2 : M 12 k = 0
      · rw [if_pos q2, mup_at]
        by_cases q3 : o = 13 ∧ j = k
        · rw [if_pos q3, if_pos ⟨q3.1, q3.2, q2⟩]
        · rw [if_neg q3, if_neg (fun z => q3 ⟨z.1, z.2.1⟩)]
      · rw [if_neg q2, if_neg (fun z => q2 z.2.2)]
  have e : ∀ (o j : Nat), ¬ o = 12 → ¬ o = 13 → mup (if M 12 k = 0 then mup (addCl M c) 13 k i else addCl M c) 12 k (M 12 k + 1) o j = addCl M c o j := by
    intro o j h1 h2
    rw [e2, if_neg (fun z => h1 z.1), if_neg (fun z => h2 z.1)]
  refine ⟨by rw [e 10 4 (by omega) (by omega)]; exact a1, fun j hj => by rw [e 11 j (by omega) (by omega)]; exact a2 j hj, fun j hj => by rw [e 11 _ (by omega) (by omega)]; exact a3 j hj, fun j hj => ⟨?_, ?_⟩, fun f hf => by rw [e 10 f (by omega) (by omega)]; exact a5 f hf, fun o ho => ?_⟩
  · have q := (a4 j hj).1
    rw [hn j] at q
    rw [e2]
    by_cases z : j = k
    · subst z
      have hz : cntE [(c, (j : Int), i, (1 : Int))] (j : Int) = 1 := by rw [cntE_1]; exact if_pos rfl
      rw [hz, if_pos ⟨rfl, rfl⟩]
    · have hz : cntE [(c, (k : Int), i, (1 : Int))] (j : Int) = 0 := by rw [cntE_1]; exact if_neg (by show ¬ (k : Int) = j; omega)
      rw [hz, if_neg (fun y => z y.2), if_neg (fun y => z y.2.1)]
      exact q
  · have q := (a4 j hj).2
    rw [hn j] at q
    rw [if_neg (by simp)] at q
    rw [e2, if_neg (fun y => absurd y.1 (by decide))]
    by_cases z : j = k
    · subst z
      have hz : cntE [(c, (j : Int), i, (1 : Int))] (j : Int) = 1 := by rw [cntE_1]; exact if_pos rfl
      have hz2 : fstE [(c, (j : Int), i, (1 : Int))] (j : Int) = i := by rw [fstE_1]; exact if_pos rfl
      rw [hz, hz2]
      by_cases z2 : M 12 j = 0
      · rw [if_pos ⟨rfl, rfl, z2⟩, if_pos ⟨z2, by omega⟩]
      · rw [if_neg (fun y => z2 y.2.2), if_neg (fun y => z2 y.1)]; exact q
    · have hz : cntE [(c, (k : Int), i, (1 : Int))] (j : Int) = 0 := by rw [cntE_1]; exact if_neg (by show ¬ (k : Int) = j; omega)
      rw [hz, if_neg (fun y => z y.2.1), if_neg (fun y => y.2 rfl)]
      exact q
  · funext j
    rw [e o j (by omega) (by omega), a6 o ho]
def sp_X5_writeLetter : SP := fun av M Ret => ∃ i : Int, av = [mr 10, mi i] ∧ (vOk (bX M 1) ∧ En M ∧ M 10 7 ≤ i ∧ i < M 10 8 ∧ 0 ≤ M 10 4 ∧ M 10 4 + (leE (bX M 1) (gM M) i).length ≤ 240 ∧ Sn M) ∧ (∀ M2 : Mem, (ApE (leE (bX M 1) (gM M) i) M M2) → Ret (some (mi (1))) M2)
theorem k_X5_writeLetter {code : List Sem} {Z : KZ} {Ret : KR} {ls : List (Option MV)} {M : Mem} {r : List MV} (hZ : Sim code Z Ret) (ip np : Nat) {i : Int} (hc : code[ip]? = some (I_callV 5 1 sp_X5_writeLetter)) (hn : ip + 1 = np) (h3 : catS r ≤ 8)  (hp : vOk (bX M 1) ∧ En M ∧ M 10 7 ≤ i ∧ i < M 10 8 ∧ 0 ≤ M 10 4 ∧ M 10 4 + (leE (bX M 1) (gM M) i).length ≤ 240 ∧ Sn M) (kz : ∀ M2 : Mem, (ApE (leE (bX M 1) (gM M) i) M M2) → Z np ls (mi (1) :: r) M2) : Z ip ls (mi i :: mr 10 :: r) M := w_callV1 hZ ip np hc hn rfl rfl h3 ⟨_, rfl, hp, fun M2 h => kz M2 h⟩
def cd_X5_writeLetter : List Sem := [I_aload 0, I_get 5 10, I_iload 1, I_iald, I_ifne 8, I_aload 0, I_const (60), I_callV 5 1 sp_X5_addCell, I_aload 0, I_aload 0, I_get 5 3, I_iload 1, I_callV 0 1 sp_X0_signAt, I_callS 1 sp_X6_letterOf, I_callV 5 1 sp_X5_addCell, I_const (1), I_iret]
def pc_X5_writeLetter : List Nat := [0, 1, 4, 5, 6, 9, 10, 12, 15, 16, 17, 20, 21, 24, 27, 30, 31]
set_option maxRecDepth 100000 in
set_option maxHeartbeats 4000000 in
theorem b_X5_writeLetter (i : Int) (i_i : InR i) (M : Mem) (Ret : KR) (hp : vOk (bX M 1) ∧ En M ∧ M 10 7 ≤ i ∧ i < M 10 8 ∧ 0 ≤ M 10 4 ∧ M 10 4 + (leE (bX M 1) (gM M) i).length ≤ 240 ∧ Sn M) (hR : ∀ M2 : Mem, (ApE (leE (bX M 1) (gM M) i) M M2) → Ret (some (mi (1))) M2) (hM : MOk M) (Z : KZ) (hZ : Sim cd_X5_writeLetter Z Ret) : Z 0 [some (mr 10), some (mi i)] [] M := by
  obtain ⟨hv, he, hi0, hi1, hc0, hc1, hsn⟩ := hp
  have hb := hv.bx
  have hee := he
  obtain ⟨e1, e2, e3, e4⟩ := hee
  have hbb := hb
  obtain ⟨b1, b2, b3, b4⟩ := hbb
  have hl := (e4 i hi0 hi1).1
  have hlr := ltN_rng hl
  have hsl : InR (vS (bX M 1) i - 65) ∧ InR (vS (bX M 1) i - 97) := by
    unfold InR; simp only [isLt, isSm, isCp] at hl; omega
  have fin : ∀ (A : List Ev) (N : Mem), ApE A M N → leE (bX M 1) (gM M) i = A ++ [(ltN (vS (bX M 1) i), -1, i, 1)] → Z 8 [some (mr 10), some (mi i)] [] N := by
    intro A N hA hE
    have hbN : bX N 1 = bX M 1 := hA.bx
    have hs2 : SX N i = vS (bX M 1) i := by show vS (bX N 1) i = _; rw [hbN]
    have hlen : (leE (bX M 1) (gM M) i).length = A.length + 1 := by rw [hE]; simp
    have hBN : Bx N := (hbN ▸ hv : vOk (bX N 1)).bx
    have ha1 := hA.1
    refine w_aload hZ 8 9 rfl rfl rfl ?_
    refine w_aload hZ 9 10 rfl rfl rfl ?_
    refine w_getr hZ 10 11 rfl rfl rfl rfl rfl ?_
    refine w_iload hZ 11 12 rfl rfl rfl ?_
    refine k_X0_signAt hZ 12 13 rfl rfl (Nat.le_of_ble_eq_true rfl) hBN ?_
    rw [hs2]
    refine k_X6_letterOf hZ 13 14 rfl rfl (Nat.le_of_ble_eq_true rfl) hsl ?_
    refine k_X5_addCell hZ 14 15 rfl rfl (Nat.le_of_ble_eq_true rfl) ⟨by omega, by omega⟩ (fun M14 p14 => ?_)
    refine w_const hZ 15 16 rfl rfl  ?_
    refine w_iret hZ 16 rfl ?_
    subst p14
    refine hR _ ?_
    rw [hE]
    exact hA.trans (ApE_cell (by omega) (ltN (vS (bX M 1) i), -1, i, 1) rfl) hc0 (fun k hk => (hsn k hk).1)
  refine w_aload hZ 0 1 rfl rfl rfl ?_
  refine w_getr hZ 1 2 rfl rfl rfl rfl rfl ?_
  refine w_iload hZ 2 3 rfl rfl rfl ?_
  refine w_ialdv hZ 3 4 rfl rfl rfl (by omega) (by omega) (v := smV (bX M 1) (gM M) i) (e4 i hi0 hi1).2 ?_
  refine w_ifne hZ 4 5 rfl rfl (fun c4 => ?_) (fun c4 => ?_)
  · first
      | (subst p7; refine fin _ _ (ApE_cell hc0 (60, -1, i, 1) rfl) ?_; rw [smV_0, if_pos c4]; rfl)
      | (refine fin [] M (ApE_nil M) ?_; rw [smV_0, if_neg c4]; rfl)
  · have hlen : (leE (bX M 1) (gM M) i).length = 2 := by rw [smV_0, if_pos c4]; rfl
    refine w_aload hZ 5 6 rfl rfl rfl ?_
    refine w_const hZ 6 7 rfl rfl  ?_
    refine k_X5_addCell hZ 7 8 rfl rfl (Nat.le_of_ble_eq_true rfl) (by omega) (fun M7 p7 => ?_)
    first
      | (subst p7; refine fin _ _ (ApE_cell hc0 (60, -1, i, 1) rfl) ?_; rw [smV_0, if_pos c4]; rfl)
      | (refine fin [] M (ApE_nil M) ?_; rw [smV_0, if_neg c4]; rfl)
set_option maxRecDepth 100000 in
set_option maxHeartbeats 4000000 in
theorem ao_X5_writeLetter : AllOk yX5_writeLetter.cls cX5_writeLetter 2 2 40 (some .int) none pc_X5_writeLetter 0 cd_X5_writeLetter := ⟨s_aload_n (k := 0) (by decide +kernel) rfl rfl, ⟨s_get (C := RX5) (T := TX5) (N := 12) rfl inT5 (by decide) tw_1_102 (by decide +kernel) rfl, ⟨s_iload_n (k := 1) (by decide +kernel) rfl rfl, ⟨s_iald (by decide +kernel) rfl, ⟨s_ifne (off := (9)) (by decide +kernel) rfl rfl, ⟨s_aload_n (k := 0) (by decide +kernel) rfl rfl, ⟨s_bipush (by decide +kernel) rfl ⟨by decide, by decide⟩ (by decide +kernel), ⟨s_callV (C := RX5) (T := TX5) (N := 12) rfl ct_X5_addCell (by decide) (by decide) ⟨rfl, by decide +kernel, by decide +kernel, by decide +kernel⟩ tw_2_171 tw_2_173 ts_1_7 tw_1_4 tw_2_174 (by decide +kernel) rfl, ⟨s_aload_n (k := 0) (by decide +kernel) rfl rfl, ⟨s_aload_n (k := 0) (by decide +kernel) rfl rfl, ⟨s_get (C := RX5) (T := TX5) (N := 12) rfl inT5 (by decide) tw_1_95 (by decide +kernel) rfl, ⟨s_iload_n (k := 1) (by decide +kernel) rfl rfl, ⟨s_callV (C := RX0) (T := TX0) (N := 8) rfl ct_X0_signAt (by decide) (by decide) ⟨rfl, by decide +kernel, by decide +kernel, by decide +kernel⟩ tw_2_142 tw_2_130 tw_2_131 tw_1_2 tw_2_132 (by decide +kernel) rfl, ⟨s_callN ct_X6_letterOf (by decide) (by decide) ⟨by decide +kernel, by decide +kernel, by decide +kernel⟩ ni_7 tw_2_155 tw_1_1 tw_2_156 (by decide +kernel) rfl, ⟨s_callV (C := RX5) (T := TX5) (N := 12) rfl ct_X5_addCell (by decide) (by decide) ⟨rfl, by decide +kernel, by decide +kernel, by decide +kernel⟩ tw_2_171 tw_2_173 ts_1_7 tw_1_4 tw_2_174 (by decide +kernel) rfl, ⟨s_iconst (by decide +kernel) rfl ⟨by decide, by decide⟩, ⟨s_iret rfl (by decide +kernel), trivial⟩⟩⟩⟩⟩⟩⟩⟩⟩⟩⟩⟩⟩⟩⟩⟩⟩
theorem ct_X5_writeLetter : Ctr yX5_writeLetter cX5_writeLetter 2 (some .int) 2 40 sp_X5_writeLetter := by
  refine ctr_of (by decide +kernel) ao_X5_writeLetter rfl ?_
  rintro av M Ret ⟨i, rfl, hp, hR⟩ hok hM
  exact ⟨Nat.le_of_ble_eq_true rfl, fun Z hZ => b_X5_writeLetter  i (hok _ (List.mem_of_getElem? (i := 1) rfl)) M Ret hp hR hM Z hZ⟩
def sp_X5_writeRule : SP := fun av M Ret => ∃ k : Int, ∃ i : Int, av = [mr 10, mi k, mi i] ∧ (vOk (bX M 1) ∧ 0 ≤ k ∧ k < M 1 4 ∧ 0 ≤ M 10 4 ∧ M 10 4 + 1 ≤ 240 ∧ Sn M) ∧ (∀ M2 : Mem, (ApE [(vE (bX M 1) k.toNat, k, i, 1)] M M2) → Ret (some (mi (lnC (vC' (bX M 1) k.toNat)))) M2)
theorem k_X5_writeRule {code : List Sem} {Z : KZ} {Ret : KR} {ls : List (Option MV)} {M : Mem} {r : List MV} (hZ : Sim code Z Ret) (ip np : Nat) {k i : Int} (hc : code[ip]? = some (I_callV 5 2 sp_X5_writeRule)) (hn : ip + 1 = np) (h3 : catS r ≤ 8)  (hp : vOk (bX M 1) ∧ 0 ≤ k ∧ k < M 1 4 ∧ 0 ≤ M 10 4 ∧ M 10 4 + 1 ≤ 240 ∧ Sn M) (kz : ∀ M2 : Mem, (ApE [(vE (bX M 1) k.toNat, k, i, 1)] M M2) → Z np ls (mi (lnC (vC' (bX M 1) k.toNat)) :: r) M2) : Z ip ls (mi i :: mi k :: mr 10 :: r) M := w_callV2 hZ ip np hc hn rfl rfl h3 ⟨_, _, rfl, hp, fun M2 h => kz M2 h⟩
def cd_X5_writeRule : List Sem := [I_aload 0, I_aload 0, I_get 5 3, I_get 0 1, I_iload 1, I_iald, I_callV 5 1 sp_X5_addCell, I_aload 0, I_get 5 1, I_iload 1, I_iald, I_ifne 17, I_aload 0, I_get 5 2, I_iload 1, I_iload 2, I_iast, I_aload 0, I_get 5 1, I_iload 1, I_dup2, I_iald, I_const (1), I_add, I_iast, I_aload 0, I_get 5 3, I_get 0 0, I_iload 1, I_iald, I_callS 1 sp_X6_lettersOf, I_iret]
def pc_X5_writeRule : List Nat := [0, 1, 2, 5, 8, 9, 10, 13, 14, 17, 18, 19, 22, 23, 26, 27, 28, 29, 30, 33, 34, 35, 36, 37, 38, 39, 40, 43, 46, 47, 48, 51]
set_option maxRecDepth 100000 in
set_option maxHeartbeats 4000000 in
theorem b_X5_writeRule (k : Int) (i_k : InR k) (i : Int) (i_i : InR i) (M : Mem) (Ret : KR) (hp : vOk (bX M 1) ∧ 0 ≤ k ∧ k < M 1 4 ∧ 0 ≤ M 10 4 ∧ M 10 4 + 1 ≤ 240 ∧ Sn M) (hR : ∀ M2 : Mem, (ApE [(vE (bX M 1) k.toNat, k, i, 1)] M M2) → Ret (some (mi (lnC (vC' (bX M 1) k.toNat)))) M2) (hM : MOk M) (Z : KZ) (hZ : Sim cd_X5_writeRule Z Ret) : Z 0 [some (mr 10), some (mi k), some (mi i)] [] M := by
  obtain ⟨hv, hk0, hk1, hc0, hc1, hsn⟩ := hp
  have hb := hv.bx
  obtain ⟨b1, b2, b3, b4⟩ := hb
  have hE : vE (bX M 1) k.toNat = M 3 k.toNat := cut_in (by omega)
  have hC : vC' (bX M 1) k.toNat = M 2 k.toNat := cut_in (by omega)
  have hvc := (hv.2.2.2.2.2.2.1 k.toNat (by show ((k.toNat : Nat) : Int) < M 1 4; omega)).1
  rw [hC] at hvc
  have hs := hsn k.toNat (by omega)
  have hf := ApE_rule (M := M) hc0 (k := k.toNat) (by omega) i (M 3 k.toNat) hs.1
  rw [Int.toNat_of_nonneg hk0] at hf
  refine w_aload hZ 0 1 rfl rfl rfl ?_
  refine w_aload hZ 1 2 rfl rfl rfl ?_
  refine w_getr hZ 2 3 rfl rfl rfl rfl rfl ?_
  refine w_getr hZ 3 4 rfl rfl rfl rfl rfl ?_
  refine w_iload hZ 4 5 rfl rfl rfl ?_
  refine w_iald hZ 5 6 rfl rfl rfl (by omega) (by omega) ?_
  refine k_X5_addCell hZ 6 7 rfl rfl (Nat.le_of_ble_eq_true rfl) (by omega) (fun M6 p6 => ?_)
  subst p6
  refine w_aload hZ 7 8 rfl rfl rfl ?_
  refine w_getr hZ 8 9 rfl rfl rfl rfl rfl ?_
  refine w_iload hZ 9 10 rfl rfl rfl ?_
  refine w_ialdv hZ 10 11 rfl rfl rfl (by omega) (by omega) (v := M 12 k.toNat) rfl ?_
  refine w_ifne hZ 11 12 rfl rfl (fun c11 => ?_) (fun c11 => ?_)
  · refine w_aload hZ 17 18 rfl rfl rfl ?_
    refine w_getr hZ 18 19 rfl rfl rfl rfl rfl ?_
    refine w_iload hZ 19 20 rfl rfl rfl ?_
    refine w_dup2 hZ 20 21 rfl rfl rfl rfl ?_
    refine w_ialdv hZ 21 22 rfl rfl rfl (by omega) (by omega) (v := M 12 k.toNat) rfl ?_
    refine w_const hZ 22 23 rfl rfl  ?_
    refine w_add hZ 23 24 rfl rfl (by unfold InR; omega) ?_
    refine w_iast hZ 24 25 rfl rfl rfl (by omega) (by omega) ?_
    refine w_aload hZ 25 26 rfl rfl rfl ?_
    refine w_getr hZ 26 27 rfl rfl rfl rfl rfl ?_
    refine w_getr hZ 27 28 rfl rfl rfl rfl rfl ?_
    refine w_iload hZ 28 29 rfl rfl rfl ?_
    refine w_ialdv hZ 29 30 rfl rfl rfl (by omega) (by omega) (v := M 2 k.toNat) rfl ?_
    refine k_X6_lettersOf hZ 30 31 rfl rfl (Nat.le_of_ble_eq_true rfl) hvc.2.1 ?_
    refine w_iret hZ 31 rfl ?_
    first
      | (rw [if_neg c11] at hf; rw [hC] at hR; refine hR _ ?_; rw [hE]; exact hf)
      | (rw [if_pos c11] at hf; rw [hC] at hR; refine hR _ ?_; rw [hE]; exact hf)
  · refine w_aload hZ 12 13 rfl rfl rfl ?_
    refine w_getr hZ 13 14 rfl rfl rfl rfl rfl ?_
    refine w_iload hZ 14 15 rfl rfl rfl ?_
    refine w_iload hZ 15 16 rfl rfl rfl ?_
    refine w_iast hZ 16 17 rfl rfl rfl (by omega) (by omega) ?_
    refine w_aload hZ 17 18 rfl rfl rfl ?_
    refine w_getr hZ 18 19 rfl rfl rfl rfl rfl ?_
    refine w_iload hZ 19 20 rfl rfl rfl ?_
    refine w_dup2 hZ 20 21 rfl rfl rfl rfl ?_
    refine w_ialdv hZ 21 22 rfl rfl rfl (by omega) (by omega) (v := M 12 k.toNat) rfl ?_
    refine w_const hZ 22 23 rfl rfl  ?_
    refine w_add hZ 23 24 rfl rfl (by unfold InR; omega) ?_
    refine w_iast hZ 24 25 rfl rfl rfl (by omega) (by omega) ?_
    refine w_aload hZ 25 26 rfl rfl rfl ?_
    refine w_getr hZ 26 27 rfl rfl rfl rfl rfl ?_
    refine w_getr hZ 27 28 rfl rfl rfl rfl rfl ?_
    refine w_iload hZ 28 29 rfl rfl rfl ?_
    refine w_ialdv hZ 29 30 rfl rfl rfl (by omega) (by omega) (v := M 2 k.toNat) rfl ?_
    refine k_X6_lettersOf hZ 30 31 rfl rfl (Nat.le_of_ble_eq_true rfl) hvc.2.1 ?_
    refine w_iret hZ 31 rfl ?_
    first
      | (rw [if_neg c11] at hf; rw [hC] at hR; refine hR _ ?_; rw [hE]; exact hf)
      | (rw [if_pos c11] at hf; rw [hC] at hR; refine hR _ ?_; rw [hE]; exact hf)
set_option maxRecDepth 100000 in
set_option maxHeartbeats 4000000 in
theorem ao_X5_writeRule : AllOk yX5_writeRule.cls cX5_writeRule 3 1 23 (some .int) none pc_X5_writeRule 0 cd_X5_writeRule := ⟨s_aload_n (k := 0) (by decide +kernel) rfl rfl, ⟨s_aload_n (k := 0) (by decide +kernel) rfl rfl, ⟨s_get (C := RX5) (T := TX5) (N := 12) rfl inT5 (by decide) tw_1_95 (by decide +kernel) rfl, ⟨s_get (C := RX0) (T := TX0) (N := 8) rfl inT0 (by decide) tw_1_30 (by decide +kernel) rfl, ⟨s_iload_n (k := 1) (by decide +kernel) rfl rfl, ⟨s_iald (by decide +kernel) rfl, ⟨s_callV (C := RX5) (T := TX5) (N := 12) rfl ct_X5_addCell (by decide) (by decide) ⟨rfl, by decide +kernel, by decide +kernel, by decide +kernel⟩ tw_2_171 tw_2_173 ts_1_7 tw_1_4 tw_2_174 (by decide +kernel) rfl, ⟨s_aload_n (k := 0) (by decide +kernel) rfl rfl, ⟨s_get (C := RX5) (T := TX5) (N := 12) rfl inT5 (by decide) tw_1_91 (by decide +kernel) rfl, ⟨s_iload_n (k := 1) (by decide +kernel) rfl rfl, ⟨s_iald (by decide +kernel) rfl, ⟨s_ifne (off := (10)) (by decide +kernel) rfl rfl, ⟨s_aload_n (k := 0) (by decide +kernel) rfl rfl, ⟨s_get (C := RX5) (T := TX5) (N := 12) rfl inT5 (by decide) tw_1_93 (by decide +kernel) rfl, ⟨s_iload_n (k := 1) (by decide +kernel) rfl rfl, ⟨s_iload_n (k := 2) (by decide +kernel) rfl rfl, ⟨s_iast (by decide +kernel) rfl, ⟨s_aload_n (k := 0) (by decide +kernel) rfl rfl, ⟨s_get (C := RX5) (T := TX5) (N := 12) rfl inT5 (by decide) tw_1_91 (by decide +kernel) rfl, ⟨s_iload_n (k := 1) (by decide +kernel) rfl rfl, ⟨s_dup2 (by decide +kernel) rfl, ⟨s_iald (by decide +kernel) rfl, ⟨s_iconst (by decide +kernel) rfl ⟨by decide, by decide⟩, ⟨s_add (by decide +kernel) rfl, ⟨s_iast (by decide +kernel) rfl, ⟨s_aload_n (k := 0) (by decide +kernel) rfl rfl, ⟨s_get (C := RX5) (T := TX5) (N := 12) rfl inT5 (by decide) tw_1_95 (by decide +kernel) rfl, ⟨s_get (C := RX0) (T := TX0) (N := 8) rfl inT0 (by decide) tw_1_27 (by decide +kernel) rfl, ⟨s_iload_n (k := 1) (by decide +kernel) rfl rfl, ⟨s_iald (by decide +kernel) rfl, ⟨s_callN ct_X6_lettersOf (by decide) (by decide) ⟨by decide +kernel, by decide +kernel, by decide +kernel⟩ ni_10 tw_1_237 tw_1_1 tw_1_238 (by decide +kernel) rfl, ⟨s_iret rfl (by decide +kernel), trivial⟩⟩⟩⟩⟩⟩⟩⟩⟩⟩⟩⟩⟩⟩⟩⟩⟩⟩⟩⟩⟩⟩⟩⟩⟩⟩⟩⟩⟩⟩⟩⟩
theorem ct_X5_writeRule : Ctr yX5_writeRule cX5_writeRule 3 (some .int) 1 23 sp_X5_writeRule := by
  refine ctr_of (by decide +kernel) ao_X5_writeRule rfl ?_
  rintro av M Ret ⟨k, i, rfl, hp, hR⟩ hok hM
  exact ⟨Nat.le_of_ble_eq_true rfl, fun Z hZ => b_X5_writeRule  k (hok _ (List.mem_of_getElem? (i := 1) rfl)) i (hok _ (List.mem_of_getElem? (i := 2) rfl)) M Ret hp hR hM Z hZ⟩
def sp_X5_writeFigure : SP := fun av M Ret => ∃ i : Int, ∃ s : Int, av = [mr 10, mi i, mi s] ∧ (vOk (bX M 1) ∧ 0 ≤ i ∧ i < M 1 5 ∧ s = vS (bX M 1) i ∧ isFg s ∧ 0 ≤ M 10 4 ∧ M 10 4 + (sgE (bX M 1) i).length ≤ 240 ∧ Sn M) ∧ (∀ M2 : Mem, (ApE (sgE (bX M 1) i) M M2) → Ret none M2)
theorem k_X5_writeFigure {code : List Sem} {Z : KZ} {Ret : KR} {ls : List (Option MV)} {M : Mem} {r : List MV} (hZ : Sim code Z Ret) (ip np : Nat) {i s : Int} (hc : code[ip]? = some (I_callV 5 2 sp_X5_writeFigure)) (hn : ip + 1 = np) (h3 : catS r ≤ 8)  (hp : vOk (bX M 1) ∧ 0 ≤ i ∧ i < M 1 5 ∧ s = vS (bX M 1) i ∧ isFg s ∧ 0 ≤ M 10 4 ∧ M 10 4 + (sgE (bX M 1) i).length ≤ 240 ∧ Sn M) (kz : ∀ M2 : Mem, (ApE (sgE (bX M 1) i) M M2) → Z np ls r M2) : Z ip ls (mi s :: mi i :: mr 10 :: r) M := w_callV2 hZ ip np hc hn rfl rfl h3 ⟨_, _, rfl, hp, fun M2 h => kz M2 h⟩
def cd_X5_writeFigure : List Sem := [I_aload 0, I_get 5 3, I_iload 1, I_callV 0 1 sp_X0_isBehindFigures, I_ifne 8, I_aload 0, I_const (61), I_callV 5 1 sp_X5_addCell, I_aload 0, I_iload 2, I_callS 1 sp_X6_cellOfFigure, I_callV 5 1 sp_X5_addCell, I_vret]
def pc_X5_writeFigure : List Nat := [0, 1, 4, 5, 8, 11, 12, 14, 17, 18, 19, 22, 25]
set_option maxRecDepth 100000 in
set_option maxHeartbeats 4000000 in
theorem b_X5_writeFigure (i : Int) (i_i : InR i) (s : Int) (i_s : InR s) (M : Mem) (Ret : KR) (hp : vOk (bX M 1) ∧ 0 ≤ i ∧ i < M 1 5 ∧ s = vS (bX M 1) i ∧ isFg s ∧ 0 ≤ M 10 4 ∧ M 10 4 + (sgE (bX M 1) i).length ≤ 240 ∧ Sn M) (hR : ∀ M2 : Mem, (ApE (sgE (bX M 1) i) M M2) → Ret none M2) (hM : MOk M) (Z : KZ) (hZ : Sim cd_X5_writeFigure Z Ret) : Z 0 [some (mr 10), some (mi i), some (mi s)] [] M := by
  obtain ⟨hv, hi0, hi1, hs, hf, hc0, hc1, hsn⟩ := hp
  have hb := hv.bx
  have hbb := hb
  obtain ⟨b1, b2, b3, b4⟩ := hbb
  have hff := hf
  rw [hs] at hff
  have hE : sgE (bX M 1) i = (if isBh (SX M) i then [] else [(61, -1, i, 0)]) ++ [(fgC s, -1, i, 0)] := by
    have q : sgE (bX M 1) i = (if isBh (vS (bX M 1)) i then [] else [(61, -1, i, 0)]) ++ [(fgC s, -1, i, 0)] := by
      unfold sgE; rw [if_pos hff, hs]
    exact q
  have fin : ∀ (A : List Ev) (N : Mem), ApE A M N → sgE (bX M 1) i = A ++ [(fgC s, -1, i, 0)] → Z 8 [some (mr 10), some (mi i), some (mi s)] [] N := by
    intro A N hA hE2
    have hlen : (sgE (bX M 1) i).length = A.length + 1 := by rw [hE2]; simp
    have ha1 := hA.1
    refine w_aload hZ 8 9 rfl rfl rfl ?_
    refine w_iload hZ 9 10 rfl rfl rfl ?_
    refine k_X6_cellOfFigure hZ 10 11 rfl rfl (Nat.le_of_ble_eq_true rfl) ⟨by omega, by omega⟩ ?_
    refine k_X5_addCell hZ 11 12 rfl rfl (Nat.le_of_ble_eq_true rfl) ⟨by omega, by omega⟩ (fun M11 p11 => ?_)
    refine w_vret hZ 12 rfl ?_
    subst p11
    refine hR _ ?_
    rw [hE2]
    exact hA.trans (ApE_cell (by omega) (fgC s, -1, i, 0) rfl) hc0 (fun k hk => (hsn k hk).1)
  refine w_aload hZ 0 1 rfl rfl rfl ?_
  refine w_getr hZ 1 2 rfl rfl rfl rfl rfl ?_
  refine w_iload hZ 2 3 rfl rfl rfl ?_
  refine k_X0_isBehindFigures hZ 3 4 rfl rfl (Nat.le_of_ble_eq_true rfl) ⟨hb, by unfold InR; omega, by unfold InR; omega⟩ ?_
  refine w_ifne hZ 4 5 rfl rfl (fun c4 => ?_) (fun c4 => ?_)
  · first
      | (subst p7; refine fin _ _ (ApE_cell hc0 (61, -1, i, 0) rfl) ?_; rw [hE, if_neg (b2i_z.mp c4)])
      | (refine fin [] M (ApE_nil M) ?_; rw [hE, if_pos (b2i_e.mp c4)])
  · have hlen : (sgE (bX M 1) i).length = 2 := by rw [hE, if_neg (b2i_z.mp c4)]; rfl
    refine w_aload hZ 5 6 rfl rfl rfl ?_
    refine w_const hZ 6 7 rfl rfl  ?_
    refine k_X5_addCell hZ 7 8 rfl rfl (Nat.le_of_ble_eq_true rfl) (by omega) (fun M7 p7 => ?_)
    first
      | (subst p7; refine fin _ _ (ApE_cell hc0 (61, -1, i, 0) rfl) ?_; rw [hE, if_neg (b2i_z.mp c4)])
      | (refine fin [] M (ApE_nil M) ?_; rw [hE, if_pos (b2i_e.mp c4)])
set_option maxRecDepth 100000 in
set_option maxHeartbeats 4000000 in
theorem ao_X5_writeFigure : AllOk yX5_writeFigure.cls cX5_writeFigure 3 2 42 none none pc_X5_writeFigure 0 cd_X5_writeFigure := ⟨s_aload_n (k := 0) (by decide +kernel) rfl rfl, ⟨s_get (C := RX5) (T := TX5) (N := 12) rfl inT5 (by decide) tw_1_95 (by decide +kernel) rfl, ⟨s_iload_n (k := 1) (by decide +kernel) rfl rfl, ⟨s_callV (C := RX0) (T := TX0) (N := 8) rfl ct_X0_isBehindFigures (by decide) (by decide) ⟨rfl, by decide +kernel, by decide +kernel, by decide +kernel⟩ tw_2_165 tw_2_166 tw_2_167 tw_1_2 tw_2_168 (by decide +kernel) rfl, ⟨s_ifne (off := (9)) (by decide +kernel) rfl rfl, ⟨s_aload_n (k := 0) (by decide +kernel) rfl rfl, ⟨s_bipush (by decide +kernel) rfl ⟨by decide, by decide⟩ (by decide +kernel), ⟨s_callV (C := RX5) (T := TX5) (N := 12) rfl ct_X5_addCell (by decide) (by decide) ⟨rfl, by decide +kernel, by decide +kernel, by decide +kernel⟩ tw_2_171 tw_2_173 ts_1_7 tw_1_4 tw_2_174 (by decide +kernel) rfl, ⟨s_aload_n (k := 0) (by decide +kernel) rfl rfl, ⟨s_iload_n (k := 2) (by decide +kernel) rfl rfl, ⟨s_callN ct_X6_cellOfFigure (by decide) (by decide) ⟨by decide +kernel, by decide +kernel, by decide +kernel⟩ ni_12 tw_2_203 tw_1_1 tw_2_204 (by decide +kernel) rfl, ⟨s_callV (C := RX5) (T := TX5) (N := 12) rfl ct_X5_addCell (by decide) (by decide) ⟨rfl, by decide +kernel, by decide +kernel, by decide +kernel⟩ tw_2_171 tw_2_173 ts_1_7 tw_1_4 tw_2_174 (by decide +kernel) rfl, ⟨s_vret rfl (by decide +kernel), trivial⟩⟩⟩⟩⟩⟩⟩⟩⟩⟩⟩⟩⟩
theorem ct_X5_writeFigure : Ctr yX5_writeFigure cX5_writeFigure 3 none 2 42 sp_X5_writeFigure := by
  refine ctr_of (by decide +kernel) ao_X5_writeFigure rfl ?_
  rintro av M Ret ⟨i, s, rfl, hp, hR⟩ hok hM
  exact ⟨Nat.le_of_ble_eq_true rfl, fun Z hZ => b_X5_writeFigure  i (hok _ (List.mem_of_getElem? (i := 1) rfl)) s (hok _ (List.mem_of_getElem? (i := 2) rfl)) M Ret hp hR hM Z hZ⟩
end
section
/-! Writer: words -/
def EW (a e : Int) (M N : Mem) : Prop := N 10 7 = a ∧ N 10 8 = e ∧ (∀ f, ¬ f = 7 → ¬ f = 8 → ¬ f = 9 → N 10 f = M 10 f) ∧ ∀ k, ¬ k = 10 → ¬ k = 14 → N k = M k
theorem EW.bx {a e : Int} {M N : Mem} (h : EW a e M N) : bX N 1 = bX M 1 := bX_same 1 (fun j h1 h2 => h.2.2.2 j (by omega) (by omega))
theorem EW.put {a e : Int} {M N : Mem} (h : EW a e M N) (z : Int) : EW a e M (mup N 10 9 z) := by
  refine ⟨by simp [mup_at]; exact h.1, by simp [mup_at]; exact h.2.1, fun f a1 a2 a3 => by simp [mup_at, a3]; exact h.2.2.1 f a1 a2 a3, fun k a1 a2 => ?_⟩
  rw [← h.2.2.2 k a1 a2]
  funext j; simp [mup_at, a1]
theorem EW.st {a e : Int} {M N : Mem} (h : EW a e M N) (j : Nat) (z : Int) : EW a e M (mup N 14 j z) := by
  refine ⟨by simp [mup_at]; exact h.1, by simp [mup_at]; exact h.2.1, fun f a1 a2 a3 => by simp [mup_at]; exact h.2.2.1 f a1 a2 a3, fun k a1 a2 => ?_⟩
  rw [← h.2.2.2 k a1 a2]
  funext j; simp [mup_at, a2]
def sp_X5_enterWord : SP := fun av M Ret => ∃ i : Int, av = [mr 10, mi i] ∧ (vOk (bX M 1) ∧ 0 ≤ i ∧ i < M 1 5 ∧ isLt (vS (bX M 1) i)) ∧ (∀ M2 : Mem, (EW i (we (M 1 5) (SX M) i) M M2 ∧ M2 10 9 = b2i (alC (bX M 1) i (we (M 1 5) (SX M) i) = true) ∧ ∀ j, i ≤ j → j < we (M 1 5) (SX M) i → M2 14 j.toNat = smV (bX M 1) (alC (bX M 1) i (we (M 1 5) (SX M) i)) j) → Ret none M2)
theorem k_X5_enterWord {code : List Sem} {Z : KZ} {Ret : KR} {ls : List (Option MV)} {M : Mem} {r : List MV} (hZ : Sim code Z Ret) (ip np : Nat) {i : Int} (hc : code[ip]? = some (I_callV 5 1 sp_X5_enterWord)) (hn : ip + 1 = np) (h3 : catS r ≤ 8)  (hp : vOk (bX M 1) ∧ 0 ≤ i ∧ i < M 1 5 ∧ isLt (vS (bX M 1) i)) (kz : ∀ M2 : Mem, (EW i (we (M 1 5) (SX M) i) M M2 ∧ M2 10 9 = b2i (alC (bX M 1) i (we (M 1 5) (SX M) i) = true) ∧ ∀ j, i ≤ j → j < we (M 1 5) (SX M) i → M2 14 j.toNat = smV (bX M 1) (alC (bX M 1) i (we (M 1 5) (SX M) i)) j) → Z np ls r M2) : Z ip ls (mi i :: mr 10 :: r) M := w_callV1 hZ ip np hc hn rfl rfl h3 ⟨_, rfl, hp, fun M2 h => kz M2 h⟩
def cd_X5_enterWord : List Sem := [I_aload 0, I_iload 1, I_puti 5 7, I_aload 0, I_aload 0, I_get 5 3, I_iload 1, I_callV 0 1 sp_X0_endOfWord, I_puti 5 8, I_aload 0, I_aload 0, I_get 5 8, I_aload 0, I_get 5 7, I_sub, I_const (2), I_clt 19, I_const (1), I_goto 20, I_const (0), I_putz 5 9, I_aload 0, I_get 5 7, I_istore 2, I_iload 2, I_aload 0, I_get 5 8, I_cge 39, I_aload 0, I_get 5 3, I_iload 2, I_callV 0 1 sp_X0_signAt, I_callS 1 sp_X6_isCapital, I_ifne 37, I_aload 0, I_const (0), I_putz 5 9, I_iinc 2 (1), I_goto 24, I_aload 0, I_get 5 7, I_istore 2, I_iload 2, I_aload 0, I_get 5 8, I_cge 67, I_aload 0, I_get 5 3, I_iload 2, I_callV 0 1 sp_X0_signAt, I_istore 3, I_aload 0, I_get 5 10, I_iload 2, I_aload 0, I_get 5 9, I_ifne 60, I_iload 3, I_callS 1 sp_X6_isSmall, I_ifeq 63, I_iload 3, I_callS 1 sp_X6_letterOf, I_goto 64, I_const (0), I_iast, I_iinc 2 (1), I_goto 42, I_vret]
def pc_X5_enterWord : List Nat := [0, 1, 2, 5, 6, 7, 10, 11, 14, 17, 18, 19, 22, 23, 26, 27, 28, 31, 32, 35, 36, 39, 40, 43, 44, 45, 46, 49, 52, 53, 56, 57, 60, 63, 66, 67, 68, 71, 74, 77, 78, 81, 82, 83, 84, 87, 90, 91, 94, 95, 98, 99, 100, 103, 104, 105, 108, 111, 112, 115, 118, 119, 122, 125, 126, 127, 130, 133]
set_option maxRecDepth 100000 in
set_option maxHeartbeats 4000000 in
theorem b_X5_enterWord (i : Int) (i_i : InR i) (M : Mem) (Ret : KR) (hp : vOk (bX M 1) ∧ 0 ≤ i ∧ i < M 1 5 ∧ isLt (vS (bX M 1) i)) (hR : ∀ M2 : Mem, (EW i (we (M 1 5) (SX M) i) M M2 ∧ M2 10 9 = b2i (alC (bX M 1) i (we (M 1 5) (SX M) i) = true) ∧ ∀ j, i ≤ j → j < we (M 1 5) (SX M) i → M2 14 j.toNat = smV (bX M 1) (alC (bX M 1) i (we (M 1 5) (SX M) i)) j) → Ret none M2) (hM : MOk M) (Z : KZ) (hZ : Sim cd_X5_enterWord Z Ret) : Z 0 [some (mr 10), some (mi i), none, none] [] M := by
  obtain ⟨hv, hi0, hi1, hl⟩ := hp
  have hb := hv.bx
  have hbb := hb
  obtain ⟨b1, b2, b3, b4⟩ := hbb
  have hwe := we_gt hv (i := i) hi1 hl
  have hws := we_spec (n := M 1 5) (S := SX M) (i := i) (Int.le_of_lt hi1) (SX_n M)
  obtain ⟨w1, w2, w3, w4⟩ := hws
  replace hwe : i < we (M 1 5) (SX M) i ∧ we (M 1 5) (SX M) i ≤ M 1 5 := hwe
  have hSV : ∀ j, SX M j = vS (bX M 1) j := fun _ => rfl
  generalize hE : we (M 1 5) (SX M) i = e at *
  have loop2 : ∀ (d : Nat) (j : Int) (N : Mem), d = (e - j).toNat → i ≤ j → j ≤ e → EW i e M N → N 10 9 = b2i (alC (bX M 1) i e = true) → (∀ x, i ≤ x → x < j → N 14 x.toNat = smV (bX M 1) (alC (bX M 1) i e) x) → Z 42 [some (mr 10), some (mi i), some (mi j), none] [] N := by
    intro d
    induction d using Nat.strongRecOn with
    | ind d ih =>
      intro j N hd h0 h1 hW hg hx
      have hbN := hW.bx
      have hBN : Bx N := (hbN ▸ hv : vOk (bX N 1)).bx
      have hsN : SX N j = vS (bX M 1) j := by show vS (bX N 1) j = _; rw [hbN]
      have st : j < e → ∀ z : Int, z = smV (bX M 1) (alC (bX M 1) i e) j → Z 64 [some (mr 10), some (mi i), some (mi j), some (mi (vS (bX M 1) j))] [mi z, mi j, mr 14] N := by
        intro hje z hz
        refine w_iast hZ 64 65 rfl rfl rfl (by omega) (by omega) ?_
        refine w_in4_2 hZ 65 66 rfl rfl rfl (by unfold InR; omega) ?_
        refine w_goto hZ 66 42 rfl ?_
        refine w_fg4_3 hZ ?_
        refine ih ((e - (j + 1)).toNat) (by omega) (j + 1) _ rfl (by omega) (by omega) (hW.st _ _) (by simp [mup_at]; exact hg) (fun x x0 x1 => ?_)
        by_cases q : x = j
        · subst q; simp [mup_at, hz]
        · have : ¬ x.toNat = j.toNat := by omega
          simp [mup_at, this]; exact hx x x0 (by omega)
      refine w_iload hZ 42 43 rfl rfl rfl ?_
      refine w_aload hZ 43 44 rfl rfl rfl ?_
      refine w_getiv hZ 44 45 rfl rfl rfl rfl rfl (v := e) hW.2.1 ?_
      refine w_cge hZ 45 46 rfl rfl (fun c45 => ?_) (fun c45 => ?_)
      · refine w_vret hZ 67 rfl ?_
        exact hR _ ⟨hW, hg, fun x x0 x1 => hx x x0 (by omega)⟩
      · refine w_aload hZ 46 47 rfl rfl rfl ?_
        refine w_getr hZ 47 48 rfl rfl rfl rfl rfl ?_
        refine w_iload hZ 48 49 rfl rfl rfl ?_
        refine k_X0_signAt hZ 49 50 rfl rfl (Nat.le_of_ble_eq_true rfl) hBN ?_
        rw [hsN]
        have hlj := w3 j h0 (by omega)
        rw [hSV j] at hlj
        refine w_st4_3 hZ 50 51 rfl rfl rfl ?_
        refine w_aload hZ 51 52 rfl rfl rfl ?_
        refine w_getr hZ 52 53 rfl rfl rfl rfl rfl ?_
        refine w_iload hZ 53 54 rfl rfl rfl ?_
        refine w_aload hZ 54 55 rfl rfl rfl ?_
        refine w_getzv hZ 55 56 rfl rfl rfl rfl rfl (v := b2i (alC (bX M 1) i e = true)) hg ?_
        refine w_ifne hZ 56 57 rfl rfl (fun c56 => ?_) (fun c56 => ?_)
        · refine w_iload hZ 60 61 rfl rfl rfl ?_
          refine k_X6_letterOf hZ 61 62 rfl rfl (Nat.le_of_ble_eq_true rfl) (by unfold InR; simp only [isLt, isSm, isCp] at hlj; omega) ?_
          refine w_goto hZ 62 64 rfl ?_
          first
            | exact st (by omega) _ (by unfold smV; rw [if_pos (Or.inl (b2i_e.mp c56))])
            | exact st (by omega) _ (by unfold smV; rw [if_pos (Or.inr (b2i_e.mp c59))])
            | (refine st (by omega) _ ?_; unfold smV; rw [if_neg (fun q => q.elim (b2i_z.mp c56) (b2i_z.mp c59))])
        · refine w_iload hZ 57 58 rfl rfl rfl ?_
          refine k_X6_isSmall hZ 58 59 rfl rfl (Nat.le_of_ble_eq_true rfl)  ?_
          refine w_ifeq hZ 59 60 rfl rfl (fun c59 => ?_) (fun c59 => ?_)
          · refine w_const hZ 63 64 rfl rfl  ?_
            first
              | exact st (by omega) _ (by unfold smV; rw [if_pos (Or.inl (b2i_e.mp c56))])
              | exact st (by omega) _ (by unfold smV; rw [if_pos (Or.inr (b2i_e.mp c59))])
              | (refine st (by omega) _ ?_; unfold smV; rw [if_neg (fun q => q.elim (b2i_z.mp c56) (b2i_z.mp c59))])
          · refine w_iload hZ 60 61 rfl rfl rfl ?_
            refine k_X6_letterOf hZ 61 62 rfl rfl (Nat.le_of_ble_eq_true rfl) (by unfold InR; simp only [isLt, isSm, isCp] at hlj; omega) ?_
            refine w_goto hZ 62 64 rfl ?_
            first
              | exact st (by omega) _ (by unfold smV; rw [if_pos (Or.inl (b2i_e.mp c56))])
              | exact st (by omega) _ (by unfold smV; rw [if_pos (Or.inr (b2i_e.mp c59))])
              | (refine st (by omega) _ ?_; unfold smV; rw [if_neg (fun q => q.elim (b2i_z.mp c56) (b2i_z.mp c59))])
  have loop1 : ∀ (d : Nat) (j : Int) (N : Mem), d = (e - j).toNat → i ≤ j → j ≤ e → EW i e M N → ((N 10 9 = 1 ∧ 2 ≤ e - i ∧ ∀ x, i ≤ x → x < j → isCp (vS (bX M 1) x)) ∨ (N 10 9 = 0 ∧ ¬ (2 ≤ e - i ∧ ∀ x, i ≤ x → x < j → isCp (vS (bX M 1) x)))) → Z 24 [some (mr 10), some (mi i), some (mi j), none] [] N := by
    intro d
    induction d using Nat.strongRecOn with
    | ind d ih =>
      intro j N hd h0 h1 hW hg
      have hbN := hW.bx
      have hBN : Bx N := (hbN ▸ hv : vOk (bX N 1)).bx
      have hsN : SX N j = vS (bX M 1) j := by show vS (bX N 1) j = _; rw [hbN]
      have st : j < e → ∀ N2 : Mem, EW i e M N2 → ((N2 10 9 = N 10 9 ∧ isCp (vS (bX M 1) j)) ∨ (N2 10 9 = 0 ∧ ¬ isCp (vS (bX M 1) j))) → Z 37 [some (mr 10), some (mi i), some (mi j), none] [] N2 := by
        intro hje N2 hW2 hc
        refine w_in4_2 hZ 37 38 rfl rfl rfl (by clear hg hc; unfold InR; omega) ?_
        refine w_goto hZ 38 24 rfl ?_
        refine ih ((e - (j + 1)).toNat) (by clear hg hc; omega) (j + 1) N2 rfl (by clear hg hc; omega) (by clear hg hc; omega) hW2 ?_
        rcases hc with ⟨c1, c2⟩ | ⟨c1, c2⟩
        · rcases hg with ⟨g1, g2, g3⟩ | ⟨g1, g2⟩
          · refine Or.inl ⟨c1.trans g1, g2, fun x x0 x1 => ?_⟩
            by_cases q : x = j
            · rw [q]; exact c2
            · exact g3 x x0 (by omega)
          · exact Or.inr ⟨c1.trans g1, fun z => g2 ⟨z.1, fun x x0 x1 => z.2 x x0 (by omega)⟩⟩
        · exact Or.inr ⟨c1, fun z => c2 (z.2 j h0 (by omega))⟩
      refine w_iload hZ 24 25 rfl rfl rfl ?_
      refine w_aload hZ 25 26 rfl rfl rfl ?_
      refine w_getiv hZ 26 27 rfl rfl rfl rfl rfl (v := e) hW.2.1 ?_
      refine w_cge hZ 27 28 rfl rfl (fun c27 => ?_) (fun c27 => ?_)
      · refine w_aload hZ 39 40 rfl rfl rfl ?_
        refine w_getiv hZ 40 41 rfl rfl rfl rfl rfl (v := i) hW.1 ?_
        refine w_st4_2 hZ 41 42 rfl rfl rfl ?_
        refine loop2 _ i N rfl (Int.le_refl _) (Int.le_of_lt hwe.1) hW ?_ (fun x x0 x1 => by omega)
        rcases hg with ⟨g1, g2, g3⟩ | ⟨g1, g2⟩
        · rw [g1]; exact (b2i_t ((alC_iff _ _ _).mpr ⟨g2, fun x x0 x1 => g3 x x0 (by omega)⟩)).symm
        · rw [g1]; exact (b2i_f (fun z => g2 ⟨((alC_iff _ _ _).mp z).1, fun x x0 x1 => ((alC_iff _ _ _).mp z).2 x x0 (by omega)⟩)).symm
      · refine w_aload hZ 28 29 rfl rfl rfl ?_
        refine w_getr hZ 29 30 rfl rfl rfl rfl rfl ?_
        refine w_iload hZ 30 31 rfl rfl rfl ?_
        refine k_X0_signAt hZ 31 32 rfl rfl (Nat.le_of_ble_eq_true rfl) hBN ?_
        rw [hsN]
        refine k_X6_isCapital hZ 32 33 rfl rfl (Nat.le_of_ble_eq_true rfl)  ?_
        refine w_ifne hZ 33 34 rfl rfl (fun c33 => ?_) (fun c33 => ?_)
        · first
            | exact st c27 N hW (Or.inl ⟨rfl, b2i_e.mp c33⟩)
            | exact st c27 _ (hW.put 0) (Or.inr ⟨by simp [mup_at], b2i_z.mp c33⟩)
        · refine w_aload hZ 34 35 rfl rfl rfl ?_
          refine w_const hZ 35 36 rfl rfl  ?_
          refine w_putz hZ 36 37 rfl rfl rfl rfl rfl (by omega) ?_
          first
            | exact st c27 N hW (Or.inl ⟨rfl, b2i_e.mp c33⟩)
            | exact st c27 _ (hW.put 0) (Or.inr ⟨by simp [mup_at], b2i_z.mp c33⟩)
  have t21 : ∀ N : Mem, EW i e M N → ((N 10 9 = 1 ∧ 2 ≤ e - i) ∨ (N 10 9 = 0 ∧ ¬ 2 ≤ e - i)) → Z 21 [some (mr 10), some (mi i), none, none] [] N := by
    intro N hW hg
    refine w_aload hZ 21 22 rfl rfl rfl ?_
    refine w_getiv hZ 22 23 rfl rfl rfl rfl rfl (v := i) hW.1 ?_
    refine w_st4_2 hZ 23 24 rfl rfl rfl ?_
    refine loop1 _ i N rfl (Int.le_refl _) (Int.le_of_lt hwe.1) hW ?_
    rcases hg with ⟨g1, g2⟩ | ⟨g1, g2⟩
    · exact Or.inl ⟨g1, g2, fun x x0 x1 => by omega⟩
    · exact Or.inr ⟨g1, fun z => g2 z.1⟩
  have hW0 : EW i e M (mup (mup M 10 7 i) 10 8 e) := by
    refine ⟨by simp [mup_at], by simp [mup_at], fun f a1 a2 a3 => by simp [mup_at, a1, a2], fun k a1 a2 => ?_⟩
    funext j; simp [mup_at, a1]
  refine w_aload hZ 0 1 rfl rfl rfl ?_
  refine w_iload hZ 1 2 rfl rfl rfl ?_
  refine w_puti hZ 2 3 rfl rfl rfl rfl rfl ?_
  refine w_aload hZ 3 4 rfl rfl rfl ?_
  refine w_aload hZ 4 5 rfl rfl rfl ?_
  refine w_getr hZ 5 6 rfl rfl rfl rfl rfl ?_
  refine w_iload hZ 6 7 rfl rfl rfl ?_
  refine k_X0_endOfWord hZ 7 8 rfl rfl (Nat.le_of_ble_eq_true rfl) ⟨hb, hi0, Int.le_of_lt hi1⟩ ?_
  show Z 8 _ [mi (we (M 1 5) (SX M) i), mr 10] _
  rw [hE]
  refine w_puti hZ 8 9 rfl rfl rfl rfl rfl ?_
  refine w_aload hZ 9 10 rfl rfl rfl ?_
  refine w_aload hZ 10 11 rfl rfl rfl ?_
  refine w_getiv hZ 11 12 rfl rfl rfl rfl rfl (v := e) rfl ?_
  refine w_aload hZ 12 13 rfl rfl rfl ?_
  refine w_getiv hZ 13 14 rfl rfl rfl rfl rfl (v := i) rfl ?_
  refine w_sub hZ 14 15 rfl rfl (by unfold InR; omega) ?_
  refine w_const hZ 15 16 rfl rfl  ?_
  refine w_clt hZ 16 17 rfl rfl (fun c16 => ?_) (fun c16 => ?_)
  · refine w_const hZ 19 20 rfl rfl  ?_
    refine w_putz hZ 20 21 rfl rfl rfl rfl rfl (by omega) ?_
    first
      | exact t21 _ (hW0.put 1) (Or.inl ⟨by simp [mup_at], by omega⟩)
      | exact t21 _ (hW0.put 0) (Or.inr ⟨by simp [mup_at], by omega⟩)
  · refine w_const hZ 17 18 rfl rfl  ?_
    refine w_goto hZ 18 20 rfl ?_
    refine w_putz hZ 20 21 rfl rfl rfl rfl rfl (by omega) ?_
    first
      | exact t21 _ (hW0.put 1) (Or.inl ⟨by simp [mup_at], by omega⟩)
      | exact t21 _ (hW0.put 0) (Or.inr ⟨by simp [mup_at], by omega⟩)
set_option maxRecDepth 100000 in
set_option maxHeartbeats 4000000 in
theorem ao_X5_enterWord : AllOk yX5_enterWord.cls cX5_enterWord 4 3 62 none none pc_X5_enterWord 0 cd_X5_enterWord := ⟨s_aload_n (k := 0) (by decide +kernel) rfl rfl, ⟨s_iload_n (k := 1) (by decide +kernel) rfl rfl, ⟨s_puti (C := RX5) (T := TX5) (N := 12) (tyf := tyX5) rfl inT5 tyX5_ok nmX5 (by decide) rfl rfl tw_1_99 (by decide +kernel) rfl, ⟨s_aload_n (k := 0) (by decide +kernel) rfl rfl, ⟨s_aload_n (k := 0) (by decide +kernel) rfl rfl, ⟨s_get (C := RX5) (T := TX5) (N := 12) rfl inT5 (by decide) tw_1_95 (by decide +kernel) rfl, ⟨s_iload_n (k := 1) (by decide +kernel) rfl rfl, ⟨s_callV (C := RX0) (T := TX0) (N := 8) rfl ct_X0_endOfWord (by decide) (by decide) ⟨rfl, by decide +kernel, by decide +kernel, by decide +kernel⟩ tw_2_148 tw_2_149 tw_2_150 tw_1_2 tw_2_151 (by decide +kernel) rfl, ⟨s_puti (C := RX5) (T := TX5) (N := 12) (tyf := tyX5) rfl inT5 tyX5_ok nmX5 (by decide) rfl rfl tw_1_100 (by decide +kernel) rfl, ⟨s_aload_n (k := 0) (by decide +kernel) rfl rfl, ⟨s_aload_n (k := 0) (by decide +kernel) rfl rfl, ⟨s_get (C := RX5) (T := TX5) (N := 12) rfl inT5 (by decide) tw_1_100 (by decide +kernel) rfl, ⟨s_aload_n (k := 0) (by decide +kernel) rfl rfl, ⟨s_get (C := RX5) (T := TX5) (N := 12) rfl inT5 (by decide) tw_1_99 (by decide +kernel) rfl, ⟨s_sub (by decide +kernel) rfl, ⟨s_iconst (by decide +kernel) rfl ⟨by decide, by decide⟩, ⟨s_clt (off := (7)) (by decide +kernel) rfl rfl, ⟨s_iconst (by decide +kernel) rfl ⟨by decide, by decide⟩, ⟨s_goto (off := (4)) (by decide +kernel) rfl, ⟨s_iconst (by decide +kernel) rfl ⟨by decide, by decide⟩, ⟨s_putz (C := RX5) (T := TX5) (N := 12) (tyf := tyX5) rfl inT5 tyX5_ok nmX5 (by decide) rfl rfl tw_1_101 (by decide +kernel) rfl, ⟨s_aload_n (k := 0) (by decide +kernel) rfl rfl, ⟨s_get (C := RX5) (T := TX5) (N := 12) rfl inT5 (by decide) tw_1_99 (by decide +kernel) rfl, ⟨s_istore_n (k := 2) (by decide +kernel) rfl rfl, ⟨s_iload_n (k := 2) (by decide +kernel) rfl rfl, ⟨s_aload_n (k := 0) (by decide +kernel) rfl rfl, ⟨s_get (C := RX5) (T := TX5) (N := 12) rfl inT5 (by decide) tw_1_100 (by decide +kernel) rfl, ⟨s_cge (off := (28)) (by decide +kernel) rfl rfl, ⟨s_aload_n (k := 0) (by decide +kernel) rfl rfl, ⟨s_get (C := RX5) (T := TX5) (N := 12) rfl inT5 (by decide) tw_1_95 (by decide +kernel) rfl, ⟨s_iload_n (k := 2) (by decide +kernel) rfl rfl, ⟨s_callV (C := RX0) (T := TX0) (N := 8) rfl ct_X0_signAt (by decide) (by decide) ⟨rfl, by decide +kernel, by decide +kernel, by decide +kernel⟩ tw_2_142 tw_2_130 tw_2_131 tw_1_2 tw_2_132 (by decide +kernel) rfl, ⟨s_callN ct_X6_isCapital (by decide) (by decide) ⟨by decide +kernel, by decide +kernel, by decide +kernel⟩ ni_5 tw_2_93 tw_1_1 tw_2_94 (by decide +kernel) rfl, ⟨s_ifne (off := (8)) (by decide +kernel) rfl rfl, ⟨s_aload_n (k := 0) (by decide +kernel) rfl rfl, ⟨s_iconst (by decide +kernel) rfl ⟨by decide, by decide⟩, ⟨s_putz (C := RX5) (T := TX5) (N := 12) (tyf := tyX5) rfl inT5 tyX5_ok nmX5 (by decide) rfl rfl tw_1_101 (by decide +kernel) rfl, ⟨s_iinc (by decide +kernel) rfl, ⟨s_goto (off := (-30)) (by decide +kernel) rfl, ⟨s_aload_n (k := 0) (by decide +kernel) rfl rfl, ⟨s_get (C := RX5) (T := TX5) (N := 12) rfl inT5 (by decide) tw_1_99 (by decide +kernel) rfl, ⟨s_istore_n (k := 2) (by decide +kernel) rfl rfl, ⟨s_iload_n (k := 2) (by decide +kernel) rfl rfl, ⟨s_aload_n (k := 0) (by decide +kernel) rfl rfl, ⟨s_get (C := RX5) (T := TX5) (N := 12) rfl inT5 (by decide) tw_1_100 (by decide +kernel) rfl, ⟨s_cge (off := (46)) (by decide +kernel) rfl rfl, ⟨s_aload_n (k := 0) (by decide +kernel) rfl rfl, ⟨s_get (C := RX5) (T := TX5) (N := 12) rfl inT5 (by decide) tw_1_95 (by decide +kernel) rfl, ⟨s_iload_n (k := 2) (by decide +kernel) rfl rfl, ⟨s_callV (C := RX0) (T := TX0) (N := 8) rfl ct_X0_signAt (by decide) (by decide) ⟨rfl, by decide +kernel, by decide +kernel, by decide +kernel⟩ tw_2_142 tw_2_130 tw_2_131 tw_1_2 tw_2_132 (by decide +kernel) rfl, ⟨s_istore_n (k := 3) (by decide +kernel) rfl rfl, ⟨s_aload_n (k := 0) (by decide +kernel) rfl rfl, ⟨s_get (C := RX5) (T := TX5) (N := 12) rfl inT5 (by decide) tw_1_102 (by decide +kernel) rfl, ⟨s_iload_n (k := 2) (by decide +kernel) rfl rfl, ⟨s_aload_n (k := 0) (by decide +kernel) rfl rfl, ⟨s_get (C := RX5) (T := TX5) (N := 12) rfl inT5 (by decide) tw_1_101 (by decide +kernel) rfl, ⟨s_ifne (off := (10)) (by decide +kernel) rfl rfl, ⟨s_iload_n (k := 3) (by decide +kernel) rfl rfl, ⟨s_callN ct_X6_isSmall (by decide) (by decide) ⟨by decide +kernel, by decide +kernel, by decide +kernel⟩ ni_6 tw_2_90 tw_1_1 tw_2_91 (by decide +kernel) rfl, ⟨s_ifeq (off := (10)) (by decide +kernel) rfl rfl, ⟨s_iload_n (k := 3) (by decide +kernel) rfl rfl, ⟨s_callN ct_X6_letterOf (by decide) (by decide) ⟨by decide +kernel, by decide +kernel, by decide +kernel⟩ ni_7 tw_2_155 tw_1_1 tw_2_156 (by decide +kernel) rfl, ⟨s_goto (off := (4)) (by decide +kernel) rfl, ⟨s_iconst (by decide +kernel) rfl ⟨by decide, by decide⟩, ⟨s_iast (by decide +kernel) rfl, ⟨s_iinc (by decide +kernel) rfl, ⟨s_goto (off := (-48)) (by decide +kernel) rfl, ⟨s_vret rfl (by decide +kernel), trivial⟩⟩⟩⟩⟩⟩⟩⟩⟩⟩⟩⟩⟩⟩⟩⟩⟩⟩⟩⟩⟩⟩⟩⟩⟩⟩⟩⟩⟩⟩⟩⟩⟩⟩⟩⟩⟩⟩⟩⟩⟩⟩⟩⟩⟩⟩⟩⟩⟩⟩⟩⟩⟩⟩⟩⟩⟩⟩⟩⟩⟩⟩⟩⟩⟩⟩⟩⟩
theorem ct_X5_enterWord : Ctr yX5_enterWord cX5_enterWord 4 none 3 62 sp_X5_enterWord := by
  refine ctr_of (by decide +kernel) ao_X5_enterWord rfl ?_
  rintro av M Ret ⟨i, rfl, hp, hR⟩ hok hM
  exact ⟨Nat.le_of_ble_eq_true rfl, fun Z hZ => b_X5_enterWord  i (hok _ (List.mem_of_getElem? (i := 1) rfl)) M Ret hp hR hM Z hZ⟩
end
section
/-! Writer: a whole word, the whole text -/
theorem leE_wc (V : BV) (g : Bool) (i : Int) : wcE (leE V g i) = (leE V g i).length := by
  unfold leE wcE; split <;> rfl
theorem wcE_cons (e : Ev) (D : List Ev) (h : e.2.2.2 = 1) : wcE (e :: D) = 1 + wcE D := by
  unfold wcE; rw [List.filter_cons]; simp [h]; omega
theorem wEv_wc {V : BV} (h : vOk V) (w a b : Int) (g : Bool) : ∀ (d : Nat) (i : Int), d = (b - i).toNat → wcE (wEv V w a b g i) = (wEv V w a b g i).length := by
  intro d
  induction d using Nat.strongRecOn with
  | ind d ih =>
    intro i hd
    by_cases hb : b ≤ i
    · rw [wEv_end hb]; rfl
    · by_cases hs : sv V w a b g i = -1
      · rw [wEv_let h (by omega) hs, wcE_app, leE_wc, ih (b - (i + 1)).toNat (by omega) (i + 1) rfl, List.length_append]; omega
      · obtain ⟨q1, q2, q3, q4⟩ := h.sv_ln hs
        rw [wEv_rule h (by omega) hs, wcE_cons _ _ rfl, ih (b - (i + lnC (vC' V (sv V w a b g i).toNat))).toNat (by omega) _ rfl, List.length_cons]; omega
theorem hdE_wc (V : BV) (a b : Int) : wcE (hdE V a b) = 0 := by
  unfold hdE wcE
  split <;> split <;> rfl
theorem wdE_wc {V : BV} (h : vOk V) (w a b : Int) : wcE (wdE V w a b) = (wEv V w a b (alC V a b) a).length := by
  unfold wdE
  rw [wcE_app, hdE_wc, wEv_wc h w a b _ (b - a).toNat a rfl]; omega
def sp_X5_writeWord : SP := fun av M Ret => av = [mr 10] ∧ (vOk (bX M 1) ∧ En M ∧ gM M = alC (bX M 1) (M 10 7) (M 10 8) ∧ M 10 9 = b2i (gM M = true) ∧ 0 ≤ M 10 4 ∧ M 10 4 + (wdE (bX M 1) (M 10 5) (M 10 7) (M 10 8)).length ≤ 240 ∧ Sn M ∧ 0 ≤ M 10 6 ∧ M 10 6 ≤ M 10 4) ∧ (∀ M2 : Mem, (∃ N, ApE (wdE (bX M 1) (M 10 5) (M 10 7) (M 10 8)) M N ∧ M2 = mup N 10 6 (M 10 6 + wcE (wdE (bX M 1) (M 10 5) (M 10 7) (M 10 8)))) → Ret none M2)
theorem k_X5_writeWord {code : List Sem} {Z : KZ} {Ret : KR} {ls : List (Option MV)} {M : Mem} {r : List MV} (hZ : Sim code Z Ret) (ip np : Nat)  (hc : code[ip]? = some (I_callV 5 0 sp_X5_writeWord)) (hn : ip + 1 = np) (h3 : catS r ≤ 8)  (hp : vOk (bX M 1) ∧ En M ∧ gM M = alC (bX M 1) (M 10 7) (M 10 8) ∧ M 10 9 = b2i (gM M = true) ∧ 0 ≤ M 10 4 ∧ M 10 4 + (wdE (bX M 1) (M 10 5) (M 10 7) (M 10 8)).length ≤ 240 ∧ Sn M ∧ 0 ≤ M 10 6 ∧ M 10 6 ≤ M 10 4) (kz : ∀ M2 : Mem, (∃ N, ApE (wdE (bX M 1) (M 10 5) (M 10 7) (M 10 8)) M N ∧ M2 = mup N 10 6 (M 10 6 + wcE (wdE (bX M 1) (M 10 5) (M 10 7) (M 10 8)))) → Z np ls r M2) : Z ip ls (mr 10 :: r) M := w_callV0 hZ ip np hc hn rfl rfl h3 ⟨rfl, hp, fun M2 h => kz M2 h⟩
def cd_X5_writeWord : List Sem := [I_aload 0, I_callV 5 0 sp_X5_needsLetters, I_ifeq 6, I_aload 0, I_const (62), I_callV 5 1 sp_X5_addCell, I_aload 0, I_get 5 9, I_ifeq 15, I_aload 0, I_const (60), I_callV 5 1 sp_X5_addCell, I_aload 0, I_const (60), I_callV 5 1 sp_X5_addCell, I_aload 0, I_get 5 4, I_istore 1, I_aload 0, I_get 5 7, I_istore 2, I_aload 0, I_get 5 7, I_istore 3, I_iload 3, I_aload 0, I_get 5 8, I_cge 51, I_iload 3, I_iload 2, I_cne 49, I_aload 0, I_iload 3, I_callV 5 1 sp_X5_servingRule, I_istore 4, I_iload 3, I_iload 4, I_const (-1), I_cne 43, I_aload 0, I_iload 3, I_callV 5 1 sp_X5_writeLetter, I_goto 47, I_aload 0, I_iload 4, I_iload 3, I_callV 5 2 sp_X5_writeRule, I_add, I_istore 2, I_iinc 3 (1), I_goto 24, I_aload 0, I_dup, I_get 5 6, I_aload 0, I_get 5 4, I_iload 1, I_sub, I_add, I_puti 5 6, I_vret]
def pc_X5_writeWord : List Nat := [0, 1, 4, 7, 8, 10, 13, 14, 17, 20, 21, 23, 26, 27, 29, 32, 33, 36, 37, 38, 41, 42, 43, 46, 47, 48, 49, 52, 55, 56, 57, 60, 61, 62, 65, 67, 68, 70, 71, 74, 75, 76, 79, 82, 83, 85, 86, 89, 90, 91, 94, 97, 98, 99, 102, 103, 106, 107, 108, 109, 112]
set_option maxRecDepth 100000 in
set_option maxHeartbeats 4000000 in
theorem b_X5_writeWord  (M : Mem) (Ret : KR) (hp : vOk (bX M 1) ∧ En M ∧ gM M = alC (bX M 1) (M 10 7) (M 10 8) ∧ M 10 9 = b2i (gM M = true) ∧ 0 ≤ M 10 4 ∧ M 10 4 + (wdE (bX M 1) (M 10 5) (M 10 7) (M 10 8)).length ≤ 240 ∧ Sn M ∧ 0 ≤ M 10 6 ∧ M 10 6 ≤ M 10 4) (hR : ∀ M2 : Mem, (∃ N, ApE (wdE (bX M 1) (M 10 5) (M 10 7) (M 10 8)) M N ∧ M2 = mup N 10 6 (M 10 6 + wcE (wdE (bX M 1) (M 10 5) (M 10 7) (M 10 8)))) → Ret none M2) (hM : MOk M) (Z : KZ) (hZ : Sim cd_X5_writeWord Z Ret) : Z 0 [some (mr 10), none, none, none, none] [] M := by
  obtain ⟨hv, he, hg, hg9, hc0, hc1, hsn, hw0, hw1⟩ := hp
  have hb := hv.bx
  have hbb := hb
  obtain ⟨b1, b2, b3, b4⟩ := hbb
  have hee := he
  obtain ⟨e1, e2, e3, e4⟩ := hee
  have hsn0 : ∀ k : Nat, k < 12 → 0 ≤ M 12 k := fun k hk => (hsn k hk).1
  have hwc := wdE_wc hv (M 10 5) (M 10 7) (M 10 8)
  generalize hV : bX M 1 = V at *
  generalize hw : M 10 5 = w at *
  generalize ha : M 10 7 = a at *
  generalize hbe : M 10 8 = b at *
  rw [← hg] at hwc
  have hD : wdE V w a b = hdE V a b ++ wEv V w a b (gM M) a := by unfold wdE; rw [hg]
  generalize hG : gM M = g at *
  have hlen : (wdE V w a b).length = (hdE V a b).length + (wEv V w a b g a).length := by rw [hD, List.length_append]
  -- what stays the same behind any writing
  have same : ∀ (A : List Ev) (N : Mem), ApE A M N → bX N 1 = V ∧ N 10 5 = w ∧ N 10 7 = a ∧ N 10 8 = b ∧ gM N = g ∧ En N ∧ Sn N ∧ N 10 4 = M 10 4 + A.length ∧ N 10 9 = b2i (g = true) ∧ N 10 6 = M 10 6 := by
    intro A N hA
    have h5 := hA.2.2.2.2.1
    refine ⟨hA.bx.trans hV, (h5 5 (by omega)).trans hw, (h5 7 (by omega)).trans ha, (h5 8 (by omega)).trans hbe, ?_, hA.en he, hA.sn hsn, hA.1, (h5 9 (by omega)).trans hg9, h5 6 (by omega)⟩
    unfold gM; rw [h5 9 (by omega)]; exact hG
  have loop : ∀ (d : Nat) (j bh : Int) (D : List Ev) (N : Mem), d = (b - j).toNat → a ≤ j → j ≤ bh → bh ≤ b → ApE (hdE V a b ++ D) M N → wEv V w a b g a = D ++ wEv V w a b g bh → Z 24 [some (mr 10), some (mi (M 10 4 + (hdE V a b).length)), some (mi bh), some (mi j), none] [] N := by
    intro d
    induction d using Nat.strongRecOn with
    | ind d ih =>
      intro j bh D N hd h0 h1 h2 hA hev
      obtain ⟨n1, n2, n3, n4, n5, n6, n7, n8, n9, n10⟩ := same _ N hA
      rw [List.length_append] at n8
      have hsvN : sv (bX N 1) (N 10 5) (N 10 7) (N 10 8) (gM N) j = sv V w a b g j := by rw [n1, n2, n3, n4, n5]
      have hlev := congrArg List.length hev
      rw [List.length_append] at hlev
      have hlw : ∀ x, j ≤ x → x < b → isLt (vS V x) := fun x x0 x1 => (e4 x (by omega) x1).1
      refine w_iload hZ 24 25 rfl rfl rfl ?_
      refine w_aload hZ 25 26 rfl rfl rfl ?_
      refine w_getiv hZ 26 27 rfl rfl rfl rfl rfl (v := b) n4 ?_
      refine w_cge hZ 27 28 rfl rfl (fun c27 => ?_) (fun c27 => ?_)
      · refine w_aload hZ 51 52 rfl rfl rfl ?_
        refine w_dup hZ 52 53 rfl rfl rfl ?_
        refine w_getiv hZ 53 54 rfl rfl rfl rfl rfl (v := M 10 6) n10 ?_
        refine w_aload hZ 54 55 rfl rfl rfl ?_
        refine w_getiv hZ 55 56 rfl rfl rfl rfl rfl (v := M 10 4 + ((hdE V a b).length + D.length : Nat)) n8 ?_
        refine w_iload hZ 56 57 rfl rfl rfl ?_
        refine w_sub hZ 57 58 rfl rfl (by unfold InR; omega) ?_
        refine w_add hZ 58 59 rfl rfl (by unfold InR; omega) ?_
        refine w_puti hZ 59 60 rfl rfl rfl rfl rfl ?_
        refine w_vret hZ 60 rfl ?_
        have hj : bh = b := by omega
        have hz : (wEv V w a b g bh).length = 0 := by rw [wEv_end (by omega)]; rfl
        rw [hj, wEv_end (Int.le_refl _), List.append_nil] at hev
        refine hR _ ⟨N, ?_, ?_⟩
        · rw [hD, hev]; exact hA
        · congr 1; rw [hwc]; omega
      · refine w_iload hZ 28 29 rfl rfl rfl ?_
        refine w_iload hZ 29 30 rfl rfl rfl ?_
        refine w_cne hZ 30 31 rfl rfl (fun c30 => ?_) (fun c30 => ?_)
        · refine w_in5_3 hZ 49 50 rfl rfl rfl (by unfold InR; omega) ?_
          refine w_goto hZ 50 24 rfl ?_
          exact ih ((b - (j + 1)).toNat) (by omega) (j + 1) bh D N rfl (by omega) (by omega) h2 hA hev
        · refine w_aload hZ 31 32 rfl rfl rfl ?_
          refine w_iload hZ 32 33 rfl rfl rfl ?_
          refine k_X5_servingRule hZ 33 34 rfl rfl (Nat.le_of_ble_eq_true rfl) ⟨by rw [n1]; exact hv, n6, by omega, by omega⟩ ?_
          rw [hsvN]
          refine w_st5_4 hZ 34 35 rfl rfl rfl ?_
          refine w_iload hZ 35 36 rfl rfl rfl ?_
          refine w_iload hZ 36 37 rfl rfl rfl ?_
          refine w_const hZ 37 38 rfl rfl  ?_
          refine w_cne hZ 38 39 rfl rfl (fun c38 => ?_) (fun c38 => ?_)
          · refine w_aload hZ 43 44 rfl rfl rfl ?_
            refine w_iload hZ 44 45 rfl rfl rfl ?_
            refine w_iload hZ 45 46 rfl rfl rfl ?_
            refine k_X5_writeRule hZ 46 47 rfl rfl (Nat.le_of_ble_eq_true rfl) ⟨by rw [n1]; exact hv, (hv.sv_ln c38).1, by have q := (hv.sv_ln c38).2.1; rw [← hV] at q; rw [← hV]; have e1N : N 1 = M 1 := hA.2.2.2.2.2 1 (by omega); rw [e1N]; exact q, by omega, by have q := congrArg List.length (wEv_rule hv (show j < b by omega) c38); rw [List.length_cons] at q; rw [← c30] at hlev; omega, n7⟩ (fun M46 p46 => ?_)
            first
              | (rw [n1, n5] at p41; refine w_add hZ 47 48 rfl rfl (by unfold InR; omega) ?_; refine w_st5_2 hZ 48 49 rfl rfl rfl ?_; refine w_in5_3 hZ 49 50 rfl rfl rfl (by unfold InR; omega) ?_; refine w_goto hZ 50 24 rfl ?_; refine w_fg5_4 hZ ?_; refine ih ((b - (j + 1)).toNat) (by omega) (j + 1) (j + 1) (D ++ leE V g j) M41 rfl (by omega) (by omega) (by omega) ?_ ?_; (rw [← List.append_assoc]; exact hA.trans p41 hc0 hsn0); (rw [hev, ← c30, wEv_let hv (show j < b by omega) c38, List.append_assoc]))
              | (rw [n1] at p46 ⊢; have hq := hv.sv_ln c38; have hin := sv_in hv hlw c38; refine w_add hZ 47 48 rfl rfl (by unfold InR; omega) ?_; refine w_st5_2 hZ 48 49 rfl rfl rfl ?_; refine w_in5_3 hZ 49 50 rfl rfl rfl (by unfold InR; omega) ?_; refine w_goto hZ 50 24 rfl ?_; refine w_fg5_4 hZ ?_; refine ih ((b - (j + 1)).toNat) (by omega) (j + 1) (j + lnC (vC' V (sv V w a b g j).toNat)) (D ++ [(vE V (sv V w a b g j).toNat, sv V w a b g j, j, 1)]) M46 rfl (by omega) (by omega) (by omega) ?_ ?_; (rw [← List.append_assoc]; exact hA.trans p46 hc0 hsn0); (rw [hev, ← c30, wEv_rule hv (show j < b by omega) c38, List.append_assoc]; rfl))
          · refine w_aload hZ 39 40 rfl rfl rfl ?_
            refine w_iload hZ 40 41 rfl rfl rfl ?_
            refine k_X5_writeLetter hZ 41 42 rfl rfl (Nat.le_of_ble_eq_true rfl) ⟨by rw [n1]; exact hv, n6, by omega, by omega, by omega, by rw [n1, n5]; have q := congrArg List.length (wEv_let hv (show j < b by omega) c38); rw [List.length_append] at q; rw [← c30] at hlev; omega, n7⟩ (fun M41 p41 => ?_)
            refine w_goto hZ 42 47 rfl ?_
            first
              | (rw [n1, n5] at p41; refine w_add hZ 47 48 rfl rfl (by unfold InR; omega) ?_; refine w_st5_2 hZ 48 49 rfl rfl rfl ?_; refine w_in5_3 hZ 49 50 rfl rfl rfl (by unfold InR; omega) ?_; refine w_goto hZ 50 24 rfl ?_; refine w_fg5_4 hZ ?_; refine ih ((b - (j + 1)).toNat) (by omega) (j + 1) (j + 1) (D ++ leE V g j) M41 rfl (by omega) (by omega) (by omega) ?_ ?_; (rw [← List.append_assoc]; exact hA.trans p41 hc0 hsn0); (rw [hev, ← c30, wEv_let hv (show j < b by omega) c38, List.append_assoc]))
              | (rw [n1] at p46 ⊢; have hq := hv.sv_ln c38; have hin := sv_in hv hlw c38; refine w_add hZ 47 48 rfl rfl (by unfold InR; omega) ?_; refine w_st5_2 hZ 48 49 rfl rfl rfl ?_; refine w_in5_3 hZ 49 50 rfl rfl rfl (by unfold InR; omega) ?_; refine w_goto hZ 50 24 rfl ?_; refine w_fg5_4 hZ ?_; refine ih ((b - (j + 1)).toNat) (by omega) (j + 1) (j + lnC (vC' V (sv V w a b g j).toNat)) (D ++ [(vE V (sv V w a b g j).toNat, sv V w a b g j, j, 1)]) M46 rfl (by omega) (by omega) (by omega) ?_ ?_; (rw [← List.append_assoc]; exact hA.trans p46 hc0 hsn0); (rw [hev, ← c30, wEv_rule hv (show j < b by omega) c38, List.append_assoc]; rfl))
  have t15 : ∀ N : Mem, ApE (hdE V a b) M N → Z 15 [some (mr 10), none, none, none, none] [] N := by
    intro N hA
    obtain ⟨n1, n2, n3, n4, n5, n6, n7, n8, n9, n10⟩ := same _ N hA
    refine w_aload hZ 15 16 rfl rfl rfl ?_
    refine w_getiv hZ 16 17 rfl rfl rfl rfl rfl (v := M 10 4 + (hdE V a b).length) n8 ?_
    refine w_st5_1 hZ 17 18 rfl rfl rfl ?_
    refine w_aload hZ 18 19 rfl rfl rfl ?_
    refine w_getiv hZ 19 20 rfl rfl rfl rfl rfl (v := a) n3 ?_
    refine w_st5_2 hZ 20 21 rfl rfl rfl ?_
    refine w_aload hZ 21 22 rfl rfl rfl ?_
    refine w_getiv hZ 22 23 rfl rfl rfl rfl rfl (v := a) n3 ?_
    refine w_st5_3 hZ 23 24 rfl rfl rfl ?_
    exact loop _ a a [] N rfl (Int.le_refl _) (Int.le_refl _) (Int.le_of_lt e2) (by rw [List.append_nil]; exact hA) rfl
  have t6 : ∀ (A : List Ev) (N : Mem), ApE A M N → A = (if wnt V a then [(62, -1, a, 0)] else []) → Z 6 [some (mr 10), none, none, none, none] [] N := by
    intro A N hA hAe
    obtain ⟨n1, n2, n3, n4, n5, n6, n7, n8, n9, n10⟩ := same _ N hA
    have hh : hdE V a b = A ++ (if g = true then [(60, -1, a, 0), (60, -1, a, 0)] else []) := by unfold hdE; rw [hAe, hg]
    refine w_aload hZ 6 7 rfl rfl rfl ?_
    refine w_getzv hZ 7 8 rfl rfl rfl rfl rfl (v := b2i (g = true)) n9 ?_
    refine w_ifeq hZ 8 9 rfl rfl (fun c8 => ?_) (fun c8 => ?_)
    · first
        | (subst p14; refine t15 _ ?_; rw [hh2]; exact hA.trans (hA1.trans (ApE_cell (by rw [hA1l]; simp; omega) (60, -1, a, 0) rfl) (by omega) (fun k hk => (n7 k hk).1)) hc0 hsn0)
        | (refine t15 N ?_; rw [hh, if_neg (b2i_z.mp c8), List.append_nil]; exact hA)
    · have hh2 : hdE V a b = A ++ ([(60, -1, a, 0)] ++ [(60, -1, a, 0)]) := by rw [hh, if_pos (b2i_e.mp c8)]; rfl
      have hl2 : (hdE V a b).length = A.length + 2 := by rw [hh2]; simp
      refine w_aload hZ 9 10 rfl rfl rfl ?_
      refine w_const hZ 10 11 rfl rfl  ?_
      refine k_X5_addCell hZ 11 12 rfl rfl (Nat.le_of_ble_eq_true rfl) (by omega) (fun M11 p11 => ?_)
      subst p11
      have hA1 := ApE_cell (M := N) (by omega) (60, -1, a, 0) rfl
      have hA1l := hA1.1
      refine w_aload hZ 12 13 rfl rfl rfl ?_
      refine w_const hZ 13 14 rfl rfl  ?_
      refine k_X5_addCell hZ 14 15 rfl rfl (Nat.le_of_ble_eq_true rfl) ⟨by rw [hA1l]; simp; omega, by rw [hA1l]; simp; omega⟩ (fun M14 p14 => ?_)
      first
        | (subst p14; refine t15 _ ?_; rw [hh2]; exact hA.trans (hA1.trans (ApE_cell (by rw [hA1l]; simp; omega) (60, -1, a, 0) rfl) (by omega) (fun k hk => (n7 k hk).1)) hc0 hsn0)
        | (refine t15 N ?_; rw [hh, if_neg (b2i_z.mp c8), List.append_nil]; exact hA)
  refine w_aload hZ 0 1 rfl rfl rfl ?_
  refine k_X5_needsLetters hZ 1 2 rfl rfl (Nat.le_of_ble_eq_true rfl) ⟨hb, by omega, by omega⟩ ?_
  rw [hV, ha]
  refine w_ifeq hZ 2 3 rfl rfl (fun c2 => ?_) (fun c2 => ?_)
  · first
      | (subst p5; exact t6 _ _ (ApE_cell hc0 (62, -1, a, 0) rfl) (by rw [if_pos (b2i_e.mp c2)]))
      | exact t6 [] M (ApE_nil M) (by rw [if_neg (b2i_z.mp c2)])
  · have hl62 : (hdE V a b).length ≥ 1 := by unfold hdE; rw [if_pos (b2i_e.mp c2)]; simp
    refine w_aload hZ 3 4 rfl rfl rfl ?_
    refine w_const hZ 4 5 rfl rfl  ?_
    refine k_X5_addCell hZ 5 6 rfl rfl (Nat.le_of_ble_eq_true rfl) (by omega) (fun M5 p5 => ?_)
    first
      | (subst p5; exact t6 _ _ (ApE_cell hc0 (62, -1, a, 0) rfl) (by rw [if_pos (b2i_e.mp c2)]))
      | exact t6 [] M (ApE_nil M) (by rw [if_neg (b2i_z.mp c2)])
set_option maxRecDepth 100000 in
set_option maxHeartbeats 4000000 in
theorem ao_X5_writeWord : AllOk yX5_writeWord.cls cX5_writeWord 5 3 73 none none pc_X5_writeWord 0 cd_X5_writeWord := ⟨s_aload_n (k := 0) (by decide +kernel) rfl rfl, ⟨s_callV (C := RX5) (T := TX5) (N := 12) rfl ct_X5_needsLetters (by decide) (by decide) ⟨rfl, by decide +kernel, by decide +kernel, by decide +kernel⟩ tw_2_161 tw_2_163 ts_1_6 tw_1_4 tw_2_164 (by decide +kernel) rfl, ⟨s_ifeq (off := (9)) (by decide +kernel) rfl rfl, ⟨s_aload_n (k := 0) (by decide +kernel) rfl rfl, ⟨s_bipush (by decide +kernel) rfl ⟨by decide, by decide⟩ (by decide +kernel), ⟨s_callV (C := RX5) (T := TX5) (N := 12) rfl ct_X5_addCell (by decide) (by decide) ⟨rfl, by decide +kernel, by decide +kernel, by decide +kernel⟩ tw_2_171 tw_2_173 ts_1_7 tw_1_4 tw_2_174 (by decide +kernel) rfl, ⟨s_aload_n (k := 0) (by decide +kernel) rfl rfl, ⟨s_get (C := RX5) (T := TX5) (N := 12) rfl inT5 (by decide) tw_1_101 (by decide +kernel) rfl, ⟨s_ifeq (off := (15)) (by decide +kernel) rfl rfl, ⟨s_aload_n (k := 0) (by decide +kernel) rfl rfl, ⟨s_bipush (by decide +kernel) rfl ⟨by decide, by decide⟩ (by decide +kernel), ⟨s_callV (C := RX5) (T := TX5) (N := 12) rfl ct_X5_addCell (by decide) (by decide) ⟨rfl, by decide +kernel, by decide +kernel, by decide +kernel⟩ tw_2_171 tw_2_173 ts_1_7 tw_1_4 tw_2_174 (by decide +kernel) rfl, ⟨s_aload_n (k := 0) (by decide +kernel) rfl rfl, ⟨s_bipush (by decide +kernel) rfl ⟨by decide, by decide⟩ (by decide +kernel), ⟨s_callV (C := RX5) (T := TX5) (N := 12) rfl ct_X5_addCell (by decide) (by decide) ⟨rfl, by decide +kernel, by decide +kernel, by decide +kernel⟩ tw_2_171 tw_2_173 ts_1_7 tw_1_4 tw_2_174 (by decide +kernel) rfl, ⟨s_aload_n (k := 0) (by decide +kernel) rfl rfl, ⟨s_get (C := RX5) (T := TX5) (N := 12) rfl inT5 (by decide) tw_1_96 (by decide +kernel) rfl, ⟨s_istore_n (k := 1) (by decide +kernel) rfl rfl, ⟨s_aload_n (k := 0) (by decide +kernel) rfl rfl, ⟨s_get (C := RX5) (T := TX5) (N := 12) rfl inT5 (by decide) tw_1_99 (by decide +kernel) rfl, ⟨s_istore_n (k := 2) (by decide +kernel) rfl rfl, ⟨s_aload_n (k := 0) (by decide +kernel) rfl rfl, ⟨s_get (C := RX5) (T := TX5) (N := 12) rfl inT5 (by decide) tw_1_99 (by decide +kernel) rfl, ⟨s_istore_n (k := 3) (by decide +kernel) rfl rfl, ⟨s_iload_n (k := 3) (by decide +kernel) rfl rfl, ⟨s_aload_n (k := 0) (by decide +kernel) rfl rfl, ⟨s_get (C := RX5) (T := TX5) (N := 12) rfl inT5 (by decide) tw_1_100 (by decide +kernel) rfl, ⟨s_cge (off := (45)) (by decide +kernel) rfl rfl, ⟨s_iload_n (k := 3) (by decide +kernel) rfl rfl, ⟨s_iload_n (k := 2) (by decide +kernel) rfl rfl, ⟨s_cne (off := (34)) (by decide +kernel) rfl rfl, ⟨s_aload_n (k := 0) (by decide +kernel) rfl rfl, ⟨s_iload_n (k := 3) (by decide +kernel) rfl rfl, ⟨s_callV (C := RX5) (T := TX5) (N := 12) rfl ct_X5_servingRule (by decide) (by decide) ⟨rfl, by decide +kernel, by decide +kernel, by decide +kernel⟩ tw_2_175 tw_2_177 ts_1_8 tw_1_4 tw_2_178 (by decide +kernel) rfl, ⟨s_istore (by decide +kernel) rfl, ⟨s_iload_n (k := 3) (by decide +kernel) rfl rfl, ⟨s_iload (by decide +kernel) rfl, ⟨s_iconst (by decide +kernel) rfl ⟨by decide, by decide⟩, ⟨s_cne (off := (11)) (by decide +kernel) rfl rfl, ⟨s_aload_n (k := 0) (by decide +kernel) rfl rfl, ⟨s_iload_n (k := 3) (by decide +kernel) rfl rfl, ⟨s_callV (C := RX5) (T := TX5) (N := 12) rfl ct_X5_writeLetter (by decide) (by decide) ⟨rfl, by decide +kernel, by decide +kernel, by decide +kernel⟩ tw_2_188 tw_2_190 ts_1_11 tw_1_4 tw_2_191 (by decide +kernel) rfl, ⟨s_goto (off := (10)) (by decide +kernel) rfl, ⟨s_aload_n (k := 0) (by decide +kernel) rfl rfl, ⟨s_iload (by decide +kernel) rfl, ⟨s_iload_n (k := 3) (by decide +kernel) rfl rfl, ⟨s_callV (C := RX5) (T := TX5) (N := 12) rfl ct_X5_writeRule (by decide) (by decide) ⟨rfl, by decide +kernel, by decide +kernel, by decide +kernel⟩ tw_2_192 tw_2_194 ts_1_12 tw_1_4 tw_2_195 (by decide +kernel) rfl, ⟨s_add (by decide +kernel) rfl, ⟨s_istore_n (k := 2) (by decide +kernel) rfl rfl, ⟨s_iinc (by decide +kernel) rfl, ⟨s_goto (off := (-47)) (by decide +kernel) rfl, ⟨s_aload_n (k := 0) (by decide +kernel) rfl rfl, ⟨s_dup (by decide +kernel) rfl, ⟨s_get (C := RX5) (T := TX5) (N := 12) rfl inT5 (by decide) tw_1_98 (by decide +kernel) rfl, ⟨s_aload_n (k := 0) (by decide +kernel) rfl rfl, ⟨s_get (C := RX5) (T := TX5) (N := 12) rfl inT5 (by decide) tw_1_96 (by decide +kernel) rfl, ⟨s_iload_n (k := 1) (by decide +kernel) rfl rfl, ⟨s_sub (by decide +kernel) rfl, ⟨s_add (by decide +kernel) rfl, ⟨s_puti (C := RX5) (T := TX5) (N := 12) (tyf := tyX5) rfl inT5 tyX5_ok nmX5 (by decide) rfl rfl tw_1_98 (by decide +kernel) rfl, ⟨s_vret rfl (by decide +kernel), trivial⟩⟩⟩⟩⟩⟩⟩⟩⟩⟩⟩⟩⟩⟩⟩⟩⟩⟩⟩⟩⟩⟩⟩⟩⟩⟩⟩⟩⟩⟩⟩⟩⟩⟩⟩⟩⟩⟩⟩⟩⟩⟩⟩⟩⟩⟩⟩⟩⟩⟩⟩⟩⟩⟩⟩⟩⟩⟩⟩⟩⟩
theorem ct_X5_writeWord : Ctr yX5_writeWord cX5_writeWord 5 none 3 73 sp_X5_writeWord := by
  refine ctr_of (by decide +kernel) ao_X5_writeWord rfl ?_
  rintro av M Ret ⟨rfl, hp, hR⟩ hok hM
  exact ⟨Nat.le_of_ble_eq_true rfl, fun Z hZ => b_X5_writeWord   M Ret hp hR hM Z hZ⟩
end
section
/-! Writer.write -/
/-- what the Writer's rows say when D is written -/
def WSt (D : List Ev) (N : Mem) : Prop := N 10 4 = D.length ∧ (∀ j : Nat, j < D.length → N 11 j = (D.map fun e => e.1).getD j 0) ∧ ∀ k : Nat, k < 12 → N 12 k = cntE D k ∧ N 13 k = fstE D k
theorem WSt.app {D E : List Ev} {M N : Mem} (h : WSt D M) (h2 : ApE E M N) : WSt (D ++ E) N := by
  obtain ⟨a1, a2, a3⟩ := h
  obtain ⟨b1, b2, b3, b4, b5, b6⟩ := h2
  refine ⟨by rw [b1, a1, List.length_append]; omega, fun j hj => ?_, fun k hk => ⟨?_, ?_⟩⟩
  · rw [List.map_append]
    rw [List.length_append] at hj
    by_cases q : j < D.length
    · rw [b2 _ (by omega), a2 j q, List.getD_eq_getElem?_getD, List.getD_eq_getElem?_getD, List.getElem?_append_left (by simpa using q)]
    · have e : j = (M 10 4).toNat + (j - D.length) := by omega
      rw [e, b3 _ (by omega), List.getD_eq_getElem?_getD, List.getD_eq_getElem?_getD, List.getElem?_append_right (by simp; omega)]
      congr 2
      simp; omega
  · rw [(b4 k hk).1, (a3 k hk).1, cntE_app]
  · rw [(b4 k hk).2, (a3 k hk).1, (a3 k hk).2, fstE_app]
    by_cases q : cntE D k = 0
    · rw [if_pos q]
      by_cases q2 : cntE E k = 0
      · rw [if_neg (fun z => z.2 q2)]
        have n1 : ∀ e ∈ D, ¬ e.2.1 = (k : Int) := by
          intro e he hk2
          have : e ∈ D.filter (fun e => e.2.1 == (k : Int)) := List.mem_filter.mpr ⟨he, by simpa using hk2⟩
          have := List.length_pos_of_mem this
          unfold cntE at q; omega
        have n2 : ∀ e ∈ E, ¬ e.2.1 = (k : Int) := by
          intro e he hk2
          have : e ∈ E.filter (fun e => e.2.1 == (k : Int)) := List.mem_filter.mpr ⟨he, by simpa using hk2⟩
          have := List.length_pos_of_mem this
          unfold cntE at q2; omega
        rw [fstE_none n1, fstE_none n2]
      · rw [if_pos ⟨q, q2⟩]
    · rw [if_neg (fun z => q z.1), if_neg q]
theorem WSt.sn {D : List Ev} {N : Mem} (h : WSt D N) : Sn N := fun k hk => by
  have := cntE_nn D k
  have := cntE_le D k
  rw [(h.2.2 k hk).1, h.1]; omega
theorem WSt.same {D : List Ev} {M N : Mem} (h : WSt D M) (h1 : N 10 4 = M 10 4) (h2 : N 11 = M 11) (h3 : N 12 = M 12) (h4 : N 13 = M 13) : WSt D N := by
  unfold WSt; rw [h1, h2, h3, h4]; exact h
/-- what is still to be written at i: inside a word nothing of it -/
def rsE (V : BV) (w i : Int) : List Ev := if isLt (vS V (i - 1)) ∧ isLt (vS V i) then aEv V w (we (vN V) (vS V) i) else aEv V w i
theorem rsE_word {V : BV} (h : vOk V) (w : Int) {i : Int} (h0 : 0 ≤ i) (h1 : i < vN V) (hl : isLt (vS V i)) (hp : ¬ isLt (vS V (i - 1))) : rsE V w i = wdE V w i (we (vN V) (vS V) i) ++ rsE V w (i + 1) := by
  have hg := we_gt h h1 hl
  obtain ⟨w1, w2, w3, w4⟩ := we_spec (Int.le_of_lt h1) h.nl
  unfold rsE
  rw [if_neg (fun z => hp z.1), aEv_word h h1 hl, show i + 1 - 1 = i by omega]
  congr 1
  by_cases q : isLt (vS V (i + 1))
  · rw [if_pos ⟨hl, q⟩]
    have : we (vN V) (vS V) i = we (vN V) (vS V) (i + 1) := by
      refine (we_eq (by omega) w2 h.nl (fun j j0 j1 => w3 j (by omega) j1) w4).symm
    rw [this]
  · rw [if_neg (fun z => q z.2)]
    have : we (vN V) (vS V) i = i + 1 := by
      refine we_eq (by omega) (by omega) h.nl (fun j j0 j1 => ?_) q
      rw [show j = i by omega]; exact hl
    rw [this]
theorem rsE_in {V : BV} (h : vOk V) (w : Int) {i : Int} (h1 : i < vN V) (hl : isLt (vS V i)) (hp : isLt (vS V (i - 1))) : rsE V w i = rsE V w (i + 1) := by
  have hg := we_gt h h1 hl
  obtain ⟨w1, w2, w3, w4⟩ := we_spec (Int.le_of_lt h1) h.nl
  unfold rsE
  rw [if_pos ⟨hp, hl⟩, show i + 1 - 1 = i by omega]
  by_cases q : isLt (vS V (i + 1))
  · rw [if_pos ⟨hl, q⟩]
    have : we (vN V) (vS V) i = we (vN V) (vS V) (i + 1) := by
      refine (we_eq (by omega) w2 h.nl (fun j j0 j1 => w3 j (by omega) j1) w4).symm
    rw [this]
  · rw [if_neg (fun z => q z.2)]
    have : we (vN V) (vS V) i = i + 1 := by
      refine we_eq (by omega) (by omega) h.nl (fun j j0 j1 => ?_) q
      rw [show j = i by omega]; exact hl
    rw [this]
theorem rsE_sign {V : BV} (h : vOk V) (w : Int) {i : Int} (h1 : i < vN V) (hl : ¬ isLt (vS V i)) : rsE V w i = sgE V i ++ rsE V w (i + 1) := by
  unfold rsE
  rw [if_neg (fun z => hl z.2), if_neg (fun z => hl (by have := z.1; rwa [show i + 1 - 1 = i by omega] at this)), aEv_sign h h1 hl]
theorem sgE_wc (V : BV) (i : Int) : ∀ e ∈ sgE V i, ¬ e.2.2.2 = 1 := by
  unfold sgE
  split
  · split <;> simp
  · simp
theorem rsE_0 {V : BV} (h : vOk V) (w : Int) : rsE V w 0 = aEv V w 0 := by
  unfold rsE
  rw [if_neg]
  intro z
  have e : vS V (0 - 1) = -1 := h.2.2.2.2.2.1 _ (Or.inl (by omega))
  rw [e] at z
  exact isLt_m1 z.1
theorem rsE_n {V : BV} (h : vOk V) (w : Int) : rsE V w (vN V) = [] := by
  unfold rsE
  rw [if_neg (fun z => h.nl z.2), aEv_end (Int.le_refl _)]
def sp_X5_write : SP := fun av M Ret => ∃ w : Int, av = [mr 10, mi w] ∧ (vOk (bX M 1)) ∧ (∀ M2 : Mem, (WSt (aEv (bX M 1) w 0) M2 ∧ M2 10 5 = w ∧ M2 10 6 = wcE (aEv (bX M 1) w 0) ∧ ∀ k, k < 10 ∨ 14 < k → M2 k = M k) → Ret (some (mi ((aEv (bX M 1) w 0).length))) M2)
theorem k_X5_write {code : List Sem} {Z : KZ} {Ret : KR} {ls : List (Option MV)} {M : Mem} {r : List MV} (hZ : Sim code Z Ret) (ip np : Nat) {w : Int} (hc : code[ip]? = some (I_callV 5 1 sp_X5_write)) (hn : ip + 1 = np) (h3 : catS r ≤ 8)  (hp : vOk (bX M 1)) (kz : ∀ M2 : Mem, (WSt (aEv (bX M 1) w 0) M2 ∧ M2 10 5 = w ∧ M2 10 6 = wcE (aEv (bX M 1) w 0) ∧ ∀ k, k < 10 ∨ 14 < k → M2 k = M k) → Z np ls (mi ((aEv (bX M 1) w 0).length) :: r) M2) : Z ip ls (mi w :: mr 10 :: r) M := w_callV1 hZ ip np hc hn rfl rfl h3 ⟨_, rfl, hp, fun M2 h => kz M2 h⟩
def cd_X5_write : List Sem := [I_aload 0, I_iload 1, I_callV 5 1 sp_X5_begin, I_const (0), I_istore 2, I_iload 2, I_aload 0, I_get 5 3, I_get 0 5, I_cge 43, I_aload 0, I_get 5 3, I_iload 2, I_callV 0 1 sp_X0_signAt, I_istore 3, I_aload 0, I_get 5 3, I_iload 2, I_callV 0 1 sp_X0_wordBeginsAt, I_ifeq 26, I_aload 0, I_iload 2, I_callV 5 1 sp_X5_enterWord, I_aload 0, I_callV 5 0 sp_X5_writeWord, I_goto 41, I_iload 3, I_callS 1 sp_X6_isFigure, I_ifeq 34, I_aload 0, I_iload 2, I_iload 3, I_callV 5 2 sp_X5_writeFigure, I_goto 41, I_iload 3, I_callS 1 sp_X6_isOfWord, I_ifne 41, I_aload 0, I_iload 3, I_callS 1 sp_X6_cellOfMark, I_callV 5 1 sp_X5_addCell, I_iinc 2 (1), I_goto 5, I_aload 0, I_get 5 4, I_iret]
def pc_X5_write : List Nat := [0, 1, 2, 5, 6, 7, 8, 9, 12, 15, 18, 19, 22, 23, 26, 27, 28, 31, 32, 35, 38, 39, 40, 43, 44, 47, 50, 51, 54, 57, 58, 59, 60, 63, 66, 67, 70, 73, 74, 75, 78, 81, 84, 87, 88, 91]
set_option maxRecDepth 100000 in
set_option maxHeartbeats 4000000 in
theorem b_X5_write (w : Int) (i_w : InR w) (M : Mem) (Ret : KR) (hp : vOk (bX M 1)) (hR : ∀ M2 : Mem, (WSt (aEv (bX M 1) w 0) M2 ∧ M2 10 5 = w ∧ M2 10 6 = wcE (aEv (bX M 1) w 0) ∧ ∀ k, k < 10 ∨ 14 < k → M2 k = M k) → Ret (some (mi ((aEv (bX M 1) w 0).length))) M2) (hM : MOk M) (Z : KZ) (hZ : Sim cd_X5_write Z Ret) : Z 0 [some (mr 10), some (mi w), none, none] [] M := by
  have hv := hp
  have hb := hv.bx
  have hbb := hb
  obtain ⟨b1, b2, b3, b4⟩ := hbb
  have h240 := aEv_240 hv w (Int.le_refl 0)
  generalize hV : bX M 1 = V at *
  have hn : vN V = M 1 5 := by rw [← hV]; rfl
  generalize hn' : M 1 5 = n at *
  have loop : ∀ (d : Nat) (i : Int) (D : List Ev) (N : Mem), d = (n - i).toNat → 0 ≤ i → i ≤ n → WSt D N → N 10 5 = w → N 10 6 = wcE D → (∀ k, k < 10 ∨ 14 < k → N k = M k) → aEv V w 0 = D ++ rsE V w i → Z 5 [some (mr 10), some (mi w), some (mi i), none] [] N := by
    intro d
    induction d using Nat.strongRecOn with
    | ind d ih =>
      intro i D N hd h0 h1 hW h5 h6 hfr hev
      have hbN : bX N 1 = V := (bX_same 1 (fun j a b => hfr j (by omega))).trans hV
      have hvN : vOk (bX N 1) := by rw [hbN]; exact hv
      have hBN := hvN.bx
      have e15 : N 1 5 = n := by rw [hfr 1 (by omega)]; exact hn'
      have hsN : ∀ x, SX N x = vS V x := fun x => by show vS (bX N 1) x = _; rw [hbN]
      have hlev := congrArg List.length hev
      rw [List.length_append] at hlev
      have hw4 := hW.1
      have hwcl : 0 ≤ wcE D ∧ wcE D ≤ D.length := by
        unfold wcE
        have := List.length_filter_le (fun e : Ev => e.2.2.2 == 1) D
        omega
      have step : i < n → ∀ (E : List Ev) (N2 : Mem), WSt (D ++ E) N2 → N2 10 5 = w → N2 10 6 = wcE (D ++ E) → (∀ k, k < 10 ∨ 14 < k → N2 k = M k) → rsE V w i = E ++ rsE V w (i + 1) → Z 41 [some (mr 10), some (mi w), some (mi i), some (mi (vS V i))] [] N2 := by
        intro hin E N2 s1 s2 s3 s4 s5
        refine w_in4_2 hZ 41 42 rfl rfl rfl (by unfold InR; omega) ?_
        refine w_goto hZ 42 5 rfl ?_
        refine w_fg4_3 hZ ?_
        exact ih ((n - (i + 1)).toNat) (by omega) (i + 1) (D ++ E) N2 rfl (by omega) (by omega) s1 s2 s3 s4 (by rw [hev, s5, List.append_assoc])
      have hsig : i < n → ∀ (E : List Ev) (N2 : Mem), ApE E N N2 → (∀ e ∈ E, ¬ e.2.2.2 = 1) → rsE V w i = E ++ rsE V w (i + 1) → Z 41 [some (mr 10), some (mi w), some (mi i), some (mi (vS V i))] [] N2 := by
        intro hin E N2 hE he hr
        have z : wcE E = 0 := by
          unfold wcE
          have : E.filter (fun e => e.2.2.2 == 1) = [] := by
            rw [List.filter_eq_nil_iff]
            intro e h; simpa using he e h
          rw [this]; rfl
        have hE' := hE
        obtain ⟨c1, c2, c3, c4, c5, c6⟩ := hE'
        refine step hin E N2 (hW.app hE) (by rw [c5 5 (by omega)]; exact h5) (by rw [c5 6 (by omega), h6, wcE_app, z]; omega) (fun k hk => ?_) hr
        rw [c6 k (by omega), hfr k hk]
      refine w_iload hZ 5 6 rfl rfl rfl ?_
      refine w_aload hZ 6 7 rfl rfl rfl ?_
      refine w_getr hZ 7 8 rfl rfl rfl rfl rfl ?_
      refine w_getiv hZ 8 9 rfl rfl rfl rfl rfl (v := n) e15 ?_
      refine w_cge hZ 9 10 rfl rfl (fun c9 => ?_) (fun c9 => ?_)
      · refine w_aload hZ 43 44 rfl rfl rfl ?_
        have hin : i = vN V := by omega
        rw [hin, rsE_n hv w, List.append_nil] at hev
        refine w_geti hZ 44 45 rfl rfl rfl rfl rfl ?_
        rw [hw4, ← hev]
        refine w_iret hZ 45 rfl ?_
        rw [← hev] at hW h6
        exact hR _ ⟨hW, h5, h6, hfr⟩
      · refine w_aload hZ 10 11 rfl rfl rfl ?_
        refine w_getr hZ 11 12 rfl rfl rfl rfl rfl ?_
        refine w_iload hZ 12 13 rfl rfl rfl ?_
        refine k_X0_signAt hZ 13 14 rfl rfl (Nat.le_of_ble_eq_true rfl) hBN ?_
        rw [hsN i]
        refine w_st4_3 hZ 14 15 rfl rfl rfl ?_
        refine w_aload hZ 15 16 rfl rfl rfl ?_
        refine w_getr hZ 16 17 rfl rfl rfl rfl rfl ?_
        refine w_iload hZ 17 18 rfl rfl rfl ?_
        refine k_X0_wordBeginsAt hZ 18 19 rfl rfl (Nat.le_of_ble_eq_true rfl) ⟨hBN, by unfold InR; omega⟩ ?_
        rw [hsN i, hsN (i - 1)]
        refine w_ifeq hZ 19 20 rfl rfl (fun c19 => ?_) (fun c19 => ?_)
        · replace c19 := b2i_z.mp c19
          refine w_iload hZ 26 27 rfl rfl rfl ?_
          refine k_X6_isFigure hZ 27 28 rfl rfl (Nat.le_of_ble_eq_true rfl)  ?_
          refine w_ifeq hZ 28 29 rfl rfl (fun c28 => ?_) (fun c28 => ?_)
          · refine w_iload hZ 34 35 rfl rfl rfl ?_
            refine k_X6_isOfWord hZ 35 36 rfl rfl (Nat.le_of_ble_eq_true rfl)  ?_
            refine w_ifne hZ 36 37 rfl rfl (fun c36 => ?_) (fun c36 => ?_)
            · replace c36 := b2i_e.mp c36
              refine step (by omega) [] N (by rw [List.append_nil]; exact hW) h5 (by rw [List.append_nil]; exact h6) hfr ?_
              rw [List.nil_append]
              exact rsE_in hv w (by omega) c36 (Decidable.byContradiction fun z => c19 ⟨c36, z⟩)
            · replace c36 := b2i_z.mp c36
              replace c28 := b2i_z.mp c28
              have hrs := rsE_sign hv w (i := i) (by omega) c36
              have hsg : sgE V i = [(mkC (vS V i), -1, i, 0)] := by unfold sgE; rw [if_neg c28]
              rw [hsg] at hrs
              have hlr := congrArg List.length hrs
              rw [List.length_append] at hlr
              simp only [List.length_cons, List.length_nil] at hlr
              refine w_aload hZ 37 38 rfl rfl rfl ?_
              refine w_iload hZ 38 39 rfl rfl rfl ?_
              refine k_X6_cellOfMark hZ 39 40 rfl rfl (Nat.le_of_ble_eq_true rfl)  ?_
              refine k_X5_addCell hZ 40 41 rfl rfl (Nat.le_of_ble_eq_true rfl) ⟨by omega, by omega⟩ (fun M40 p40 => ?_)
              subst p40
              exact hsig (by omega) _ _ (ApE_cell (by omega) (mkC (vS V i), -1, i, 0) rfl) (by intro e he; simp at he; rw [he]; show ¬ (0 : Int) = 1; decide) hrs
          · replace c28 := b2i_e.mp c28
            have hnl : ¬ isLt (vS V i) := by simp only [isFg, isLt, isSm, isCp] at *; omega
            have hrs := rsE_sign hv w (i := i) (by omega) hnl
            have hlr := congrArg List.length hrs
            rw [List.length_append] at hlr
            refine w_aload hZ 29 30 rfl rfl rfl ?_
            refine w_iload hZ 30 31 rfl rfl rfl ?_
            refine w_iload hZ 31 32 rfl rfl rfl ?_
            refine k_X5_writeFigure hZ 32 33 rfl rfl (Nat.le_of_ble_eq_true rfl) ⟨hvN, h0, by omega, by rw [hbN], c28, by omega, by rw [hbN]; omega, hW.sn⟩ (fun M32 p32 => ?_)
            refine w_goto hZ 33 41 rfl ?_
            rw [hbN] at p32
            exact hsig (by omega) _ _ p32 (sgE_wc V i) hrs
        · replace c19 := b2i_e.mp c19
          have hrs := rsE_word hv w h0 (by omega) c19.1 c19.2
          have hlr := congrArg List.length hrs
          rw [List.length_append] at hlr
          refine w_aload hZ 20 21 rfl rfl rfl ?_
          refine w_iload hZ 21 22 rfl rfl rfl ?_
          refine k_X5_enterWord hZ 22 23 rfl rfl (Nat.le_of_ble_eq_true rfl) ⟨hvN, h0, by omega, by rw [hbN]; exact c19.1⟩ (fun M22 p22 => ?_)
          obtain ⟨q1, q2, q3⟩ := p22
          rw [e15, hbN] at q2 q3
          rw [e15] at q1
          have hwe : we n (SX N) i = we (vN V) (vS V) i := by rw [hn, show SX N = vS V from funext hsN]
          rw [hwe] at q1 q2 q3
          have hb22 : bX M22 1 = V := q1.bx.trans hbN
          have hg22 : gM M22 = alC V i (we (vN V) (vS V) i) := by
            unfold gM
            rw [q2]
            by_cases z : alC V i (we (vN V) (vS V) i) = true
            · rw [b2i_t z, z]; rfl
            · rw [b2i_f z]; simp at z; rw [z]; rfl
          have hwg := we_gt hv (i := i) (by omega) c19.1
          have hws := we_spec (n := vN V) (S := vS V) (i := i) (by omega) hv.nl
          have hW22 : WSt D M22 := hW.same (q1.2.2.1 4 (by omega) (by omega) (by omega)) (q1.2.2.2 11 (by omega) (by omega)) (q1.2.2.2 12 (by omega) (by omega)) (q1.2.2.2 13 (by omega) (by omega))
          have e22 : M22 10 5 = w := (q1.2.2.1 5 (by omega) (by omega) (by omega)).trans h5
          have e226 : M22 10 6 = wcE D := (q1.2.2.1 6 (by omega) (by omega) (by omega)).trans h6
          have e224 := hW22.1
          have e221 : M22 1 5 = n := by rw [q1.2.2.2 1 (by omega) (by omega)]; exact e15
          have hen : En M22 := by
            unfold En
            rw [q1.1, q1.2.1, e221, hb22, hg22]
            exact ⟨h0, hwg.1, by omega, fun x x0 x1 => ⟨hws.2.2.1 x x0 x1, q3 x x0 x1⟩⟩
          refine w_aload hZ 23 24 rfl rfl rfl ?_
          refine k_X5_writeWord hZ 24 25 rfl rfl (Nat.le_of_ble_eq_true rfl) ⟨by rw [hb22]; exact hv, hen, by rw [hb22, q1.1, q1.2.1]; exact hg22, by rw [q2, hg22], by omega, by rw [hb22, q1.1, q1.2.1, e22]; omega, hW22.sn, by omega, by omega⟩ (fun M24 p24 => ?_)
          refine w_goto hZ 25 41 rfl ?_
          obtain ⟨N3, r1, r2⟩ := p24
          rw [hb22, q1.1, q1.2.1, e22] at r1 r2
          subst r2
          refine step (by omega) _ _ ((hW22.app r1).same (by simp [mup_at]) (by funext j; simp [mup_at]) (by funext j; simp [mup_at]) (by funext j; simp [mup_at])) ?_ ?_ (fun k hk => ?_) hrs
          · rw [mup_at, if_neg (by omega), r1.2.2.2.2.1 5 (by omega)]; exact e22
          · rw [mup_at, if_pos ⟨rfl, rfl⟩, e226, wcE_app]
          · have z1 : ¬ k = 10 := by omega
            rw [← hfr k hk, ← q1.2.2.2 k (by omega) (by omega), ← r1.2.2.2.2.2 k (by omega)]
            funext j; simp [mup_at, z1]
  refine w_aload hZ 0 1 rfl rfl rfl ?_
  refine w_iload hZ 1 2 rfl rfl rfl ?_
  refine k_X5_begin hZ 2 3 rfl rfl (Nat.le_of_ble_eq_true rfl)  (fun M2 p2 => ?_)
  refine w_const hZ 3 4 rfl rfl  ?_
  refine w_st4_2 hZ 4 5 rfl rfl rfl ?_
  obtain ⟨q1, q2, q3⟩ := p2
  have z4 : M2 10 4 = 0 := by rw [q1]; rfl
  have z5 : M2 10 5 = w := by rw [q1]; rfl
  have z6 : M2 10 6 = 0 := by rw [q1]; rfl
  refine loop _ 0 [] M2 rfl (Int.le_refl _) b3 ⟨by rw [z4]; rfl, fun j hj => by simp at hj, fun k hk => ⟨by rw [(q2 k hk).1]; rfl, by rw [(q2 k hk).2]; rfl⟩⟩ z5 (by rw [z6]; rfl) (fun k hk => q3 k (by omega) (by omega) (by omega)) ?_
  rw [List.nil_append]; exact (rsE_0 hv w).symm
set_option maxRecDepth 100000 in
set_option maxHeartbeats 4000000 in
theorem ao_X5_write : AllOk yX5_write.cls cX5_write 4 4 97 (some .int) none pc_X5_write 0 cd_X5_write := ⟨s_aload_n (k := 0) (by decide +kernel) rfl rfl, ⟨s_iload_n (k := 1) (by decide +kernel) rfl rfl, ⟨s_callV (C := RX5) (T := TX5) (N := 12) rfl ct_X5_begin (by decide) (by decide) ⟨rfl, by decide +kernel, by decide +kernel, by decide +kernel⟩ tw_2_138 tw_2_140 ts_1_3 tw_1_4 tw_2_141 (by decide +kernel) rfl, ⟨s_iconst (by decide +kernel) rfl ⟨by decide, by decide⟩, ⟨s_istore_n (k := 2) (by decide +kernel) rfl rfl, ⟨s_iload_n (k := 2) (by decide +kernel) rfl rfl, ⟨s_aload_n (k := 0) (by decide +kernel) rfl rfl, ⟨s_get (C := RX5) (T := TX5) (N := 12) rfl inT5 (by decide) tw_1_95 (by decide +kernel) rfl, ⟨s_get (C := RX0) (T := TX0) (N := 8) rfl inT0 (by decide) tw_1_39 (by decide +kernel) rfl, ⟨s_cge (off := (72)) (by decide +kernel) rfl rfl, ⟨s_aload_n (k := 0) (by decide +kernel) rfl rfl, ⟨s_get (C := RX5) (T := TX5) (N := 12) rfl inT5 (by decide) tw_1_95 (by decide +kernel) rfl, ⟨s_iload_n (k := 2) (by decide +kernel) rfl rfl, ⟨s_callV (C := RX0) (T := TX0) (N := 8) rfl ct_X0_signAt (by decide) (by decide) ⟨rfl, by decide +kernel, by decide +kernel, by decide +kernel⟩ tw_2_142 tw_2_130 tw_2_131 tw_1_2 tw_2_132 (by decide +kernel) rfl, ⟨s_istore_n (k := 3) (by decide +kernel) rfl rfl, ⟨s_aload_n (k := 0) (by decide +kernel) rfl rfl, ⟨s_get (C := RX5) (T := TX5) (N := 12) rfl inT5 (by decide) tw_1_95 (by decide +kernel) rfl, ⟨s_iload_n (k := 2) (by decide +kernel) rfl rfl, ⟨s_callV (C := RX0) (T := TX0) (N := 8) rfl ct_X0_wordBeginsAt (by decide) (by decide) ⟨rfl, by decide +kernel, by decide +kernel, by decide +kernel⟩ tw_2_143 tw_2_126 tw_2_127 tw_1_2 tw_2_128 (by decide +kernel) rfl, ⟨s_ifeq (off := (15)) (by decide +kernel) rfl rfl, ⟨s_aload_n (k := 0) (by decide +kernel) rfl rfl, ⟨s_iload_n (k := 2) (by decide +kernel) rfl rfl, ⟨s_callV (C := RX5) (T := TX5) (N := 12) rfl ct_X5_enterWord (by decide) (by decide) ⟨rfl, by decide +kernel, by decide +kernel, by decide +kernel⟩ tw_2_144 tw_2_146 ts_1_4 tw_1_4 tw_2_147 (by decide +kernel) rfl, ⟨s_aload_n (k := 0) (by decide +kernel) rfl rfl, ⟨s_callV (C := RX5) (T := TX5) (N := 12) rfl ct_X5_writeWord (by decide) (by decide) ⟨rfl, by decide +kernel, by decide +kernel, by decide +kernel⟩ tw_2_157 tw_2_159 ts_1_5 tw_1_4 tw_2_160 (by decide +kernel) rfl, ⟨s_goto (off := (34)) (by decide +kernel) rfl, ⟨s_iload_n (k := 3) (by decide +kernel) rfl rfl, ⟨s_callN ct_X6_isFigure (by decide) (by decide) ⟨by decide +kernel, by decide +kernel, by decide +kernel⟩ ni_11 tw_2_96 tw_1_1 tw_2_97 (by decide +kernel) rfl, ⟨s_ifeq (off := (12)) (by decide +kernel) rfl rfl, ⟨s_aload_n (k := 0) (by decide +kernel) rfl rfl, ⟨s_iload_n (k := 2) (by decide +kernel) rfl rfl, ⟨s_iload_n (k := 3) (by decide +kernel) rfl rfl, ⟨s_callV (C := RX5) (T := TX5) (N := 12) rfl ct_X5_writeFigure (by decide) (by decide) ⟨rfl, by decide +kernel, by decide +kernel, by decide +kernel⟩ tw_2_198 tw_2_200 ts_1_13 tw_1_4 tw_2_201 (by decide +kernel) rfl, ⟨s_goto (off := (18)) (by decide +kernel) rfl, ⟨s_iload_n (k := 3) (by decide +kernel) rfl rfl, ⟨s_callN ct_X6_isOfWord (by decide) (by decide) ⟨by decide +kernel, by decide +kernel, by decide +kernel⟩ ni_13 tw_2_87 tw_1_1 tw_2_88 (by decide +kernel) rfl, ⟨s_ifne (off := (11)) (by decide +kernel) rfl rfl, ⟨s_aload_n (k := 0) (by decide +kernel) rfl rfl, ⟨s_iload_n (k := 3) (by decide +kernel) rfl rfl, ⟨s_callN ct_X6_cellOfMark (by decide) (by decide) ⟨by decide +kernel, by decide +kernel, by decide +kernel⟩ ni_14 tw_2_207 tw_1_1 tw_2_208 (by decide +kernel) rfl, ⟨s_callV (C := RX5) (T := TX5) (N := 12) rfl ct_X5_addCell (by decide) (by decide) ⟨rfl, by decide +kernel, by decide +kernel, by decide +kernel⟩ tw_2_171 tw_2_173 ts_1_7 tw_1_4 tw_2_174 (by decide +kernel) rfl, ⟨s_iinc (by decide +kernel) rfl, ⟨s_goto (off := (-77)) (by decide +kernel) rfl, ⟨s_aload_n (k := 0) (by decide +kernel) rfl rfl, ⟨s_get (C := RX5) (T := TX5) (N := 12) rfl inT5 (by decide) tw_1_96 (by decide +kernel) rfl, ⟨s_iret rfl (by decide +kernel), trivial⟩⟩⟩⟩⟩⟩⟩⟩⟩⟩⟩⟩⟩⟩⟩⟩⟩⟩⟩⟩⟩⟩⟩⟩⟩⟩⟩⟩⟩⟩⟩⟩⟩⟩⟩⟩⟩⟩⟩⟩⟩⟩⟩⟩⟩⟩
theorem ct_X5_write : Ctr yX5_write cX5_write 4 (some .int) 4 97 sp_X5_write := by
  refine ctr_of (by decide +kernel) ao_X5_write rfl ?_
  rintro av M Ret ⟨w, rfl, hp, hR⟩ hok hM
  exact ⟨Nat.le_of_ble_eq_true rfl, fun Z hZ => b_X5_write  w (hok _ (List.mem_of_getElem? (i := 1) rfl)) M Ret hp hR hM Z hZ⟩
end
section
/-! FEWEST -/
def mn (x y : Int) : Int := if y < x then y else x
/-- the fewest cells from i on, if F tells those from later places on -/
def fwS (V : BV) (w a b : Int) (g : Bool) (F : Int → Int) (i L : Int) (x : Int) : Int := if rA V w a b g i L = -1 then x else mn x (F (i + L) + 1)
def fw1 (V : BV) (g : Bool) (F : Int → Int) (i : Int) : Int := F (i + 1) + (if smV V g i = 0 then 2 else 1)
def fwA (V : BV) (w a b : Int) (g : Bool) (F : Int → Int) (i : Int) : Int := fwS V w a b g F i 4 (fwS V w a b g F i 3 (fwS V w a b g F i 2 (fw1 V g F i)))
def fwF (V : BV) (w a b : Int) (g : Bool) : Nat → Int → Int
  | 0, _ => 0
  | f + 1, i => if b ≤ i then 0 else fwA V w a b g (fwF V w a b g f) i
def fw (V : BV) (w a b : Int) (g : Bool) (i : Int) : Int := fwF V w a b g (b - i).toNat i
theorem fwS_congr {V : BV} {w a b : Int} {g : Bool} {F G : Int → Int} {i L : Int} (x : Int) (h : F (i + L) = G (i + L)) : fwS V w a b g F i L x = fwS V w a b g G i L x := by
  unfold fwS; rw [h]
theorem fwA_congr {V : BV} {w a b : Int} {g : Bool} {F G : Int → Int} {i : Int} (h : ∀ j, i < j → j ≤ i + 4 → F j = G j) : fwA V w a b g F i = fwA V w a b g G i := by
  unfold fwA
  have e1 : fw1 V g F i = fw1 V g G i := by unfold fw1; rw [h (i + 1) (by omega) (by omega)]
  rw [e1, fwS_congr _ (h (i + 2) (by omega) (by omega)), fwS_congr _ (h (i + 3) (by omega) (by omega)), fwS_congr _ (h (i + 4) (by omega) (by omega))]
theorem fwF_fuel (V : BV) (w a b : Int) (g : Bool) : ∀ (f f2 : Nat) (i : Int), (b - i).toNat ≤ f → (b - i).toNat ≤ f2 → fwF V w a b g f i = fwF V w a b g f2 i
  | 0, 0, i, _, _ => rfl
  | 0, f2 + 1, i, h1, _ => by unfold fwF; rw [if_pos (by omega)]
  | f + 1, 0, i, _, h2 => by unfold fwF; rw [if_pos (by omega)]
  | f + 1, f2 + 1, i, h1, h2 => by
    unfold fwF
    by_cases hb : b ≤ i
    · rw [if_pos hb, if_pos hb]
    · rw [if_neg hb, if_neg hb]
      exact fwA_congr fun j j0 j1 => fwF_fuel V w a b g f f2 j (by omega) (by omega)
theorem fw_end {V : BV} {w a b : Int} {g : Bool} {i : Int} (h : b ≤ i) : fw V w a b g i = 0 := by
  unfold fw; rw [show (b - i).toNat = 0 by omega]; rfl
theorem fw_step {V : BV} {w a b : Int} {g : Bool} {i : Int} (h : i < b) : fw V w a b g i = fwA V w a b g (fw V w a b g) i := by
  unfold fw
  rw [show (b - i).toNat = (b - (i + 1)).toNat + 1 by omega]
  conv => lhs; unfold fwF
  rw [if_neg (by omega)]
  exact fwA_congr fun j j0 j1 => fwF_fuel V w a b g _ _ j (by omega) (by omega)
theorem fwS_le {V : BV} {w a b : Int} {g : Bool} {F : Int → Int} {i L x c : Int} (h0 : 0 ≤ x) (h1 : x ≤ c) (h2 : 0 ≤ F (i + L)) : 0 ≤ fwS V w a b g F i L x ∧ fwS V w a b g F i L x ≤ c := by
  unfold fwS mn; split
  · exact ⟨h0, h1⟩
  · split <;> omega
theorem fw_le (V : BV) (w a b : Int) (g : Bool) : ∀ (d : Nat) (i : Int), d = (b - i).toNat → 0 ≤ fw V w a b g i ∧ fw V w a b g i ≤ 2 * d := by
  intro d
  induction d using Nat.strongRecOn with
  | ind d ih =>
    intro i hd
    have nn : ∀ j, i < j → 0 ≤ fw V w a b g j := by
      intro j hj
      by_cases q : b ≤ j
      · rw [fw_end q]; omega
      · exact (ih (b - j).toNat (by omega) j rfl).1
    by_cases hb : b ≤ i
    · rw [fw_end hb]; omega
    · rw [fw_step (by omega)]
      have h1 : 0 ≤ fw1 V g (fw V w a b g) i ∧ fw1 V g (fw V w a b g) i ≤ 2 * d := by
        have q := ih (b - (i + 1)).toNat (by omega) (i + 1) rfl
        unfold fw1
        split <;> omega
      unfold fwA
      have h2 := fwS_le (V := V) (w := w) (a := a) (b := b) (g := g) (L := 2) h1.1 h1.2 (nn (i + 2) (by omega))
      have h3 := fwS_le (V := V) (w := w) (a := a) (b := b) (g := g) (L := 3) h2.1 h2.2 (nn (i + 3) (by omega))
      exact fwS_le (V := V) (w := w) (a := a) (b := b) (g := g) (L := 4) h3.1 h3.2 (nn (i + 4) (by omega))
/-- the fewest of a whole word's letters -/
def fwW (V : BV) (w i : Int) : Int := fw V w i (we (vN V) (vS V) i) (alC V i (we (vN V) (vS V) i)) i
/-- .. of the words that begin ahead of k -/
def fwT (V : BV) (w : Int) : Nat → Int
  | 0 => 0
  | k + 1 => fwT V w k + (if isLt (vS V k) ∧ ¬ isLt (vS V ((k : Int) - 1)) then fwW V w k else 0)
theorem fwT_le {V : BV} (h : vOk V) (w : Int) : ∀ k : Nat, (k : Int) ≤ vN V → 0 ≤ fwT V w k ∧ fwT V w k ≤ 240 * k
  | 0, _ => ⟨Int.le_refl _, by unfold fwT; omega⟩
  | k + 1, hk => by
    have ih := fwT_le h w k (by omega)
    unfold fwT
    split
    · rename_i q
      have hg := we_gt h (i := (k : Int)) (by omega) q.1
      have := fw_le V w k (we (vN V) (vS V) k) (alC V k (we (vN V) (vS V) k)) _ k rfl
      have := h.2.1
      unfold fwW
      omega
    · omega
def sp_X5_fewestOfWord : SP := fun av M Ret => av = [mr 10] ∧ (vOk (bX M 1) ∧ En M) ∧ (∀ M2 : Mem, (∀ k, ¬ k = 15 → M2 k = M k) → Ret (some (mi (fw (bX M 1) (M 10 5) (M 10 7) (M 10 8) (gM M) (M 10 7)))) M2)
theorem k_X5_fewestOfWord {code : List Sem} {Z : KZ} {Ret : KR} {ls : List (Option MV)} {M : Mem} {r : List MV} (hZ : Sim code Z Ret) (ip np : Nat)  (hc : code[ip]? = some (I_callV 5 0 sp_X5_fewestOfWord)) (hn : ip + 1 = np) (h3 : catS r ≤ 8)  (hp : vOk (bX M 1) ∧ En M) (kz : ∀ M2 : Mem, (∀ k, ¬ k = 15 → M2 k = M k) → Z np ls (mi (fw (bX M 1) (M 10 5) (M 10 7) (M 10 8) (gM M) (M 10 7)) :: r) M2) : Z ip ls (mr 10 :: r) M := w_callV0 hZ ip np hc hn rfl rfl h3 ⟨rfl, hp, fun M2 h => kz M2 h⟩
def cd_X5_fewestOfWord : List Sem := [I_aload 0, I_get 5 11, I_aload 0, I_get 5 8, I_const (0), I_iast, I_aload 0, I_get 5 8, I_const (1), I_sub, I_istore 1, I_iload 1, I_aload 0, I_get 5 7, I_clt 62, I_aload 0, I_get 5 11, I_iload 1, I_const (1), I_add, I_iald, I_aload 0, I_get 5 10, I_iload 1, I_iald, I_ifne 28, I_const (2), I_goto 29, I_const (1), I_add, I_istore 2, I_const (2), I_istore 3, I_iload 3, I_const (4), I_cgt 55, I_aload 0, I_iload 1, I_iload 3, I_callV 5 2 sp_X5_ruleAt, I_const (-1), I_ceq 53, I_iload 2, I_aload 0, I_get 5 11, I_iload 1, I_iload 3, I_add, I_iald, I_const (1), I_add, I_min, I_istore 2, I_iinc 3 (1), I_goto 33, I_aload 0, I_get 5 11, I_iload 1, I_iload 2, I_iast, I_iinc 1 (-1), I_goto 11, I_aload 0, I_get 5 11, I_aload 0, I_get 5 7, I_iald, I_iret]
def pc_X5_fewestOfWord : List Nat := [0, 1, 4, 5, 8, 9, 10, 11, 14, 15, 16, 17, 18, 19, 22, 25, 26, 29, 30, 31, 32, 33, 34, 37, 38, 39, 42, 43, 46, 47, 48, 49, 50, 51, 52, 53, 56, 57, 58, 59, 62, 63, 66, 67, 68, 71, 72, 73, 74, 75, 76, 77, 80, 81, 84, 87, 88, 91, 92, 93, 94, 97, 100, 101, 104, 105, 108, 109]
set_option maxRecDepth 100000 in
set_option maxHeartbeats 4000000 in
theorem b_X5_fewestOfWord  (M : Mem) (Ret : KR) (hp : vOk (bX M 1) ∧ En M) (hR : ∀ M2 : Mem, (∀ k, ¬ k = 15 → M2 k = M k) → Ret (some (mi (fw (bX M 1) (M 10 5) (M 10 7) (M 10 8) (gM M) (M 10 7)))) M2) (hM : MOk M) (Z : KZ) (hZ : Sim cd_X5_fewestOfWord Z Ret) : Z 0 [some (mr 10), none, none, none] [] M := by
  obtain ⟨hv, he⟩ := hp
  have hb := hv.bx
  obtain ⟨b1, b2, b3, b4⟩ := hb
  have hee := he
  obtain ⟨e1, e2, e3, e4⟩ := hee
  generalize hV : bX M 1 = V at *
  generalize hw : M 10 5 = w at *
  generalize ha : M 10 7 = a at *
  generalize hbe : M 10 8 = b at *
  generalize hG : gM M = g at *
  have same : ∀ N : Mem, (∀ k, ¬ k = 15 → N k = M k) → bX N 1 = V ∧ N 10 5 = w ∧ N 10 7 = a ∧ N 10 8 = b ∧ gM N = g ∧ En N ∧ N 14 = M 14 := by
    intro N hN
    have h10 := hN 10 (by omega)
    have h1 := hN 1 (by omega)
    have h14 := hN 14 (by omega)
    have hbx : bX N 1 = V := (bX_same 1 (fun j x y => hN j (by omega))).trans hV
    have hgN : gM N = g := by unfold gM; rw [h10]; exact hG
    refine ⟨hbx, by rw [h10]; exact hw, by rw [h10]; exact ha, by rw [h10]; exact hbe, hgN, ?_, h14⟩
    unfold En; rw [hbx, hgN, h10, h1, h14, ha, hbe]; exact ⟨e1, e2, e3, e4⟩
  have fb : ∀ j, 0 ≤ j → 0 ≤ fw V w a b g j ∧ fw V w a b g j ≤ 240 := fun j hj => by
    have := fw_le V w a b g (b - j).toNat j rfl
    omega
  have loop : ∀ (d : Nat) (i : Int) (N : Mem), d = (i + 1 - a).toNat → a - 1 ≤ i → i < b → (∀ k, ¬ k = 15 → N k = M k) → (∀ j, i < j → j ≤ b → N 15 j.toNat = fw V w a b g j) → Z 11 [some (mr 10), some (mi i), none, none] [] N := by
    intro d
    induction d using Nat.strongRecOn with
    | ind d ih =>
      intro i N hd h0 h1 hN hF
      obtain ⟨n1, n2, n3, n4, n5, n6, n7⟩ := same N hN
      have hsm : a ≤ i → N 14 i.toNat = smV V g i := fun hai => by rw [n7]; exact (e4 i hai h1).2
      have hrA : ∀ L, rA (bX N 1) (N 10 5) (N 10 7) (N 10 8) (gM N) i L = rA V w a b g i L := fun L => by rw [n1, n2, n3, n4, n5]
      have preA : ∀ L : Int, a ≤ i → 2 ≤ L → L ≤ 4 → vOk (bX N 1) ∧ En N ∧ N 10 7 ≤ i ∧ i < N 10 8 ∧ 2 ≤ L ∧ L ≤ 4 := fun L hai l2 l4 => ⟨by rw [n1]; exact hv, n6, by rw [n3]; exact hai, by rw [n4]; exact h1, l2, l4⟩
      have fin : a ≤ i → ∀ x : Int, x = fw V w a b g i → Z 33 [some (mr 10), some (mi i), some (mi x), some (mi 5)] [] N := by
        intro hai x hx
        refine w_iload hZ 33 34 rfl rfl rfl ?_
        refine w_const hZ 34 35 rfl rfl  ?_
        refine w_cgt hZ 35 36 rfl rfl (fun c35 => ?_) (fun c35 => absurd c35 (by omega))
        refine w_aload hZ 55 56 rfl rfl rfl ?_
        refine w_getr hZ 56 57 rfl rfl rfl rfl rfl ?_
        refine w_iload hZ 57 58 rfl rfl rfl ?_
        refine w_iload hZ 58 59 rfl rfl rfl ?_
        refine w_iast hZ 59 60 rfl rfl rfl (by omega) (by omega) ?_
        refine w_in4_1 hZ 60 61 rfl rfl rfl (by unfold InR; omega) ?_
        refine w_goto hZ 61 11 rfl ?_
        refine w_fg4_2 hZ ?_
        refine w_fg4_3 hZ ?_
        refine ih ((i + -1 + 1 - a).toNat) (by omega) (i + -1) _ rfl (by omega) (by omega) (fun k hk => ?_) (fun j j0 j1 => ?_)
        · rw [← hN k hk]; funext q; simp [mup_at, hk]
        · by_cases q : j = i
          · subst q; simp [mup_at, hx]
          · have : ¬ j.toNat = i.toNat := by omega
            simp [mup_at, this]; exact hF j (by omega) j1
      have one : ∀ L : Int, a ≤ i → 2 ≤ L → L ≤ 4 → ∀ x : Int, 0 ≤ x → x ≤ 300 → (∀ y : Int, y = fwS V w a b g (fw V w a b g) i L x → 0 ≤ y → y ≤ 300 → Z 33 [some (mr 10), some (mi i), some (mi y), some (mi (L + 1))] [] N) → Z 33 [some (mr 10), some (mi i), some (mi x), some (mi L)] [] N := by
        intro L hai l2 l4 x x0 x1 kz
        refine w_iload hZ 33 34 rfl rfl rfl ?_
        refine w_const hZ 34 35 rfl rfl  ?_
        refine w_cgt hZ 35 36 rfl rfl (fun c35 => absurd c35 (by omega)) (fun c35 => ?_)
        refine w_aload hZ 36 37 rfl rfl rfl ?_
        refine w_iload hZ 37 38 rfl rfl rfl ?_
        refine w_iload hZ 38 39 rfl rfl rfl ?_
        refine k_X5_ruleAt hZ 39 40 rfl rfl (Nat.le_of_ble_eq_true rfl) (preA L hai l2 l4) ?_
        rw [hrA L]
        refine w_const hZ 40 41 rfl rfl  ?_
        refine w_ceq hZ 41 42 rfl rfl (fun c41 => ?_) (fun c41 => ?_)
        · first
            | (refine w_in4_3 hZ 53 54 rfl rfl rfl (by unfold InR; omega) ?_; refine w_goto hZ 54 33 rfl ?_; refine kz _ ?_ (by split <;> omega) (by split <;> omega); unfold fwS mn; rw [if_neg c41])
            | (refine w_in4_3 hZ 53 54 rfl rfl rfl (by unfold InR; omega) ?_; refine w_goto hZ 54 33 rfl ?_; refine kz x ?_ x0 x1; unfold fwS; rw [if_pos c41])
        · have hin : i + L ≤ b := by
            rcases rA_cases V w a b g i L hv.2.2.1 with q | q
            · exact absurd q c41
            · exact q.2.2.1
          have hfb := fb (i + L) (by omega)
          refine w_iload hZ 42 43 rfl rfl rfl ?_
          refine w_aload hZ 43 44 rfl rfl rfl ?_
          refine w_getr hZ 44 45 rfl rfl rfl rfl rfl ?_
          refine w_iload hZ 45 46 rfl rfl rfl ?_
          refine w_iload hZ 46 47 rfl rfl rfl ?_
          refine w_add hZ 47 48 rfl rfl (by unfold InR; omega) ?_
          refine w_ialdv hZ 48 49 rfl rfl rfl (by omega) (by omega) (v := fw V w a b g (i + L)) (hF (i + L) (by omega) hin) ?_
          refine w_const hZ 49 50 rfl rfl  ?_
          refine w_add hZ 50 51 rfl rfl (by unfold InR; omega) ?_
          refine w_min hZ 51 52 rfl rfl (Nat.le_of_ble_eq_true rfl) ?_
          refine w_st4_2 hZ 52 53 rfl rfl rfl ?_
          first
            | (refine w_in4_3 hZ 53 54 rfl rfl rfl (by unfold InR; omega) ?_; refine w_goto hZ 54 33 rfl ?_; refine kz _ ?_ (by split <;> omega) (by split <;> omega); unfold fwS mn; rw [if_neg c41])
            | (refine w_in4_3 hZ 53 54 rfl rfl rfl (by unfold InR; omega) ?_; refine w_goto hZ 54 33 rfl ?_; refine kz x ?_ x0 x1; unfold fwS; rw [if_pos c41])
      have t31 : a ≤ i → ∀ x : Int, x = fw1 V g (fw V w a b g) i → 0 ≤ x → x ≤ 300 → Z 31 [some (mr 10), some (mi i), some (mi x), none] [] N := by
        intro hai x hx x0 x1
        refine w_const hZ 31 32 rfl rfl  ?_
        refine w_st4_3 hZ 32 33 rfl rfl rfl ?_
        exact one 2 hai (by omega) (by omega) x x0 x1 (fun y2 e2 z0 z1 => one 3 hai (by omega) (by omega) y2 z0 z1 (fun y3 e3 z2 z3 => one 4 hai (by omega) (by omega) y3 z2 z3 (fun y4 e4 z4 z5 => fin hai y4 (by rw [fw_step h1, e4, e3, e2, hx]; rfl))))
      refine w_iload hZ 11 12 rfl rfl rfl ?_
      refine w_aload hZ 12 13 rfl rfl rfl ?_
      refine w_getiv hZ 13 14 rfl rfl rfl rfl rfl (v := a) n3 ?_
      refine w_clt hZ 14 15 rfl rfl (fun c14 => ?_) (fun c14 => ?_)
      · refine w_aload hZ 62 63 rfl rfl rfl ?_
        refine w_getr hZ 63 64 rfl rfl rfl rfl rfl ?_
        refine w_aload hZ 64 65 rfl rfl rfl ?_
        refine w_geti hZ 65 66 rfl rfl rfl rfl rfl ?_
        refine w_ialdv hZ 66 67 rfl rfl rfl (by rw [n3]; omega) (by rw [n3]; omega) (v := fw V w a b g a) (by rw [n3]; exact hF a (by omega) (by omega)) ?_
        refine w_iret hZ 67 rfl ?_
        exact hR _ hN
      · have hfb := fb (i + 1) (by omega)
        refine w_aload hZ 15 16 rfl rfl rfl ?_
        refine w_getr hZ 16 17 rfl rfl rfl rfl rfl ?_
        refine w_iload hZ 17 18 rfl rfl rfl ?_
        refine w_const hZ 18 19 rfl rfl  ?_
        refine w_add hZ 19 20 rfl rfl (by unfold InR; omega) ?_
        refine w_ialdv hZ 20 21 rfl rfl rfl (by omega) (by omega) (v := fw V w a b g (i + 1)) (hF (i + 1) (by omega) (by omega)) ?_
        refine w_aload hZ 21 22 rfl rfl rfl ?_
        refine w_getr hZ 22 23 rfl rfl rfl rfl rfl ?_
        refine w_iload hZ 23 24 rfl rfl rfl ?_
        refine w_ialdv hZ 24 25 rfl rfl rfl (by omega) (by omega) (v := smV V g i) (hsm (by omega)) ?_
        refine w_ifne hZ 25 26 rfl rfl (fun c25 => ?_) (fun c25 => ?_)
        · refine w_const hZ 28 29 rfl rfl  ?_
          refine w_add hZ 29 30 rfl rfl (by unfold InR; omega) ?_
          refine w_st4_2 hZ 30 31 rfl rfl rfl ?_
          first
            | exact t31 (by omega) _ (by unfold fw1; rw [if_neg c25]) (by omega) (by omega)
            | exact t31 (by omega) _ (by unfold fw1; rw [if_pos c25]) (by omega) (by omega)
        · refine w_const hZ 26 27 rfl rfl  ?_
          refine w_goto hZ 27 29 rfl ?_
          refine w_add hZ 29 30 rfl rfl (by unfold InR; omega) ?_
          refine w_st4_2 hZ 30 31 rfl rfl rfl ?_
          first
            | exact t31 (by omega) _ (by unfold fw1; rw [if_neg c25]) (by omega) (by omega)
            | exact t31 (by omega) _ (by unfold fw1; rw [if_pos c25]) (by omega) (by omega)
  refine w_aload hZ 0 1 rfl rfl rfl ?_
  refine w_getr hZ 1 2 rfl rfl rfl rfl rfl ?_
  refine w_aload hZ 2 3 rfl rfl rfl ?_
  refine w_getiv hZ 3 4 rfl rfl rfl rfl rfl (v := b) hbe ?_
  refine w_const hZ 4 5 rfl rfl  ?_
  refine w_iast hZ 5 6 rfl rfl rfl (by omega) (by omega) ?_
  refine w_aload hZ 6 7 rfl rfl rfl ?_
  refine w_getiv hZ 7 8 rfl rfl rfl rfl rfl (v := b) hbe ?_
  refine w_const hZ 8 9 rfl rfl  ?_
  refine w_sub hZ 9 10 rfl rfl (by unfold InR; omega) ?_
  refine w_st4_1 hZ 10 11 rfl rfl rfl ?_
  refine loop _ (b - 1) _ rfl (by omega) (by omega) (fun k hk => ?_) (fun j j0 j1 => ?_)
  · funext q; simp [mup_at, hk]
  · have : j = b := by omega
    subst this; rw [fw_end (Int.le_refl _)]; simp [mup_at]
set_option maxRecDepth 100000 in
set_option maxHeartbeats 4000000 in
theorem ao_X5_fewestOfWord : AllOk yX5_fewestOfWord.cls cX5_fewestOfWord 4 2 50 (some .int) none pc_X5_fewestOfWord 0 cd_X5_fewestOfWord := ⟨s_aload_n (k := 0) (by decide +kernel) rfl rfl, ⟨s_get (C := RX5) (T := TX5) (N := 12) rfl inT5 (by decide) tw_1_103 (by decide +kernel) rfl, ⟨s_aload_n (k := 0) (by decide +kernel) rfl rfl, ⟨s_get (C := RX5) (T := TX5) (N := 12) rfl inT5 (by decide) tw_1_100 (by decide +kernel) rfl, ⟨s_iconst (by decide +kernel) rfl ⟨by decide, by decide⟩, ⟨s_iast (by decide +kernel) rfl, ⟨s_aload_n (k := 0) (by decide +kernel) rfl rfl, ⟨s_get (C := RX5) (T := TX5) (N := 12) rfl inT5 (by decide) tw_1_100 (by decide +kernel) rfl, ⟨s_iconst (by decide +kernel) rfl ⟨by decide, by decide⟩, ⟨s_sub (by decide +kernel) rfl, ⟨s_istore_n (k := 1) (by decide +kernel) rfl rfl, ⟨s_iload_n (k := 1) (by decide +kernel) rfl rfl, ⟨s_aload_n (k := 0) (by decide +kernel) rfl rfl, ⟨s_get (C := RX5) (T := TX5) (N := 12) rfl inT5 (by decide) tw_1_99 (by decide +kernel) rfl, ⟨s_clt (off := (78)) (by decide +kernel) rfl rfl, ⟨s_aload_n (k := 0) (by decide +kernel) rfl rfl, ⟨s_get (C := RX5) (T := TX5) (N := 12) rfl inT5 (by decide) tw_1_103 (by decide +kernel) rfl, ⟨s_iload_n (k := 1) (by decide +kernel) rfl rfl, ⟨s_iconst (by decide +kernel) rfl ⟨by decide, by decide⟩, ⟨s_add (by decide +kernel) rfl, ⟨s_iald (by decide +kernel) rfl, ⟨s_aload_n (k := 0) (by decide +kernel) rfl rfl, ⟨s_get (C := RX5) (T := TX5) (N := 12) rfl inT5 (by decide) tw_1_102 (by decide +kernel) rfl, ⟨s_iload_n (k := 1) (by decide +kernel) rfl rfl, ⟨s_iald (by decide +kernel) rfl, ⟨s_ifne (off := (7)) (by decide +kernel) rfl rfl, ⟨s_iconst (by decide +kernel) rfl ⟨by decide, by decide⟩, ⟨s_goto (off := (4)) (by decide +kernel) rfl, ⟨s_iconst (by decide +kernel) rfl ⟨by decide, by decide⟩, ⟨s_add (by decide +kernel) rfl, ⟨s_istore_n (k := 2) (by decide +kernel) rfl rfl, ⟨s_iconst (by decide +kernel) rfl ⟨by decide, by decide⟩, ⟨s_istore_n (k := 3) (by decide +kernel) rfl rfl, ⟨s_iload_n (k := 3) (by decide +kernel) rfl rfl, ⟨s_iconst (by decide +kernel) rfl ⟨by decide, by decide⟩, ⟨s_cgt (off := (34)) (by decide +kernel) rfl rfl, ⟨s_aload_n (k := 0) (by decide +kernel) rfl rfl, ⟨s_iload_n (k := 1) (by decide +kernel) rfl rfl, ⟨s_iload_n (k := 3) (by decide +kernel) rfl rfl, ⟨s_callV (C := RX5) (T := TX5) (N := 12) rfl ct_X5_ruleAt (by decide) (by decide) ⟨rfl, by decide +kernel, by decide +kernel, by decide +kernel⟩ tw_2_179 tw_2_181 ts_1_9 tw_1_4 tw_2_182 (by decide +kernel) rfl, ⟨s_iconst (by decide +kernel) rfl ⟨by decide, by decide⟩, ⟨s_ceq (off := (18)) (by decide +kernel) rfl rfl, ⟨s_iload_n (k := 2) (by decide +kernel) rfl rfl, ⟨s_aload_n (k := 0) (by decide +kernel) rfl rfl, ⟨s_get (C := RX5) (T := TX5) (N := 12) rfl inT5 (by decide) tw_1_103 (by decide +kernel) rfl, ⟨s_iload_n (k := 1) (by decide +kernel) rfl rfl, ⟨s_iload_n (k := 3) (by decide +kernel) rfl rfl, ⟨s_add (by decide +kernel) rfl, ⟨s_iald (by decide +kernel) rfl, ⟨s_iconst (by decide +kernel) rfl ⟨by decide, by decide⟩, ⟨s_add (by decide +kernel) rfl, ⟨s_min tw_2_217 tw_2_29 tw_1_10 tw_2_30 (by decide) (by decide) (by decide +kernel) rfl, ⟨s_istore_n (k := 2) (by decide +kernel) rfl rfl, ⟨s_iinc (by decide +kernel) rfl, ⟨s_goto (off := (-33)) (by decide +kernel) rfl, ⟨s_aload_n (k := 0) (by decide +kernel) rfl rfl, ⟨s_get (C := RX5) (T := TX5) (N := 12) rfl inT5 (by decide) tw_1_103 (by decide +kernel) rfl, ⟨s_iload_n (k := 1) (by decide +kernel) rfl rfl, ⟨s_iload_n (k := 2) (by decide +kernel) rfl rfl, ⟨s_iast (by decide +kernel) rfl, ⟨s_iinc (by decide +kernel) rfl, ⟨s_goto (off := (-80)) (by decide +kernel) rfl, ⟨s_aload_n (k := 0) (by decide +kernel) rfl rfl, ⟨s_get (C := RX5) (T := TX5) (N := 12) rfl inT5 (by decide) tw_1_103 (by decide +kernel) rfl, ⟨s_aload_n (k := 0) (by decide +kernel) rfl rfl, ⟨s_get (C := RX5) (T := TX5) (N := 12) rfl inT5 (by decide) tw_1_99 (by decide +kernel) rfl, ⟨s_iald (by decide +kernel) rfl, ⟨s_iret rfl (by decide +kernel), trivial⟩⟩⟩⟩⟩⟩⟩⟩⟩⟩⟩⟩⟩⟩⟩⟩⟩⟩⟩⟩⟩⟩⟩⟩⟩⟩⟩⟩⟩⟩⟩⟩⟩⟩⟩⟩⟩⟩⟩⟩⟩⟩⟩⟩⟩⟩⟩⟩⟩⟩⟩⟩⟩⟩⟩⟩⟩⟩⟩⟩⟩⟩⟩⟩⟩⟩⟩⟩
theorem ct_X5_fewestOfWord : Ctr yX5_fewestOfWord cX5_fewestOfWord 4 (some .int) 2 50 sp_X5_fewestOfWord := by
  refine ctr_of (by decide +kernel) ao_X5_fewestOfWord rfl ?_
  rintro av M Ret ⟨rfl, hp, hR⟩ hok hM
  exact ⟨Nat.le_of_ble_eq_true rfl, fun Z hZ => b_X5_fewestOfWord   M Ret hp hR hM Z hZ⟩
def sp_X5_fewest : SP := fun av M Ret => av = [mr 10] ∧ (vOk (bX M 1) ∧ 0 ≤ M 10 4 ∧ M 10 4 ≤ 240 ∧ 0 ≤ M 10 6 ∧ M 10 6 ≤ 240) ∧ (∀ M2 : Mem, (∀ k, ¬ k = 10 → ¬ k = 14 → ¬ k = 15 → M2 k = M k) → Ret (some (mi (M 10 4 - M 10 6 + fwT (bX M 1) (M 10 5) (M 1 5).toNat))) M2)
theorem k_X5_fewest {code : List Sem} {Z : KZ} {Ret : KR} {ls : List (Option MV)} {M : Mem} {r : List MV} (hZ : Sim code Z Ret) (ip np : Nat)  (hc : code[ip]? = some (I_callV 5 0 sp_X5_fewest)) (hn : ip + 1 = np) (h3 : catS r ≤ 8)  (hp : vOk (bX M 1) ∧ 0 ≤ M 10 4 ∧ M 10 4 ≤ 240 ∧ 0 ≤ M 10 6 ∧ M 10 6 ≤ 240) (kz : ∀ M2 : Mem, (∀ k, ¬ k = 10 → ¬ k = 14 → ¬ k = 15 → M2 k = M k) → Z np ls (mi (M 10 4 - M 10 6 + fwT (bX M 1) (M 10 5) (M 1 5).toNat) :: r) M2) : Z ip ls (mr 10 :: r) M := w_callV0 hZ ip np hc hn rfl rfl h3 ⟨rfl, hp, fun M2 h => kz M2 h⟩
def cd_X5_fewest : List Sem := [I_aload 0, I_get 5 4, I_aload 0, I_get 5 6, I_sub, I_istore 1, I_const (0), I_istore 2, I_iload 2, I_aload 0, I_get 5 3, I_get 0 5, I_cge 28, I_aload 0, I_get 5 3, I_iload 2, I_callV 0 1 sp_X0_wordBeginsAt, I_ifeq 26, I_aload 0, I_iload 2, I_callV 5 1 sp_X5_enterWord, I_iload 1, I_aload 0, I_callV 5 0 sp_X5_fewestOfWord, I_add, I_istore 1, I_iinc 2 (1), I_goto 8, I_iload 1, I_iret]
def pc_X5_fewest : List Nat := [0, 1, 4, 5, 8, 9, 10, 11, 12, 13, 14, 17, 20, 23, 24, 27, 28, 31, 34, 35, 36, 39, 40, 41, 44, 45, 46, 49, 52, 53]
set_option maxRecDepth 100000 in
set_option maxHeartbeats 4000000 in
theorem b_X5_fewest  (M : Mem) (Ret : KR) (hp : vOk (bX M 1) ∧ 0 ≤ M 10 4 ∧ M 10 4 ≤ 240 ∧ 0 ≤ M 10 6 ∧ M 10 6 ≤ 240) (hR : ∀ M2 : Mem, (∀ k, ¬ k = 10 → ¬ k = 14 → ¬ k = 15 → M2 k = M k) → Ret (some (mi (M 10 4 - M 10 6 + fwT (bX M 1) (M 10 5) (M 1 5).toNat))) M2) (hM : MOk M) (Z : KZ) (hZ : Sim cd_X5_fewest Z Ret) : Z 0 [some (mr 10), none, none] [] M := by
  obtain ⟨hv, h4a, h4b, h6a, h6b⟩ := hp
  have hb := hv.bx
  obtain ⟨b1, b2, b3, b4⟩ := hb
  generalize hV : bX M 1 = V at *
  have hn : vN V = M 1 5 := by rw [← hV]; rfl
  generalize hn' : M 1 5 = n at *
  generalize hw : M 10 5 = w at *
  generalize hT : M 10 4 - M 10 6 = t0 at *
  have loop : ∀ (d k : Nat) (N : Mem), d + k = n.toNat → N 10 5 = w → (∀ o, ¬ o = 10 → ¬ o = 14 → ¬ o = 15 → N o = M o) → Z 8 [some (mr 10), some (mi (t0 + fwT V w k)), some (mi (k : Int))] [] N := by
    intro d
    induction d with
    | zero =>
      intro k N hk h5 hN
      have e15 : N 1 5 = n := by rw [hN 1 (by omega) (by omega) (by omega)]; exact hn'
      refine w_iload hZ 8 9 rfl rfl rfl ?_
      refine w_aload hZ 9 10 rfl rfl rfl ?_
      refine w_getr hZ 10 11 rfl rfl rfl rfl rfl ?_
      refine w_getiv hZ 11 12 rfl rfl rfl rfl rfl (v := n) e15 ?_
      refine w_cge hZ 12 13 rfl rfl (fun c12 => ?_) (fun c12 => absurd c12 (by omega))
      refine w_iload hZ 28 29 rfl rfl rfl ?_
      refine w_iret hZ 29 rfl ?_
      have e : k = n.toNat := by omega
      rw [e]
      exact hR _ hN
    | succ d ih =>
      intro k N hk h5 hN
      have e15 : N 1 5 = n := by rw [hN 1 (by omega) (by omega) (by omega)]; exact hn'
      have hbN : bX N 1 = V := (bX_same 1 (fun j a b => hN j (by omega) (by omega) (by omega))).trans hV
      have hvN : vOk (bX N 1) := by rw [hbN]; exact hv
      have hBN := hvN.bx
      have hsN : ∀ x, SX N x = vS V x := fun x => by show vS (bX N 1) x = _; rw [hbN]
      have hle := fwT_le hv w k (by omega)
      have hle2 := fwT_le hv w (k + 1) (by omega)
      have step : ∀ (N2 : Mem) (z : Int), N2 10 5 = w → (∀ o, ¬ o = 10 → ¬ o = 14 → ¬ o = 15 → N2 o = M o) → z = t0 + fwT V w (k + 1) → Z 26 [some (mr 10), some (mi z), some (mi (k : Int))] [] N2 := by
        intro N2 z s1 s2 s3
        refine w_in3_2 hZ 26 27 rfl rfl rfl (by unfold InR; omega) ?_
        refine w_goto hZ 27 8 rfl ?_
        rw [s3]
        exact ih (k + 1) N2 (by omega) s1 s2
      refine w_iload hZ 8 9 rfl rfl rfl ?_
      refine w_aload hZ 9 10 rfl rfl rfl ?_
      refine w_getr hZ 10 11 rfl rfl rfl rfl rfl ?_
      refine w_getiv hZ 11 12 rfl rfl rfl rfl rfl (v := n) e15 ?_
      refine w_cge hZ 12 13 rfl rfl (fun c12 => absurd c12 (by omega)) (fun c12 => ?_)
      refine w_aload hZ 13 14 rfl rfl rfl ?_
      refine w_getr hZ 14 15 rfl rfl rfl rfl rfl ?_
      refine w_iload hZ 15 16 rfl rfl rfl ?_
      refine k_X0_wordBeginsAt hZ 16 17 rfl rfl (Nat.le_of_ble_eq_true rfl) ⟨hBN, by unfold InR; omega⟩ ?_
      rw [hsN k, hsN ((k : Int) - 1)]
      refine w_ifeq hZ 17 18 rfl rfl (fun c17 => ?_) (fun c17 => ?_)
      · refine step N _ h5 hN ?_
        show _ = t0 + (fwT V w k + (if _ then _ else _))
        rw [if_neg (b2i_z.mp c17)]; omega
      · replace c17 := b2i_e.mp c17
        refine w_aload hZ 18 19 rfl rfl rfl ?_
        refine w_iload hZ 19 20 rfl rfl rfl ?_
        refine k_X5_enterWord hZ 20 21 rfl rfl (Nat.le_of_ble_eq_true rfl) ⟨hvN, by omega, by omega, by rw [hbN]; exact c17.1⟩ (fun M20 p20 => ?_)
        obtain ⟨q1, q2, q3⟩ := p20
        rw [e15, hbN] at q2 q3
        rw [e15] at q1
        have hwe : we n (SX N) k = we (vN V) (vS V) k := by rw [hn, show SX N = vS V from funext hsN]
        rw [hwe] at q1 q2 q3
        have hb20 : bX M20 1 = V := q1.bx.trans hbN
        have hg20 : gM M20 = alC V k (we (vN V) (vS V) k) := by
          unfold gM
          rw [q2]
          by_cases z : alC V k (we (vN V) (vS V) k) = true
          · rw [b2i_t z, z]; rfl
          · rw [b2i_f z]; simp at z; rw [z]; rfl
        have hwg := we_gt hv (i := (k : Int)) (by omega) c17.1
        have hws := we_spec (n := vN V) (S := vS V) (i := (k : Int)) (by omega) hv.nl
        have e20 : M20 10 5 = w := (q1.2.2.1 5 (by omega) (by omega) (by omega)).trans h5
        have e201 : M20 1 5 = n := by rw [q1.2.2.2 1 (by omega) (by omega)]; exact e15
        have hen : En M20 := by
          unfold En
          rw [q1.1, q1.2.1, e201, hb20, hg20]
          exact ⟨by omega, hwg.1, by omega, fun x x0 x1 => ⟨hws.2.2.1 x x0 x1, q3 x x0 x1⟩⟩
        have hTk : fwT V w (k + 1) = fwT V w k + fwW V w k := by
          show fwT V w k + (if _ then _ else _) = _
          rw [if_pos c17]
        refine w_iload hZ 21 22 rfl rfl rfl ?_
        refine w_aload hZ 22 23 rfl rfl rfl ?_
        refine k_X5_fewestOfWord hZ 23 24 rfl rfl (Nat.le_of_ble_eq_true rfl) ⟨by rw [hb20]; exact hv, hen⟩ (fun M23 p23 => ?_)
        have hfe : fw (bX M20 1) (M20 10 5) (M20 10 7) (M20 10 8) (gM M20) (M20 10 7) = fwW V w k := by rw [hb20, e20, q1.1, q1.2.1, hg20]; rfl
        rw [hfe]
        refine w_add hZ 24 25 rfl rfl (by unfold InR; omega) ?_
        refine w_st3_1 hZ 25 26 rfl rfl rfl ?_
        refine step M23 _ ?_ (fun o o1 o2 o3 => ?_) (by omega)
        · rw [p23 10 (by omega)]; exact e20
        · rw [p23 o o3, q1.2.2.2 o o1 o2, hN o o1 o2 o3]
  refine w_aload hZ 0 1 rfl rfl rfl ?_
  refine w_geti hZ 1 2 rfl rfl rfl rfl rfl ?_
  refine w_aload hZ 2 3 rfl rfl rfl ?_
  refine w_geti hZ 3 4 rfl rfl rfl rfl rfl ?_
  refine w_sub hZ 4 5 rfl rfl (by unfold InR; omega) ?_
  rw [hT]
  refine w_st3_1 hZ 5 6 rfl rfl rfl ?_
  refine w_const hZ 6 7 rfl rfl  ?_
  refine w_st3_2 hZ 7 8 rfl rfl rfl ?_
  have e := loop n.toNat 0 M (by omega) hw (fun _ _ _ _ => rfl)
  have z : t0 + fwT V w 0 = t0 := by show t0 + 0 = t0; omega
  rw [z] at e
  exact e
set_option maxRecDepth 100000 in
set_option maxHeartbeats 4000000 in
theorem ao_X5_fewest : AllOk yX5_fewest.cls cX5_fewest 3 4 85 (some .int) none pc_X5_fewest 0 cd_X5_fewest := ⟨s_aload_n (k := 0) (by decide +kernel) rfl rfl, ⟨s_get (C := RX5) (T := TX5) (N := 12) rfl inT5 (by decide) tw_1_96 (by decide +kernel) rfl, ⟨s_aload_n (k := 0) (by decide +kernel) rfl rfl, ⟨s_get (C := RX5) (T := TX5) (N := 12) rfl inT5 (by decide) tw_1_98 (by decide +kernel) rfl, ⟨s_sub (by decide +kernel) rfl, ⟨s_istore_n (k := 1) (by decide +kernel) rfl rfl, ⟨s_iconst (by decide +kernel) rfl ⟨by decide, by decide⟩, ⟨s_istore_n (k := 2) (by decide +kernel) rfl rfl, ⟨s_iload_n (k := 2) (by decide +kernel) rfl rfl, ⟨s_aload_n (k := 0) (by decide +kernel) rfl rfl, ⟨s_get (C := RX5) (T := TX5) (N := 12) rfl inT5 (by decide) tw_1_95 (by decide +kernel) rfl, ⟨s_get (C := RX0) (T := TX0) (N := 8) rfl inT0 (by decide) tw_1_39 (by decide +kernel) rfl, ⟨s_cge (off := (32)) (by decide +kernel) rfl rfl, ⟨s_aload_n (k := 0) (by decide +kernel) rfl rfl, ⟨s_get (C := RX5) (T := TX5) (N := 12) rfl inT5 (by decide) tw_1_95 (by decide +kernel) rfl, ⟨s_iload_n (k := 2) (by decide +kernel) rfl rfl, ⟨s_callV (C := RX0) (T := TX0) (N := 8) rfl ct_X0_wordBeginsAt (by decide) (by decide) ⟨rfl, by decide +kernel, by decide +kernel, by decide +kernel⟩ tw_2_143 tw_2_126 tw_2_127 tw_1_2 tw_2_128 (by decide +kernel) rfl, ⟨s_ifeq (off := (15)) (by decide +kernel) rfl rfl, ⟨s_aload_n (k := 0) (by decide +kernel) rfl rfl, ⟨s_iload_n (k := 2) (by decide +kernel) rfl rfl, ⟨s_callV (C := RX5) (T := TX5) (N := 12) rfl ct_X5_enterWord (by decide) (by decide) ⟨rfl, by decide +kernel, by decide +kernel, by decide +kernel⟩ tw_2_144 tw_2_146 ts_1_4 tw_1_4 tw_2_147 (by decide +kernel) rfl, ⟨s_iload_n (k := 1) (by decide +kernel) rfl rfl, ⟨s_aload_n (k := 0) (by decide +kernel) rfl rfl, ⟨s_callV (C := RX5) (T := TX5) (N := 12) rfl ct_X5_fewestOfWord (by decide) (by decide) ⟨rfl, by decide +kernel, by decide +kernel, by decide +kernel⟩ tw_2_213 tw_2_215 ts_1_14 tw_1_4 tw_2_216 (by decide +kernel) rfl, ⟨s_add (by decide +kernel) rfl, ⟨s_istore_n (k := 1) (by decide +kernel) rfl rfl, ⟨s_iinc (by decide +kernel) rfl, ⟨s_goto (off := (-37)) (by decide +kernel) rfl, ⟨s_iload_n (k := 1) (by decide +kernel) rfl rfl, ⟨s_iret rfl (by decide +kernel), trivial⟩⟩⟩⟩⟩⟩⟩⟩⟩⟩⟩⟩⟩⟩⟩⟩⟩⟩⟩⟩⟩⟩⟩⟩⟩⟩⟩⟩⟩⟩
theorem ct_X5_fewest : Ctr yX5_fewest cX5_fewest 3 (some .int) 4 85 sp_X5_fewest := by
  refine ctr_of (by decide +kernel) ao_X5_fewest rfl ?_
  rintro av M Ret ⟨rfl, hp, hR⟩ hok hM
  exact ⟨Nat.le_of_ble_eq_true rfl, fun Z hZ => b_X5_fewest   M Ret hp hR hM Z hZ⟩
end
section
/-! LAID in lines: the lines that are full, and the last one; none: nothing is laid yet -/
abbrev LST : Type := Option (List (List Int) × List Int)
/-- the end of the piece that goes on at i: the first blank, or the end -/
def peF (F : Int → Int) : Nat → Int → Int
  | 0, i => i
  | k + 1, i => if F i = 0 then i else peF F k (i + 1)
def pe (F : Int → Int) (m i : Int) : Int := peF F (m - i).toNat i
theorem peF_spec (F : Int → Int) : ∀ (k : Nat) (i : Int), i ≤ peF F k i ∧ peF F k i ≤ i + k ∧ (∀ j, i ≤ j → j < peF F k i → ¬ F j = 0) ∧ (peF F k i < i + k → F (peF F k i) = 0)
  | 0, i => ⟨by simp [peF], by simp [peF], fun j a b => by simp [peF] at b; omega, fun h => by simp [peF] at h⟩
  | k + 1, i => by
    unfold peF
    by_cases h : F i = 0
    · rw [if_pos h]
      exact ⟨by omega, by omega, fun j a b => by omega, fun _ => h⟩
    · rw [if_neg h]
      obtain ⟨a, b, c, d⟩ := peF_spec F k (i + 1)
      refine ⟨by omega, by omega, fun j j0 j1 => ?_, fun q => d (by omega)⟩
      by_cases hj : j = i
      · rw [hj]; exact h
      · exact c j (by omega) j1
theorem pe_spec {F : Int → Int} {m i : Int} (h : i ≤ m) : i ≤ pe F m i ∧ pe F m i ≤ m ∧ (∀ j, i ≤ j → j < pe F m i → ¬ F j = 0) ∧ (pe F m i < m → F (pe F m i) = 0) := by
  obtain ⟨a, b, c, d⟩ := peF_spec F (m - i).toNat i
  exact ⟨a, by unfold pe; omega, c, fun q => d (by unfold pe at q; omega)⟩
theorem pe_eq {F : Int → Int} {m i r : Int} (h : i ≤ r) (h2 : r ≤ m) (h3 : ∀ j, i ≤ j → j < r → ¬ F j = 0) (h4 : r < m → F r = 0) : pe F m i = r := by
  obtain ⟨a, b, c, d⟩ := pe_spec (F := F) (by omega : i ≤ m)
  rcases Int.lt_trichotomy (pe F m i) r with q | q | q
  · exact absurd (d (by omega)) (h3 _ a q)
  · exact q
  · exact absurd (h4 (by omega)) (c r h q)
theorem pe_gt {F : Int → Int} {m i : Int} (h : i < m) (hi : ¬ F i = 0) : i < pe F m i := by
  obtain ⟨a, b, c, d⟩ := pe_spec (F := F) (Int.le_of_lt h)
  rcases Int.lt_or_eq_of_le a with q | q
  · exact q
  · rw [← q] at d; exact absurd (d h) hi
/-- one cell more: on the last line, or on a new one if that is full -/
def lyC (w : Int) (A : List (List Int)) (L : List Int) (c : Int) : List (List Int) × List Int := if w ≤ L.length then (A ++ [L], [c]) else (A, L ++ [c])
def lyR (w : Int) (F : Int → Int) : Nat → Int → List (List Int) × List Int → List (List Int) × List Int
  | 0, _, s => s
  | k + 1, i, s => lyR w F k (i + 1) (lyC w s.1 s.2 (F i))
/-- where a piece of n cells begins -/
def ly0 (w n : Int) (s : LST) : List (List Int) × List Int := match s with
  | none => ([], [])
  | some q => if (q.2.length : Int) + 1 + n ≤ w then (q.1, q.2 ++ [0]) else (q.1 ++ [q.2], [])
def lyP (w : Int) (F : Int → Int) (i b : Int) (s : LST) : LST := some (lyR w F (b - i).toNat i (ly0 w (b - i) s))
def lyF (w : Int) (F : Int → Int) (m : Int) : Nat → Int → LST → LST
  | 0, _, s => s
  | f + 1, i, s => if m ≤ i then s else if F i = 0 then lyF w F m f (i + 1) s else lyF w F m f (pe F m i) (lyP w F i (pe F m i) s)
def ly (w : Int) (F : Int → Int) (m i : Int) (s : LST) : LST := lyF w F m (m - i).toNat i s
theorem lyF_fuel (w : Int) (F : Int → Int) (m : Int) : ∀ (f f2 : Nat) (i : Int) (s : LST), (m - i).toNat ≤ f → (m - i).toNat ≤ f2 → lyF w F m f i s = lyF w F m f2 i s
  | 0, 0, i, s, _, _ => rfl
  | 0, f2 + 1, i, s, h1, _ => by unfold lyF; rw [if_pos (by omega)]
  | f + 1, 0, i, s, _, h2 => by unfold lyF; rw [if_pos (by omega)]
  | f + 1, f2 + 1, i, s, h1, h2 => by
    unfold lyF
    by_cases hb : m ≤ i
    · rw [if_pos hb, if_pos hb]
    · rw [if_neg hb, if_neg hb]
      by_cases hz : F i = 0
      · rw [if_pos hz, if_pos hz, lyF_fuel w F m f f2 _ _ (by omega) (by omega)]
      · have := pe_gt (F := F) (m := m) (i := i) (by omega) hz
        rw [if_neg hz, if_neg hz, lyF_fuel w F m f f2 _ _ (by omega) (by omega)]
theorem ly_end {w : Int} {F : Int → Int} {m i : Int} {s : LST} (h : m ≤ i) : ly w F m i s = s := by
  unfold ly; rw [show (m - i).toNat = 0 by omega]; rfl
theorem ly_blank {w : Int} {F : Int → Int} {m i : Int} {s : LST} (h : i < m) (hz : F i = 0) : ly w F m i s = ly w F m (i + 1) s := by
  unfold ly
  rw [show (m - i).toNat = (m - (i + 1)).toNat + 1 by omega]
  conv => lhs; unfold lyF
  rw [if_neg (by omega), if_pos hz]
theorem ly_piece {w : Int} {F : Int → Int} {m i : Int} {s : LST} (h : i < m) (hz : ¬ F i = 0) : ly w F m i s = ly w F m (pe F m i) (lyP w F i (pe F m i) s) := by
  have := pe_gt h hz
  unfold ly
  rw [show (m - i).toNat = (m - (i + 1)).toNat + 1 by omega]
  conv => lhs; unfold lyF
  rw [if_neg (by omega), if_neg hz, lyF_fuel w F m _ (m - pe F m i).toNat _ _ (by omega) (by omega)]
/-- how many lines -/
def lyN (s : LST) : Int := match s with
  | none => 0
  | some q => (q.1.length : Int) + 1
/-- CELL i of a line; -1: none -/
def lyAt (s : LST) (l i : Nat) : Int := match s with
  | none => -1
  | some q => (((q.1 ++ [q.2])[l]?).getD []).getD i (-1)
/-- what is kept of a laying: no line is empty, none is longer than w, and so many cells -/
def lyOk (w : Int) (c : Int) (s : List (List Int) × List Int) : Prop := (∀ L ∈ s.1, 0 < L.length ∧ (L.length : Int) ≤ w) ∧ (s.2.length : Int) ≤ w ∧ (s.1.flatten.length : Int) + s.2.length ≤ c
theorem len_flat : ∀ (A : List (List Int)), (∀ L ∈ A, 0 < L.length) → A.length ≤ A.flatten.length
  | [], _ => by simp
  | L :: A, h => by
    have := len_flat A (fun L hL => h L (List.mem_cons_of_mem _ hL))
    have := h L List.mem_cons_self
    simp only [List.length_cons, List.flatten_cons, List.length_append]
    omega
theorem lyC_ok {w c : Int} {A : List (List Int)} {L : List Int} (h : lyOk w c (A, L)) (hw : 1 ≤ w) (x : Int) : lyOk w (c + 1) (lyC w A L x) ∧ 0 < (lyC w A L x).2.length := by
  obtain ⟨h1, h2, h3⟩ := h
  unfold lyC
  simp only at h1 h2 h3
  by_cases q : w ≤ L.length
  · rw [if_pos q]
    refine ⟨⟨fun K hK => ?_, by simp; omega, by simp only [List.flatten_append, List.length_append, List.flatten_cons, List.flatten_nil, List.length_cons, List.length_nil]; omega⟩, by simp⟩
    rcases List.mem_append.mp hK with z | z
    · exact h1 K z
    · rw [List.mem_singleton.mp z]; omega
  · rw [if_neg q]
    exact ⟨⟨h1, by simp; omega, by simp only [List.flatten_append, List.length_append, List.flatten_cons, List.flatten_nil, List.length_cons, List.length_nil]; omega⟩, by simp⟩
theorem lyR_ok {w : Int} (hw : 1 ≤ w) (F : Int → Int) : ∀ (k : Nat) (i c : Int) (s : List (List Int) × List Int), lyOk w c s → lyOk w (c + k) (lyR w F k i s) ∧ (0 < s.2.length ∨ 0 < k → 0 < (lyR w F k i s).2.length)
  | 0, i, c, s, h => ⟨by rw [show c + ((0 : Nat) : Int) = c by omega]; exact h, fun q => by rcases q with q | q; exact q; omega⟩
  | k + 1, i, c, s, h => by
    obtain ⟨a, b⟩ := lyC_ok (A := s.1) (L := s.2) h hw (F i)
    obtain ⟨a2, b2⟩ := lyR_ok hw F k (i + 1) (c + 1) _ a
    unfold lyR
    refine ⟨by rw [show c + ((k + 1 : Nat) : Int) = c + 1 + k by omega]; exact a2, fun _ => b2 (Or.inl b)⟩
end
section
/-! Layout -/
/-- the Layout's rows say: these lines -/
def LX (w : Int) (A : List (List Int)) (L : List Int) (M : Mem) : Prop := M 16 2 = (A.length : Int) + 1 ∧ M 16 3 = (A.flatten.length : Int) + L.length ∧ M 16 4 = w ∧ (∀ j : Nat, j < A.flatten.length + L.length → M 17 j = (A.flatten ++ L).getD j 0) ∧ ∀ l : Nat, l ≤ A.length → M 18 l = ((A.take l).flatten.length : Int)
def LX0 (w : Int) (M : Mem) : Prop := M 16 2 = 0 ∧ M 16 3 = 0 ∧ M 16 4 = w
def LXs (w : Int) (s : LST) (M : Mem) : Prop := match s with
  | none => LX0 w M
  | some q => LX w q.1 q.2 M
def bgL (M : Mem) : Mem := mup (mup M 18 (M 16 2).toNat (M 16 3)) 16 2 (M 16 2 + 1)
def adL (M : Mem) (c : Int) : Mem := mup (mup M 17 (M 16 3).toNat c) 16 3 (M 16 3 + 1)
theorem LX_bg {w : Int} {A : List (List Int)} {L : List Int} {M : Mem} (h : LX w A L M) : LX w (A ++ [L]) [] (bgL M) := by
  obtain ⟨h1, h2, h3, h4, h5⟩ := h
  have hf : (A ++ [L]).flatten = A.flatten ++ L := by simp
  refine ⟨by simp [bgL, mup_at, h1], ?_, by simp [bgL, mup_at, h3], fun j hj => ?_, fun l hl => ?_⟩
  · rw [hf]; simp only [List.length_append, List.length_nil]; simp [bgL, mup_at, h2]
  · rw [hf] at hj ⊢
    rw [List.append_nil]
    simp only [List.length_append, List.length_nil] at hj
    have e : bgL M 17 j = M 17 j := by simp [bgL, mup_at]
    rw [e]; exact h4 j (by omega)
  · rw [List.length_append] at hl
    simp only [List.length_cons, List.length_nil] at hl
    by_cases q : l = A.length + 1
    · have e : bgL M 18 l = M 16 3 := by
        have : l = (M 16 2).toNat := by omega
        simp [bgL, mup_at, this]
      rw [e, h2, List.take_of_length_le (by simp; omega), hf, List.length_append]; omega
    · have e : bgL M 18 l = M 18 l := by
        have : ¬ l = (M 16 2).toNat := by omega
        simp [bgL, mup_at, this]
      rw [e, h5 l (by omega), List.take_append_of_le_length (by omega)]
theorem LX_bg0 {w : Int} {M : Mem} (h : LX0 w M) : LX w [] [] (bgL M) := by
  obtain ⟨h1, h2, h3⟩ := h
  refine ⟨by simp [bgL, mup_at, h1], by simp [bgL, mup_at, h2], by simp [bgL, mup_at, h3], fun j hj => by simp at hj, fun l hl => ?_⟩
  have : l = 0 := by simpa using hl
  subst this
  simp [bgL, mup_at, h1, h2]
theorem LX_ad {w : Int} {A : List (List Int)} {L : List Int} {M : Mem} (h : LX w A L M) (c : Int) : LX w A (L ++ [c]) (adL M c) := by
  obtain ⟨h1, h2, h3, h4, h5⟩ := h
  refine ⟨by simp [adL, mup_at, h1], ?_, by simp [adL, mup_at, h3], fun j hj => ?_, fun l hl => ?_⟩
  · have e : adL M c 16 3 = M 16 3 + 1 := by simp [adL, mup_at]
    rw [e, h2]; simp only [List.length_append, List.length_cons, List.length_nil]; omega
  · simp only [List.length_append, List.length_cons, List.length_nil] at hj
    rw [← List.append_assoc]
    by_cases q : j = A.flatten.length + L.length
    · have e : adL M c 17 j = c := by
        have : j = (M 16 3).toNat := by omega
        simp [adL, mup_at, this]
      rw [e, List.getD_eq_getElem?_getD, List.getElem?_append_right (by rw [List.length_append]; omega), List.length_append, show j - (A.flatten.length + L.length) = 0 by omega]
      rfl
    · have e : adL M c 17 j = M 17 j := by
        have : ¬ j = (M 16 3).toNat := by omega
        simp [adL, mup_at, this]
      rw [e, h4 j (by omega), List.getD_eq_getElem?_getD, List.getD_eq_getElem?_getD, List.getElem?_append_left (l₁ := A.flatten ++ L) (l₂ := [c]) (by rw [List.length_append]; omega)]
  · have e : adL M c 18 l = M 18 l := by simp [adL, mup_at]
    rw [e]; exact h5 l hl
def sp_X2_beginLine : SP := fun av M Ret => av = [mr 16] ∧ (0 ≤ M 16 2 ∧ M 16 2 < 240) ∧ (∀ M2 : Mem, (M2 = bgL M) → Ret none M2)
theorem k_X2_beginLine {code : List Sem} {Z : KZ} {Ret : KR} {ls : List (Option MV)} {M : Mem} {r : List MV} (hZ : Sim code Z Ret) (ip np : Nat)  (hc : code[ip]? = some (I_callV 2 0 sp_X2_beginLine)) (hn : ip + 1 = np) (h3 : catS r ≤ 8)  (hp : 0 ≤ M 16 2 ∧ M 16 2 < 240) (kz : ∀ M2 : Mem, (M2 = bgL M) → Z np ls r M2) : Z ip ls (mr 16 :: r) M := w_callV0 hZ ip np hc hn rfl rfl h3 ⟨rfl, hp, fun M2 h => kz M2 h⟩
def cd_X2_beginLine : List Sem := [I_aload 0, I_get 2 2, I_const (240), I_cge 17, I_aload 0, I_get 2 1, I_aload 0, I_get 2 2, I_aload 0, I_get 2 3, I_iast, I_aload 0, I_dup, I_get 2 2, I_const (1), I_add, I_puti 2 2, I_vret]
def pc_X2_beginLine : List Nat := [0, 1, 4, 7, 10, 11, 14, 15, 18, 19, 22, 23, 24, 25, 28, 29, 30, 33]
set_option maxRecDepth 100000 in
set_option maxHeartbeats 4000000 in
theorem b_X2_beginLine  (M : Mem) (Ret : KR) (hp : 0 ≤ M 16 2 ∧ M 16 2 < 240) (hR : ∀ M2 : Mem, (M2 = bgL M) → Ret none M2) (hM : MOk M) (Z : KZ) (hZ : Sim cd_X2_beginLine Z Ret) : Z 0 [some (mr 16)] [] M := by
  obtain ⟨a1, a2⟩ := hp
  refine w_aload hZ 0 1 rfl rfl rfl ?_
  refine w_geti hZ 1 2 rfl rfl rfl rfl rfl ?_
  refine w_const hZ 2 3 rfl rfl  ?_
  refine w_cge hZ 3 4 rfl rfl (fun c3 => absurd c3 (by omega)) (fun c3 => ?_)
  refine w_aload hZ 4 5 rfl rfl rfl ?_
  refine w_getr hZ 5 6 rfl rfl rfl rfl rfl ?_
  refine w_aload hZ 6 7 rfl rfl rfl ?_
  refine w_geti hZ 7 8 rfl rfl rfl rfl rfl ?_
  refine w_aload hZ 8 9 rfl rfl rfl ?_
  refine w_geti hZ 9 10 rfl rfl rfl rfl rfl ?_
  refine w_iast hZ 10 11 rfl rfl rfl (by omega) (by omega) ?_
  refine w_aload hZ 11 12 rfl rfl rfl ?_
  refine w_dup hZ 12 13 rfl rfl rfl ?_
  refine w_getiv hZ 13 14 rfl rfl rfl rfl rfl (v := M 16 2) rfl ?_
  refine w_const hZ 14 15 rfl rfl  ?_
  refine w_add hZ 15 16 rfl rfl (by unfold InR; omega) ?_
  refine w_puti hZ 16 17 rfl rfl rfl rfl rfl ?_
  refine w_vret hZ 17 rfl ?_
  exact hR _ rfl
set_option maxRecDepth 100000 in
set_option maxHeartbeats 4000000 in
theorem ao_X2_beginLine : AllOk yX2_beginLine.cls cX2_beginLine 1 0 0 none none pc_X2_beginLine 0 cd_X2_beginLine := ⟨s_aload_n (k := 0) (by decide +kernel) rfl rfl, ⟨s_get (C := RX2) (T := TX2) (N := 5) rfl inT2 (by decide) tw_1_138 (by decide +kernel) rfl, ⟨s_sipush (by decide +kernel) rfl ⟨by decide, by decide⟩ (by decide +kernel), ⟨s_cge (off := (26)) (by decide +kernel) rfl rfl, ⟨s_aload_n (k := 0) (by decide +kernel) rfl rfl, ⟨s_get (C := RX2) (T := TX2) (N := 5) rfl inT2 (by decide) tw_1_137 (by decide +kernel) rfl, ⟨s_aload_n (k := 0) (by decide +kernel) rfl rfl, ⟨s_get (C := RX2) (T := TX2) (N := 5) rfl inT2 (by decide) tw_1_138 (by decide +kernel) rfl, ⟨s_aload_n (k := 0) (by decide +kernel) rfl rfl, ⟨s_get (C := RX2) (T := TX2) (N := 5) rfl inT2 (by decide) tw_1_139 (by decide +kernel) rfl, ⟨s_iast (by decide +kernel) rfl, ⟨s_aload_n (k := 0) (by decide +kernel) rfl rfl, ⟨s_dup (by decide +kernel) rfl, ⟨s_get (C := RX2) (T := TX2) (N := 5) rfl inT2 (by decide) tw_1_138 (by decide +kernel) rfl, ⟨s_iconst (by decide +kernel) rfl ⟨by decide, by decide⟩, ⟨s_add (by decide +kernel) rfl, ⟨s_puti (C := RX2) (T := TX2) (N := 5) (tyf := tyX2) rfl inT2 tyX2_ok nmX2 (by decide) rfl rfl tw_1_138 (by decide +kernel) rfl, ⟨s_vret rfl (by decide +kernel), trivial⟩⟩⟩⟩⟩⟩⟩⟩⟩⟩⟩⟩⟩⟩⟩⟩⟩⟩
theorem ct_X2_beginLine : Ctr yX2_beginLine cX2_beginLine 1 none 0 0 sp_X2_beginLine := by
  refine ctr_of (by decide +kernel) ao_X2_beginLine rfl ?_
  rintro av M Ret ⟨rfl, hp, hR⟩ hok hM
  exact ⟨Nat.le_of_ble_eq_true rfl, fun Z hZ => b_X2_beginLine   M Ret hp hR hM Z hZ⟩
def sp_X2_addLaid : SP := fun av M Ret => ∃ c : Int, av = [mr 16, mi c] ∧ (0 ≤ M 16 3 ∧ M 16 3 < 240) ∧ (∀ M2 : Mem, (M2 = adL M c) → Ret none M2)
theorem k_X2_addLaid {code : List Sem} {Z : KZ} {Ret : KR} {ls : List (Option MV)} {M : Mem} {r : List MV} (hZ : Sim code Z Ret) (ip np : Nat) {c : Int} (hc : code[ip]? = some (I_callV 2 1 sp_X2_addLaid)) (hn : ip + 1 = np) (h3 : catS r ≤ 8)  (hp : 0 ≤ M 16 3 ∧ M 16 3 < 240) (kz : ∀ M2 : Mem, (M2 = adL M c) → Z np ls r M2) : Z ip ls (mi c :: mr 16 :: r) M := w_callV1 hZ ip np hc hn rfl rfl h3 ⟨_, rfl, hp, fun M2 h => kz M2 h⟩
def cd_X2_addLaid : List Sem := [I_aload 0, I_get 2 3, I_const (240), I_cge 16, I_aload 0, I_get 2 0, I_aload 0, I_get 2 3, I_iload 1, I_iast, I_aload 0, I_dup, I_get 2 3, I_const (1), I_add, I_puti 2 3, I_vret]
def pc_X2_addLaid : List Nat := [0, 1, 4, 7, 10, 11, 14, 15, 18, 19, 20, 21, 22, 25, 26, 27, 30]
set_option maxRecDepth 100000 in
set_option maxHeartbeats 4000000 in
theorem b_X2_addLaid (c : Int) (i_c : InR c) (M : Mem) (Ret : KR) (hp : 0 ≤ M 16 3 ∧ M 16 3 < 240) (hR : ∀ M2 : Mem, (M2 = adL M c) → Ret none M2) (hM : MOk M) (Z : KZ) (hZ : Sim cd_X2_addLaid Z Ret) : Z 0 [some (mr 16), some (mi c)] [] M := by
  obtain ⟨a1, a2⟩ := hp
  refine w_aload hZ 0 1 rfl rfl rfl ?_
  refine w_geti hZ 1 2 rfl rfl rfl rfl rfl ?_
  refine w_const hZ 2 3 rfl rfl  ?_
  refine w_cge hZ 3 4 rfl rfl (fun c3 => absurd c3 (by omega)) (fun c3 => ?_)
  refine w_aload hZ 4 5 rfl rfl rfl ?_
  refine w_getr hZ 5 6 rfl rfl rfl rfl rfl ?_
  refine w_aload hZ 6 7 rfl rfl rfl ?_
  refine w_geti hZ 7 8 rfl rfl rfl rfl rfl ?_
  refine w_iload hZ 8 9 rfl rfl rfl ?_
  refine w_iast hZ 9 10 rfl rfl rfl (by omega) (by omega) ?_
  refine w_aload hZ 10 11 rfl rfl rfl ?_
  refine w_dup hZ 11 12 rfl rfl rfl ?_
  refine w_getiv hZ 12 13 rfl rfl rfl rfl rfl (v := M 16 3) rfl ?_
  refine w_const hZ 13 14 rfl rfl  ?_
  refine w_add hZ 14 15 rfl rfl (by unfold InR; omega) ?_
  refine w_puti hZ 15 16 rfl rfl rfl rfl rfl ?_
  refine w_vret hZ 16 rfl ?_
  exact hR _ rfl
set_option maxRecDepth 100000 in
set_option maxHeartbeats 4000000 in
theorem ao_X2_addLaid : AllOk yX2_addLaid.cls cX2_addLaid 2 0 0 none none pc_X2_addLaid 0 cd_X2_addLaid := ⟨s_aload_n (k := 0) (by decide +kernel) rfl rfl, ⟨s_get (C := RX2) (T := TX2) (N := 5) rfl inT2 (by decide) tw_1_139 (by decide +kernel) rfl, ⟨s_sipush (by decide +kernel) rfl ⟨by decide, by decide⟩ (by decide +kernel), ⟨s_cge (off := (23)) (by decide +kernel) rfl rfl, ⟨s_aload_n (k := 0) (by decide +kernel) rfl rfl, ⟨s_get (C := RX2) (T := TX2) (N := 5) rfl inT2 (by decide) tw_1_136 (by decide +kernel) rfl, ⟨s_aload_n (k := 0) (by decide +kernel) rfl rfl, ⟨s_get (C := RX2) (T := TX2) (N := 5) rfl inT2 (by decide) tw_1_139 (by decide +kernel) rfl, ⟨s_iload_n (k := 1) (by decide +kernel) rfl rfl, ⟨s_iast (by decide +kernel) rfl, ⟨s_aload_n (k := 0) (by decide +kernel) rfl rfl, ⟨s_dup (by decide +kernel) rfl, ⟨s_get (C := RX2) (T := TX2) (N := 5) rfl inT2 (by decide) tw_1_139 (by decide +kernel) rfl, ⟨s_iconst (by decide +kernel) rfl ⟨by decide, by decide⟩, ⟨s_add (by decide +kernel) rfl, ⟨s_puti (C := RX2) (T := TX2) (N := 5) (tyf := tyX2) rfl inT2 tyX2_ok nmX2 (by decide) rfl rfl tw_1_139 (by decide +kernel) rfl, ⟨s_vret rfl (by decide +kernel), trivial⟩⟩⟩⟩⟩⟩⟩⟩⟩⟩⟩⟩⟩⟩⟩⟩⟩
theorem ct_X2_addLaid : Ctr yX2_addLaid cX2_addLaid 2 none 0 0 sp_X2_addLaid := by
  refine ctr_of (by decide +kernel) ao_X2_addLaid rfl ?_
  rintro av M Ret ⟨c, rfl, hp, hR⟩ hok hM
  exact ⟨Nat.le_of_ble_eq_true rfl, fun Z hZ => b_X2_addLaid  c (hok _ (List.mem_of_getElem? (i := 1) rfl)) M Ret hp hR hM Z hZ⟩
def sp_X2_lengthOfLast : SP := fun av M Ret => av = [mr 16] ∧ (0 < M 16 2 ∧ M 16 2 ≤ 240 ∧ 0 ≤ M 18 (M 16 2 - 1).toNat ∧ 0 ≤ M 16 3 ∧ M 16 3 ≤ 240) ∧ (Ret (some (mi (M 16 3 - M 18 (M 16 2 - 1).toNat))) M)
theorem k_X2_lengthOfLast {code : List Sem} {Z : KZ} {Ret : KR} {ls : List (Option MV)} {M : Mem} {r : List MV} (hZ : Sim code Z Ret) (ip np : Nat)  (hc : code[ip]? = some (I_callV 2 0 sp_X2_lengthOfLast)) (hn : ip + 1 = np) (h3 : catS r ≤ 8)  (hp : 0 < M 16 2 ∧ M 16 2 ≤ 240 ∧ 0 ≤ M 18 (M 16 2 - 1).toNat ∧ 0 ≤ M 16 3 ∧ M 16 3 ≤ 240) (kz : Z np ls (mi (M 16 3 - M 18 (M 16 2 - 1).toNat) :: r) M) : Z ip ls (mr 16 :: r) M := w_callV0 hZ ip np hc hn rfl rfl h3 ⟨rfl, hp, kz⟩
def cd_X2_lengthOfLast : List Sem := [I_aload 0, I_get 2 2, I_ifle 14, I_aload 0, I_get 2 3, I_aload 0, I_get 2 1, I_aload 0, I_get 2 2, I_const (1), I_sub, I_iald, I_sub, I_goto 15, I_const (0), I_iret]
def pc_X2_lengthOfLast : List Nat := [0, 1, 4, 7, 8, 11, 12, 15, 16, 19, 20, 21, 22, 23, 26, 27]
set_option maxRecDepth 100000 in
set_option maxHeartbeats 4000000 in
theorem b_X2_lengthOfLast  (M : Mem) (Ret : KR) (hp : 0 < M 16 2 ∧ M 16 2 ≤ 240 ∧ 0 ≤ M 18 (M 16 2 - 1).toNat ∧ 0 ≤ M 16 3 ∧ M 16 3 ≤ 240) (hR : Ret (some (mi (M 16 3 - M 18 (M 16 2 - 1).toNat))) M) (hM : MOk M) (Z : KZ) (hZ : Sim cd_X2_lengthOfLast Z Ret) : Z 0 [some (mr 16)] [] M := by
  obtain ⟨a1, a2, a3, a4, a5⟩ := hp
  have a6 := (hM 18 (M 16 2 - 1).toNat rfl).2
  refine w_aload hZ 0 1 rfl rfl rfl ?_
  refine w_geti hZ 1 2 rfl rfl rfl rfl rfl ?_
  refine w_ifle hZ 2 3 rfl rfl (fun c2 => absurd c2 (by omega)) (fun c2 => ?_)
  refine w_aload hZ 3 4 rfl rfl rfl ?_
  refine w_geti hZ 4 5 rfl rfl rfl rfl rfl ?_
  refine w_aload hZ 5 6 rfl rfl rfl ?_
  refine w_getr hZ 6 7 rfl rfl rfl rfl rfl ?_
  refine w_aload hZ 7 8 rfl rfl rfl ?_
  refine w_geti hZ 8 9 rfl rfl rfl rfl rfl ?_
  refine w_const hZ 9 10 rfl rfl  ?_
  refine w_sub hZ 10 11 rfl rfl (by unfold InR; omega) ?_
  refine w_iald hZ 11 12 rfl rfl rfl (by omega) (by omega) ?_
  refine w_sub hZ 12 13 rfl rfl (by unfold InR; omega) ?_
  refine w_goto hZ 13 15 rfl ?_
  refine w_iret hZ 15 rfl ?_
  exact hR
set_option maxRecDepth 100000 in
set_option maxHeartbeats 4000000 in
theorem ao_X2_lengthOfLast : AllOk yX2_lengthOfLast.cls cX2_lengthOfLast 1 0 0 (some .int) none pc_X2_lengthOfLast 0 cd_X2_lengthOfLast := ⟨s_aload_n (k := 0) (by decide +kernel) rfl rfl, ⟨s_get (C := RX2) (T := TX2) (N := 5) rfl inT2 (by decide) tw_1_138 (by decide +kernel) rfl, ⟨s_ifle (off := (22)) (by decide +kernel) rfl rfl, ⟨s_aload_n (k := 0) (by decide +kernel) rfl rfl, ⟨s_get (C := RX2) (T := TX2) (N := 5) rfl inT2 (by decide) tw_1_139 (by decide +kernel) rfl, ⟨s_aload_n (k := 0) (by decide +kernel) rfl rfl, ⟨s_get (C := RX2) (T := TX2) (N := 5) rfl inT2 (by decide) tw_1_137 (by decide +kernel) rfl, ⟨s_aload_n (k := 0) (by decide +kernel) rfl rfl, ⟨s_get (C := RX2) (T := TX2) (N := 5) rfl inT2 (by decide) tw_1_138 (by decide +kernel) rfl, ⟨s_iconst (by decide +kernel) rfl ⟨by decide, by decide⟩, ⟨s_sub (by decide +kernel) rfl, ⟨s_iald (by decide +kernel) rfl, ⟨s_sub (by decide +kernel) rfl, ⟨s_goto (off := (4)) (by decide +kernel) rfl, ⟨s_iconst (by decide +kernel) rfl ⟨by decide, by decide⟩, ⟨s_iret rfl (by decide +kernel), trivial⟩⟩⟩⟩⟩⟩⟩⟩⟩⟩⟩⟩⟩⟩⟩⟩
theorem ct_X2_lengthOfLast : Ctr yX2_lengthOfLast cX2_lengthOfLast 1 (some .int) 0 0 sp_X2_lengthOfLast := by
  refine ctr_of (by decide +kernel) ao_X2_lengthOfLast rfl ?_
  rintro av M Ret ⟨rfl, hp, hR⟩ hok hM
  exact ⟨Nat.le_of_ble_eq_true rfl, fun Z hZ => b_X2_lengthOfLast   M Ret hp hR hM Z hZ⟩
def sp_X2_endOfPiece : SP := fun av M Ret => ∃ i : Int, ∃ m : Int, av = [mr 11, mi i, mi m] ∧ (0 ≤ i ∧ i ≤ m ∧ m ≤ 240) ∧ (Ret (some (mi (pe (sgn m (M 11)) m i))) M)
theorem k_X2_endOfPiece {code : List Sem} {Z : KZ} {Ret : KR} {ls : List (Option MV)} {M : Mem} {r : List MV} (hZ : Sim code Z Ret) (ip np : Nat) {i m : Int} (hc : code[ip]? = some (I_callS 3 sp_X2_endOfPiece)) (hn : ip + 1 = np) (h3 : catS r ≤ 8)  (hp : 0 ≤ i ∧ i ≤ m ∧ m ≤ 240) (kz : Z np ls (mi (pe (sgn m (M 11)) m i) :: r) M) : Z ip ls (mi m :: mi i :: mr 11 :: r) M := w_callS3 hZ ip np hc hn h3 ⟨_, _, rfl, hp, kz⟩
def cd_X2_endOfPiece : List Sem := [I_iload 1, I_istore 3, I_iload 3, I_iload 2, I_cge 13, I_aload 0, I_iload 3, I_iald, I_ifne 11, I_iload 3, I_iret, I_iinc 3 (1), I_goto 2, I_iload 2, I_iret]
def pc_X2_endOfPiece : List Nat := [0, 1, 2, 3, 4, 7, 8, 9, 10, 13, 14, 15, 18, 21, 22]
set_option maxRecDepth 100000 in
set_option maxHeartbeats 4000000 in
theorem b_X2_endOfPiece (i : Int) (i_i : InR i) (m : Int) (i_m : InR m) (M : Mem) (Ret : KR) (hp : 0 ≤ i ∧ i ≤ m ∧ m ≤ 240) (hR : Ret (some (mi (pe (sgn m (M 11)) m i))) M) (hM : MOk M) (Z : KZ) (hZ : Sim cd_X2_endOfPiece Z Ret) : Z 0 [some (mr 11), some (mi i), some (mi m), none] [] M := by
  obtain ⟨a1, a2, a3⟩ := hp
  have loop : ∀ (d : Nat) (j : Int), d = (m - j).toNat → i ≤ j → j ≤ m → (∀ x, i ≤ x → x < j → ¬ sgn m (M 11) x = 0) → Z 2 [some (mr 11), some (mi i), some (mi m), some (mi j)] [] M := by
    intro d
    induction d using Nat.strongRecOn with
    | ind d ih =>
      intro j hd h0 h1 hx
      refine w_iload hZ 2 3 rfl rfl rfl ?_
      refine w_iload hZ 3 4 rfl rfl rfl ?_
      refine w_cge hZ 4 5 rfl rfl (fun c4 => ?_) (fun c4 => ?_)
      · refine w_iload hZ 13 14 rfl rfl rfl ?_
        refine w_iret hZ 14 rfl ?_
        exact ret_i hR (pe_eq a2 (Int.le_refl _) (fun x x0 x1 => hx x x0 (by omega)) (fun q => absurd q (Int.lt_irrefl _)))
      · refine w_aload hZ 5 6 rfl rfl rfl ?_
        refine w_iload hZ 6 7 rfl rfl rfl ?_
        refine w_ialdv hZ 7 8 rfl rfl rfl (by omega) (by omega) (v := sgn m (M 11) j) (sgn_in (by omega) (by omega)).symm ?_
        refine w_ifne hZ 8 9 rfl rfl (fun c8 => ?_) (fun c8 => ?_)
        · refine w_in4_3 hZ 11 12 rfl rfl rfl (by unfold InR; omega) ?_
          refine w_goto hZ 12 2 rfl ?_
          refine ih ((m - (j + 1)).toNat) (by omega) (j + 1) rfl (by omega) (by omega) (fun x x0 x1 => ?_)
          by_cases q : x = j
          · rw [q]; exact c8
          · exact hx x x0 (by omega)
        · refine w_iload hZ 9 10 rfl rfl rfl ?_
          refine w_iret hZ 10 rfl ?_
          exact ret_i hR (pe_eq h0 h1 hx (fun _ => c8))
  refine w_iload hZ 0 1 rfl rfl rfl ?_
  refine w_st4_3 hZ 1 2 rfl rfl rfl ?_
  exact loop _ i rfl (Int.le_refl _) a2 (fun x x0 x1 => by omega)
set_option maxRecDepth 100000 in
set_option maxHeartbeats 4000000 in
theorem ao_X2_endOfPiece : AllOk yX2_endOfPiece.cls cX2_endOfPiece 4 0 0 (some .int) none pc_X2_endOfPiece 0 cd_X2_endOfPiece := ⟨s_iload_n (k := 1) (by decide +kernel) rfl rfl, ⟨s_istore_n (k := 3) (by decide +kernel) rfl rfl, ⟨s_iload_n (k := 3) (by decide +kernel) rfl rfl, ⟨s_iload_n (k := 2) (by decide +kernel) rfl rfl, ⟨s_cge (off := (17)) (by decide +kernel) rfl rfl, ⟨s_aload_n (k := 0) (by decide +kernel) rfl rfl, ⟨s_iload_n (k := 3) (by decide +kernel) rfl rfl, ⟨s_iald (by decide +kernel) rfl, ⟨s_ifne (off := (5)) (by decide +kernel) rfl rfl, ⟨s_iload_n (k := 3) (by decide +kernel) rfl rfl, ⟨s_iret rfl (by decide +kernel), ⟨s_iinc (by decide +kernel) rfl, ⟨s_goto (off := (-16)) (by decide +kernel) rfl, ⟨s_iload_n (k := 2) (by decide +kernel) rfl rfl, ⟨s_iret rfl (by decide +kernel), trivial⟩⟩⟩⟩⟩⟩⟩⟩⟩⟩⟩⟩⟩⟩⟩
theorem ct_X2_endOfPiece : Ctr yX2_endOfPiece cX2_endOfPiece 4 (some .int) 0 0 sp_X2_endOfPiece := by
  refine ctr_of (by decide +kernel) ao_X2_endOfPiece rfl ?_
  rintro av M Ret ⟨i, m, rfl, hp, hR⟩ hok hM
  exact ⟨Nat.le_of_ble_eq_true rfl, fun Z hZ => b_X2_endOfPiece  i (hok _ (List.mem_of_getElem? (i := 1) rfl)) m (hok _ (List.mem_of_getElem? (i := 2) rfl)) M Ret hp hR hM Z hZ⟩
def lnS (s : LST) : Int := match s with
  | none => 0
  | some q => (q.1.flatten.length : Int) + q.2.length
def sOk (w : Int) (s : LST) : Prop := match s with
  | none => True
  | some q => lyOk w (lnS (some q)) q ∧ 0 < q.2.length
abbrev rwF (M : Mem) : Int → Int := fun x => M 11 x.toNat
theorem lyR_congr (w : Int) {F G : Int → Int} : ∀ (k : Nat) (i : Int) (s : List (List Int) × List Int), (∀ j, i ≤ j → j < i + k → F j = G j) → lyR w F k i s = lyR w G k i s
  | 0, i, s, _ => rfl
  | k + 1, i, s, h => by
    unfold lyR
    rw [h i (by omega) (by omega)]
    exact lyR_congr w k (i + 1) _ (fun j j0 j1 => h j (by omega) (by omega))
theorem LX.last {w : Int} {A : List (List Int)} {L : List Int} {M : Mem} (h : LX w A L M) : M 18 (M 16 2 - 1).toNat = (A.flatten.length : Int) := by
  have e : (M 16 2 - 1).toNat = A.length := by rw [h.1]; omega
  rw [e, h.2.2.2.2 A.length (Nat.le_refl _), List.take_length]
theorem LX.same {w : Int} {A : List (List Int)} {L : List Int} {M N : Mem} (h : LX w A L M) (h1 : N 16 = M 16) (h2 : N 17 = M 17) (h3 : N 18 = M 18) : LX w A L N := by
  unfold LX; rw [h1, h2, h3]; exact h
theorem flat_at : ∀ (X : List (List Int)) (l i : Nat) (K : List Int), X[l]? = some K → i < K.length → X.flatten[(X.take l).flatten.length + i]? = K[i]? ∧ (X.take (l + 1)).flatten.length = (X.take l).flatten.length + K.length
  | [], l, i, K, h, _ => by simp at h
  | Y :: X, 0, i, K, h, hi => by
    simp at h; subst h
    refine ⟨?_, by simp⟩
    simp only [List.take_zero, List.flatten_nil, List.length_nil, Nat.zero_add, List.flatten_cons]
    exact List.getElem?_append_left hi
  | Y :: X, l + 1, i, K, h, hi => by
    have h' : X[l]? = some K := by simpa using h
    obtain ⟨a, b⟩ := flat_at X l i K h' hi
    simp only [List.take_succ_cons, List.flatten_cons, List.length_append]
    refine ⟨?_, by omega⟩
    rw [List.getElem?_append_right (by omega), show Y.length + (X.take l).flatten.length + i - Y.length = (X.take l).flatten.length + i by omega]
    exact a
theorem take_len : ∀ (X : List (List Int)) (l : Nat) (K : List Int), X[l]? = some K → (X.take (l + 1)).flatten.length = (X.take l).flatten.length + K.length
  | [], l, K, h => by simp at h
  | Y :: X, 0, K, h => by simp at h; subst h; simp
  | Y :: X, l + 1, K, h => by
    have h' : X[l]? = some K := by simpa using h
    have := take_len X l K h'
    simp only [List.take_succ_cons, List.flatten_cons, List.length_append]
    omega
def sp_X2_layPiece : SP := fun av M Ret => ∃ s : LST, ∃ i : Int, ∃ b : Int, av = [mr 16, mr 11, mi i, mi b] ∧ (LXs (M 16 4) s M ∧ sOk (M 16 4) s ∧ 4 ≤ M 16 4 ∧ M 16 4 ≤ 40 ∧ 0 ≤ i ∧ i < b ∧ b ≤ 240 ∧ lnS s + (if s = none then 0 else 1) + (b - i) ≤ 240) ∧ (∀ M2 : Mem, (LXs (M 16 4) (lyP (M 16 4) (rwF M) i b s) M2 ∧ sOk (M 16 4) (lyP (M 16 4) (rwF M) i b s) ∧ lnS (lyP (M 16 4) (rwF M) i b s) ≤ lnS s + (if s = none then 0 else 1) + (b - i) ∧ ∀ k, k < 16 ∨ 18 < k → M2 k = M k) → Ret none M2)
theorem k_X2_layPiece {code : List Sem} {Z : KZ} {Ret : KR} {ls : List (Option MV)} {M : Mem} {r : List MV} (hZ : Sim code Z Ret) (ip np : Nat) {s : LST} {i b : Int} (hc : code[ip]? = some (I_callV 2 3 sp_X2_layPiece)) (hn : ip + 1 = np) (h3 : catS r ≤ 8)  (hp : LXs (M 16 4) s M ∧ sOk (M 16 4) s ∧ 4 ≤ M 16 4 ∧ M 16 4 ≤ 40 ∧ 0 ≤ i ∧ i < b ∧ b ≤ 240 ∧ lnS s + (if s = none then 0 else 1) + (b - i) ≤ 240) (kz : ∀ M2 : Mem, (LXs (M 16 4) (lyP (M 16 4) (rwF M) i b s) M2 ∧ sOk (M 16 4) (lyP (M 16 4) (rwF M) i b s) ∧ lnS (lyP (M 16 4) (rwF M) i b s) ≤ lnS s + (if s = none then 0 else 1) + (b - i) ∧ ∀ k, k < 16 ∨ 18 < k → M2 k = M k) → Z np ls r M2) : Z ip ls (mi b :: mi i :: mr 11 :: mr 16 :: r) M := w_callV3 hZ ip np hc hn rfl rfl h3 ⟨_, _, _, rfl, hp, fun M2 h => kz M2 h⟩
def cd_X2_layPiece : List Sem := [I_aload 0, I_get 2 2, I_ifle 18, I_aload 0, I_callV 2 0 sp_X2_lengthOfLast, I_const (1), I_add, I_iload 3, I_add, I_iload 2, I_sub, I_aload 0, I_get 2 4, I_cgt 18, I_aload 0, I_const (0), I_callV 2 1 sp_X2_addLaid, I_goto 20, I_aload 0, I_callV 2 0 sp_X2_beginLine, I_iload 2, I_istore 4, I_iload 4, I_iload 3, I_cge 39, I_aload 0, I_callV 2 0 sp_X2_lengthOfLast, I_aload 0, I_get 2 4, I_clt 32, I_aload 0, I_callV 2 0 sp_X2_beginLine, I_aload 0, I_aload 1, I_iload 4, I_iald, I_callV 2 1 sp_X2_addLaid, I_iinc 4 (1), I_goto 22, I_vret]
def pc_X2_layPiece : List Nat := [0, 1, 4, 7, 8, 11, 12, 13, 14, 15, 16, 17, 18, 21, 24, 25, 26, 29, 32, 33, 36, 37, 39, 41, 42, 45, 46, 49, 50, 53, 56, 57, 60, 61, 62, 64, 65, 68, 71, 74]
set_option maxRecDepth 100000 in
set_option maxHeartbeats 4000000 in
theorem b_X2_layPiece (s : LST) (i : Int) (i_i : InR i) (b : Int) (i_b : InR b) (M : Mem) (Ret : KR) (hp : LXs (M 16 4) s M ∧ sOk (M 16 4) s ∧ 4 ≤ M 16 4 ∧ M 16 4 ≤ 40 ∧ 0 ≤ i ∧ i < b ∧ b ≤ 240 ∧ lnS s + (if s = none then 0 else 1) + (b - i) ≤ 240) (hR : ∀ M2 : Mem, (LXs (M 16 4) (lyP (M 16 4) (rwF M) i b s) M2 ∧ sOk (M 16 4) (lyP (M 16 4) (rwF M) i b s) ∧ lnS (lyP (M 16 4) (rwF M) i b s) ≤ lnS s + (if s = none then 0 else 1) + (b - i) ∧ ∀ k, k < 16 ∨ 18 < k → M2 k = M k) → Ret none M2) (hM : MOk M) (Z : KZ) (hZ : Sim cd_X2_layPiece Z Ret) : Z 0 [some (mr 16), some (mr 11), some (mi i), some (mi b), none] [] M := by
  obtain ⟨hL, hS, w4, w40, hi0, hi1, hb, hcap⟩ := hp
  generalize hw : M 16 4 = w at *
  generalize hF : rwF M = F at *
  have hFx : ∀ x, M 11 x.toNat = F x := fun x => by rw [← hF]
  have hcp : 0 ≤ lnS s + (if s = none then 0 else 1) := by
    cases s with
    | none => simp [lnS]
    | some q => simp only [lnS]; split <;> omega
  generalize hc0 : lnS s + (if s = none then 0 else 1) = c0 at *
  have loop : ∀ (d : Nat) (j : Int) (A : List (List Int)) (L : List Int) (N : Mem), d = (b - j).toNat → i ≤ j → j ≤ b → LX w A L N → lyOk w (c0 + (j - i)) (A, L) → lyR w F (b - j).toNat j (A, L) = lyR w F (b - i).toNat i (ly0 w (b - i) s) → (j = b → 0 < L.length) → (∀ k, k < 16 ∨ 18 < k → N k = M k) → Z 22 [some (mr 16), some (mr 11), some (mi i), some (mi b), some (mi j)] [] N := by
    intro d
    induction d using Nat.strongRecOn with
    | ind d ih =>
      intro j A L N hd h0 h1 hX hO hr hne hfr
      have hO2 := hO
      obtain ⟨o1, o2, o3⟩ := hO2
      simp only at o1 o2 o3
      have hlf := len_flat A (fun K hK => (o1 K hK).1)
      have x1 := hX.1
      have x2 := hX.2.1
      have x3 := hX.2.2.1
      have xl := hX.last
      have e11 : N 11 = M 11 := hfr 11 (by omega)
      have hcell : N 11 j.toNat = F j := by rw [e11]; exact hFx j
      have hst : lyR w F (b - j).toNat j (A, L) = if b ≤ j then (A, L) else lyR w F (b - (j + 1)).toNat (j + 1) (lyC w A L (F j)) := by
        by_cases q : b ≤ j
        · rw [if_pos q, show (b - j).toNat = 0 by omega]; rfl
        · rw [if_neg q, show (b - j).toNat = (b - (j + 1)).toNat + 1 by omega]; rfl
      have step : j < b → ∀ N2 : Mem, LX w (lyC w A L (F j)).1 (lyC w A L (F j)).2 N2 → (∀ k, k < 16 ∨ 18 < k → N2 k = M k) → Z 37 [some (mr 16), some (mr 11), some (mi i), some (mi b), some (mi j)] [] N2 := by
        intro hj N2 hX2 hf2
        refine w_in5_4 hZ 37 38 rfl rfl rfl (by unfold InR; omega) ?_
        refine w_goto hZ 38 22 rfl ?_
        have hok := lyC_ok hO (by omega) (F j)
        refine ih ((b - (j + 1)).toNat) (by omega) (j + 1) _ _ N2 rfl (by omega) (by omega) hX2 (by rw [show c0 + (j + 1 - i) = c0 + (j - i) + 1 by omega]; exact hok.1) ?_ (fun _ => hok.2) hf2
        rw [← hr, hst, if_neg (by omega)]
      refine w_iload hZ 22 23 rfl rfl rfl ?_
      refine w_iload hZ 23 24 rfl rfl rfl ?_
      refine w_cge hZ 24 25 rfl rfl (fun c24 => ?_) (fun c24 => ?_)
      · refine w_vret hZ 39 rfl ?_
        have hj : j = b := by omega
        rw [hst, if_pos (by omega)] at hr
        have hP : lyP w F i b s = some (A, L) := by unfold lyP; rw [← hr]
        refine hR _ ⟨?_, ?_, ?_, hfr⟩
        · rw [hP]; exact hX
        · rw [hP]; exact ⟨⟨o1, o2, by simp only [lnS]; omega⟩, hne hj⟩
        · rw [hP]; simp only [lnS]; omega
      · refine w_aload hZ 25 26 rfl rfl rfl ?_
        refine k_X2_lengthOfLast hZ 26 27 rfl rfl (Nat.le_of_ble_eq_true rfl) ⟨by omega, by omega, by rw [xl]; omega, by omega, by omega⟩ ?_
        rw [xl, show N 16 3 - (A.flatten.length : Int) = L.length by omega]
        refine w_aload hZ 27 28 rfl rfl rfl ?_
        refine w_getiv hZ 28 29 rfl rfl rfl rfl rfl (v := w) x3 ?_
        refine w_clt hZ 29 30 rfl rfl (fun c29 => ?_) (fun c29 => ?_)
        · refine w_aload hZ 32 33 rfl rfl rfl ?_
          refine w_aload hZ 33 34 rfl rfl rfl ?_
          refine w_iload hZ 34 35 rfl rfl rfl ?_
          refine w_ialdv hZ 35 36 rfl rfl rfl (by omega) (by omega) (v := F j) hcell ?_
          refine k_X2_addLaid hZ 36 37 rfl rfl (Nat.le_of_ble_eq_true rfl) ⟨by omega, by omega⟩ (fun M36 p36 => ?_)
          subst p36
          refine step (by omega) _ ?_ (fun k hk => ?_)
          · unfold lyC; rw [if_neg (by omega)]; exact LX_ad hX (F j)
          · rw [← hfr k hk]; funext q
            have z1 : ¬ k = 16 := by omega
            have z2 : ¬ k = 17 := by omega
            simp [adL, mup_at, z1, z2]
        · refine w_aload hZ 30 31 rfl rfl rfl ?_
          refine k_X2_beginLine hZ 31 32 rfl rfl (Nat.le_of_ble_eq_true rfl) ⟨by omega, by omega⟩ (fun M31 p31 => ?_)
          subst p31
          have hXb := LX_bg hX
          have xb := hXb.2.1
          have hfl : (A ++ [L]).flatten.length = A.flatten.length + L.length := by simp only [List.flatten_append, List.length_append, List.flatten_cons, List.flatten_nil, List.length_nil]; omega
          rw [hfl] at xb
          refine w_aload hZ 32 33 rfl rfl rfl ?_
          refine w_aload hZ 33 34 rfl rfl rfl ?_
          refine w_iload hZ 34 35 rfl rfl rfl ?_
          refine w_ialdv hZ 35 36 rfl rfl rfl (by omega) (by omega) (v := F j) hcell ?_
          refine k_X2_addLaid hZ 36 37 rfl rfl (Nat.le_of_ble_eq_true rfl) ⟨by rw [xb]; simp only [List.length_nil]; omega, by rw [xb]; simp only [List.length_nil]; omega⟩ (fun M36 p36 => ?_)
          subst p36
          refine step (by omega) _ ?_ (fun k hk => ?_)
          · unfold lyC; rw [if_pos c29]; exact LX_ad hXb (F j)
          · rw [← hfr k hk]; funext q
            have z1 : ¬ k = 16 := by omega
            have z2 : ¬ k = 17 := by omega
            have z3 : ¬ k = 18 := by omega
            simp [adL, bgL, mup_at, z1, z2, z3]
  have t20 : ∀ (A : List (List Int)) (L : List Int) (N : Mem), LX w A L N → lyOk w c0 (A, L) → (A, L) = ly0 w (b - i) s → (∀ k, k < 16 ∨ 18 < k → N k = M k) → Z 20 [some (mr 16), some (mr 11), some (mi i), some (mi b), none] [] N := by
    intro A L N hX hO he hfr
    refine w_iload hZ 20 21 rfl rfl rfl ?_
    refine w_st5_4 hZ 21 22 rfl rfl rfl ?_
    exact loop _ i A L N rfl (Int.le_refl _) (by omega) hX (by rw [show c0 + (i - i) = c0 by omega]; exact hO) (by rw [he]) (fun h => by omega) hfr
  cases s with
  | none =>
    obtain ⟨l1, l2, l3⟩ := hL
    have hc00 : c0 = 0 := by rw [← hc0]; simp [lnS]
    refine w_aload hZ 0 1 rfl rfl rfl ?_
    refine w_geti hZ 1 2 rfl rfl rfl rfl rfl ?_
    refine w_ifle hZ 2 3 rfl rfl (fun c2 => ?_) (fun c2 => absurd c2 (by omega))
    refine w_aload hZ 18 19 rfl rfl rfl ?_
    refine k_X2_beginLine hZ 19 20 rfl rfl (Nat.le_of_ble_eq_true rfl) ⟨by omega, by omega⟩ (fun M19 p19 => ?_)
    subst p19
    refine t20 [] [] _ (LX_bg0 ⟨l1, l2, l3⟩) ⟨fun K hK => by simp at hK, by simp; omega, by simp; omega⟩ rfl (fun k hk => ?_)
    funext q
    have z1 : ¬ k = 16 := by omega
    have z3 : ¬ k = 18 := by omega
    simp [bgL, mup_at, z1, z3]
  | some q =>
    obtain ⟨A, L⟩ := q
    have hX : LX w A L M := hL
    obtain ⟨hO, hLp⟩ := hS
    have hO2 := hO
    obtain ⟨o1, o2, o3⟩ := hO2
    simp only [lnS] at o1 o2 o3 hLp hc0
    have hlf := len_flat A (fun K hK => (o1 K hK).1)
    have x1 := hX.1
    have x2 := hX.2.1
    have xl := hX.last
    have hc1 : c0 = (A.flatten.length : Int) + L.length + 1 := by rw [← hc0]; simp
    refine w_aload hZ 0 1 rfl rfl rfl ?_
    refine w_geti hZ 1 2 rfl rfl rfl rfl rfl ?_
    refine w_ifle hZ 2 3 rfl rfl (fun c2 => absurd c2 (by omega)) (fun c2 => ?_)
    refine w_aload hZ 3 4 rfl rfl rfl ?_
    refine k_X2_lengthOfLast hZ 4 5 rfl rfl (Nat.le_of_ble_eq_true rfl) ⟨by omega, by omega, by rw [xl]; omega, by omega, by omega⟩ ?_
    rw [xl, show M 16 3 - (A.flatten.length : Int) = L.length by omega]
    refine w_const hZ 5 6 rfl rfl  ?_
    refine w_add hZ 6 7 rfl rfl (by unfold InR; omega) ?_
    refine w_iload hZ 7 8 rfl rfl rfl ?_
    refine w_add hZ 8 9 rfl rfl (by unfold InR; omega) ?_
    refine w_iload hZ 9 10 rfl rfl rfl ?_
    refine w_sub hZ 10 11 rfl rfl (by unfold InR; omega) ?_
    refine w_aload hZ 11 12 rfl rfl rfl ?_
    refine w_getiv hZ 12 13 rfl rfl rfl rfl rfl (v := w) hw ?_
    refine w_cgt hZ 13 14 rfl rfl (fun c13 => ?_) (fun c13 => ?_)
    · refine w_aload hZ 18 19 rfl rfl rfl ?_
      refine k_X2_beginLine hZ 19 20 rfl rfl (Nat.le_of_ble_eq_true rfl) ⟨by omega, by omega⟩ (fun M19 p19 => ?_)
      subst p19
      refine t20 (A ++ [L]) [] _ (LX_bg hX) ⟨fun K hK => ?_, by simp; omega, ?_⟩ (by unfold ly0; simp only; rw [if_neg (by omega)]) (fun k hk => ?_)
      · rcases List.mem_append.mp hK with z | z
        · exact o1 K z
        · rw [List.mem_singleton.mp z]; exact ⟨hLp, o2⟩
      · simp only [List.flatten_append, List.length_append, List.flatten_cons, List.flatten_nil, List.length_nil]; omega
      · funext q
        have z1 : ¬ k = 16 := by omega
        have z3 : ¬ k = 18 := by omega
        simp [bgL, mup_at, z1, z3]
    · refine w_aload hZ 14 15 rfl rfl rfl ?_
      refine w_const hZ 15 16 rfl rfl  ?_
      refine k_X2_addLaid hZ 16 17 rfl rfl (Nat.le_of_ble_eq_true rfl) ⟨by omega, by omega⟩ (fun M16 p16 => ?_)
      refine w_goto hZ 17 20 rfl ?_
      subst p16
      refine t20 A (L ++ [0]) _ (LX_ad hX 0) ⟨o1, by simp; omega, ?_⟩ (by unfold ly0; simp only; rw [if_pos (by omega)]) (fun k hk => ?_)
      · simp only [List.length_append, List.length_cons, List.length_nil]; omega
      · funext q
        have z1 : ¬ k = 16 := by omega
        have z2 : ¬ k = 17 := by omega
        simp [adL, mup_at, z1, z2]
set_option maxRecDepth 100000 in
set_option maxHeartbeats 4000000 in
theorem ao_X2_layPiece : AllOk yX2_layPiece.cls cX2_layPiece 5 1 21 none none pc_X2_layPiece 0 cd_X2_layPiece := ⟨s_aload_n (k := 0) (by decide +kernel) rfl rfl, ⟨s_get (C := RX2) (T := TX2) (N := 5) rfl inT2 (by decide) tw_1_138 (by decide +kernel) rfl, ⟨s_ifle (off := (28)) (by decide +kernel) rfl rfl, ⟨s_aload_n (k := 0) (by decide +kernel) rfl rfl, ⟨s_callV (C := RX2) (T := TX2) (N := 5) rfl ct_X2_lengthOfLast (by decide) (by decide) ⟨rfl, by decide +kernel, by decide +kernel, by decide +kernel⟩ tw_2_233 tw_2_235 ts_2_1 tw_1_5 tw_2_236 (by decide +kernel) rfl, ⟨s_iconst (by decide +kernel) rfl ⟨by decide, by decide⟩, ⟨s_add (by decide +kernel) rfl, ⟨s_iload_n (k := 3) (by decide +kernel) rfl rfl, ⟨s_add (by decide +kernel) rfl, ⟨s_iload_n (k := 2) (by decide +kernel) rfl rfl, ⟨s_sub (by decide +kernel) rfl, ⟨s_aload_n (k := 0) (by decide +kernel) rfl rfl, ⟨s_get (C := RX2) (T := TX2) (N := 5) rfl inT2 (by decide) tw_1_140 (by decide +kernel) rfl, ⟨s_cgt (off := (11)) (by decide +kernel) rfl rfl, ⟨s_aload_n (k := 0) (by decide +kernel) rfl rfl, ⟨s_iconst (by decide +kernel) rfl ⟨by decide, by decide⟩, ⟨s_callV (C := RX2) (T := TX2) (N := 5) rfl ct_X2_addLaid (by decide) (by decide) ⟨rfl, by decide +kernel, by decide +kernel, by decide +kernel⟩ tw_2_237 tw_2_239 ts_2_2 tw_1_5 tw_3_0 (by decide +kernel) rfl, ⟨s_goto (off := (7)) (by decide +kernel) rfl, ⟨s_aload_n (k := 0) (by decide +kernel) rfl rfl, ⟨s_callV (C := RX2) (T := TX2) (N := 5) rfl ct_X2_beginLine (by decide) (by decide) ⟨rfl, by decide +kernel, by decide +kernel, by decide +kernel⟩ tw_3_1 tw_3_3 ts_2_3 tw_1_5 tw_3_4 (by decide +kernel) rfl, ⟨s_iload_n (k := 2) (by decide +kernel) rfl rfl, ⟨s_istore (by decide +kernel) rfl, ⟨s_iload (by decide +kernel) rfl, ⟨s_iload_n (k := 3) (by decide +kernel) rfl rfl, ⟨s_cge (off := (32)) (by decide +kernel) rfl rfl, ⟨s_aload_n (k := 0) (by decide +kernel) rfl rfl, ⟨s_callV (C := RX2) (T := TX2) (N := 5) rfl ct_X2_lengthOfLast (by decide) (by decide) ⟨rfl, by decide +kernel, by decide +kernel, by decide +kernel⟩ tw_2_233 tw_2_235 ts_2_1 tw_1_5 tw_2_236 (by decide +kernel) rfl, ⟨s_aload_n (k := 0) (by decide +kernel) rfl rfl, ⟨s_get (C := RX2) (T := TX2) (N := 5) rfl inT2 (by decide) tw_1_140 (by decide +kernel) rfl, ⟨s_clt (off := (7)) (by decide +kernel) rfl rfl, ⟨s_aload_n (k := 0) (by decide +kernel) rfl rfl, ⟨s_callV (C := RX2) (T := TX2) (N := 5) rfl ct_X2_beginLine (by decide) (by decide) ⟨rfl, by decide +kernel, by decide +kernel, by decide +kernel⟩ tw_3_1 tw_3_3 ts_2_3 tw_1_5 tw_3_4 (by decide +kernel) rfl, ⟨s_aload_n (k := 0) (by decide +kernel) rfl rfl, ⟨s_aload_n (k := 1) (by decide +kernel) rfl rfl, ⟨s_iload (by decide +kernel) rfl, ⟨s_iald (by decide +kernel) rfl, ⟨s_callV (C := RX2) (T := TX2) (N := 5) rfl ct_X2_addLaid (by decide) (by decide) ⟨rfl, by decide +kernel, by decide +kernel, by decide +kernel⟩ tw_2_237 tw_2_239 ts_2_2 tw_1_5 tw_3_0 (by decide +kernel) rfl, ⟨s_iinc (by decide +kernel) rfl, ⟨s_goto (off := (-32)) (by decide +kernel) rfl, ⟨s_vret rfl (by decide +kernel), trivial⟩⟩⟩⟩⟩⟩⟩⟩⟩⟩⟩⟩⟩⟩⟩⟩⟩⟩⟩⟩⟩⟩⟩⟩⟩⟩⟩⟩⟩⟩⟩⟩⟩⟩⟩⟩⟩⟩⟩⟩
theorem ct_X2_layPiece : Ctr yX2_layPiece cX2_layPiece 5 none 1 21 sp_X2_layPiece := by
  refine ctr_of (by decide +kernel) ao_X2_layPiece rfl ?_
  rintro av M Ret ⟨s, i, b, rfl, hp, hR⟩ hok hM
  exact ⟨Nat.le_of_ble_eq_true rfl, fun Z hZ => b_X2_layPiece s i (hok _ (List.mem_of_getElem? (i := 2) rfl)) b (hok _ (List.mem_of_getElem? (i := 3) rfl)) M Ret hp hR hM Z hZ⟩
theorem LXs_same {w : Int} {s : LST} {M N : Mem} (h : LXs w s M) (h1 : N 16 = M 16) (h2 : N 17 = M 17) (h3 : N 18 = M 18) : LXs w s N := by
  cases s with
  | none => unfold LXs LX0 at *; rw [h1]; exact h
  | some q => exact LX.same h h1 h2 h3
theorem LXs_w {w : Int} {s : LST} {M : Mem} (h : LXs w s M) : M 16 4 = w := by
  cases s with
  | none => exact h.2.2
  | some q => exact h.2.2.1
theorem LXs_n {w : Int} {s : LST} {M : Mem} (h : LXs w s M) : M 16 2 = lyN s := by
  cases s with
  | none => exact h.1
  | some q => exact h.1
theorem lyP_congr (w : Int) {F G : Int → Int} {i b : Int} (s : LST) (h : ∀ j, i ≤ j → j < b → F j = G j) : lyP w F i b s = lyP w G i b s := by
  unfold lyP
  rw [lyR_congr w _ i _ (fun j j0 j1 => h j j0 (by omega))]
def sp_X2_lay : SP := fun av M Ret => ∃ m : Int, ∃ w : Int, av = [mr 16, mr 11, mi m, mi w] ∧ (0 ≤ m ∧ m ≤ 240 ∧ 4 ≤ w ∧ w ≤ 40) ∧ (∀ M2 : Mem, (LXs w (ly w (sgn m (M 11)) m 0 none) M2 ∧ sOk w (ly w (sgn m (M 11)) m 0 none) ∧ lnS (ly w (sgn m (M 11)) m 0 none) ≤ 240 ∧ ∀ k, k < 16 ∨ 18 < k → M2 k = M k) → Ret (some (mi (lyN (ly w (sgn m (M 11)) m 0 none)))) M2)
theorem k_X2_lay {code : List Sem} {Z : KZ} {Ret : KR} {ls : List (Option MV)} {M : Mem} {r : List MV} (hZ : Sim code Z Ret) (ip np : Nat) {m w : Int} (hc : code[ip]? = some (I_callV 2 3 sp_X2_lay)) (hn : ip + 1 = np) (h3 : catS r ≤ 8)  (hp : 0 ≤ m ∧ m ≤ 240 ∧ 4 ≤ w ∧ w ≤ 40) (kz : ∀ M2 : Mem, (LXs w (ly w (sgn m (M 11)) m 0 none) M2 ∧ sOk w (ly w (sgn m (M 11)) m 0 none) ∧ lnS (ly w (sgn m (M 11)) m 0 none) ≤ 240 ∧ ∀ k, k < 16 ∨ 18 < k → M2 k = M k) → Z np ls (mi (lyN (ly w (sgn m (M 11)) m 0 none)) :: r) M2) : Z ip ls (mi w :: mi m :: mr 11 :: mr 16 :: r) M := w_callV3 hZ ip np hc hn rfl rfl h3 ⟨_, _, rfl, hp, fun M2 h => kz M2 h⟩
def cd_X2_lay : List Sem := [I_aload 0, I_const (0), I_puti 2 2, I_aload 0, I_const (0), I_puti 2 3, I_aload 0, I_iload 3, I_puti 2 4, I_const (-1), I_istore 4, I_const (0), I_istore 5, I_iload 5, I_iload 2, I_cge 38, I_aload 1, I_iload 5, I_iald, I_ifne 23, I_const (-1), I_istore 4, I_goto 36, I_iload 4, I_const (-1), I_cne 36, I_iload 5, I_istore 4, I_aload 0, I_aload 1, I_iload 5, I_aload 1, I_iload 5, I_iload 2, I_callS 3 sp_X2_endOfPiece, I_callV 2 3 sp_X2_layPiece, I_iinc 5 (1), I_goto 13, I_aload 0, I_get 2 2, I_iret]
def pc_X2_lay : List Nat := [0, 1, 2, 5, 6, 7, 10, 11, 12, 15, 16, 18, 19, 21, 23, 24, 27, 28, 30, 31, 34, 35, 37, 40, 42, 43, 46, 48, 50, 51, 52, 54, 55, 57, 58, 61, 64, 67, 70, 71, 74]
set_option maxRecDepth 100000 in
set_option maxHeartbeats 4000000 in
theorem b_X2_lay (m : Int) (i_m : InR m) (w : Int) (i_w : InR w) (M : Mem) (Ret : KR) (hp : 0 ≤ m ∧ m ≤ 240 ∧ 4 ≤ w ∧ w ≤ 40) (hR : ∀ M2 : Mem, (LXs w (ly w (sgn m (M 11)) m 0 none) M2 ∧ sOk w (ly w (sgn m (M 11)) m 0 none) ∧ lnS (ly w (sgn m (M 11)) m 0 none) ≤ 240 ∧ ∀ k, k < 16 ∨ 18 < k → M2 k = M k) → Ret (some (mi (lyN (ly w (sgn m (M 11)) m 0 none)))) M2) (hM : MOk M) (Z : KZ) (hZ : Sim cd_X2_lay Z Ret) : Z 0 [some (mr 16), some (mr 11), some (mi m), some (mi w), none, none] [] M := by
  obtain ⟨m0, m1, w4, w40⟩ := hp
  generalize hF : sgn m (M 11) = F at *
  have hFx : ∀ x, 0 ≤ x → x < m → M 11 x.toNat = F x := fun x x0 x1 => by rw [← hF, sgn_in x0 x1]
  have loop : ∀ (d : Nat) (i pb : Int) (s : LST) (N : Mem), d = (m - i).toNat → 0 ≤ i → i ≤ m → LXs w s N → sOk w s → ((pb = -1 ∧ ly w F m 0 none = ly w F m i s ∧ lnS s + (if s = none then 0 else 1) ≤ i) ∨ (0 ≤ pb ∧ ly w F m 0 none = ly w F m (pe F m i) s ∧ lnS s ≤ pe F m i)) → (∀ k, k < 16 ∨ 18 < k → N k = M k) → Z 13 [some (mr 16), some (mr 11), some (mi m), some (mi w), some (mi pb), some (mi i)] [] N := by
    intro d
    induction d using Nat.strongRecOn with
    | ind d ih =>
      intro i pb s N hd h0 h1 hX hO hI hfr
      have e11 : N 11 = M 11 := hfr 11 (by omega)
      have hcell : i < m → N 11 i.toNat = F i := fun hi => by rw [e11]; exact hFx i h0 hi
      have hwN := LXs_w hX
      have step : i < m → ∀ (pb2 : Int) (s2 : LST) (N2 : Mem), LXs w s2 N2 → sOk w s2 → ((pb2 = -1 ∧ ly w F m 0 none = ly w F m (i + 1) s2 ∧ lnS s2 + (if s2 = none then 0 else 1) ≤ i + 1) ∨ (0 ≤ pb2 ∧ ly w F m 0 none = ly w F m (pe F m (i + 1)) s2 ∧ lnS s2 ≤ pe F m (i + 1))) → (∀ k, k < 16 ∨ 18 < k → N2 k = M k) → Z 36 [some (mr 16), some (mr 11), some (mi m), some (mi w), some (mi pb2), some (mi i)] [] N2 := by
        intro hi pb2 s2 N2 a1 a2 a3 a4
        refine w_in6_5 hZ 36 37 rfl rfl rfl (by clear hI a3; unfold InR; omega) ?_
        refine w_goto hZ 37 13 rfl ?_
        exact ih ((m - (i + 1)).toNat) (by clear hI a3; omega) (i + 1) pb2 s2 N2 rfl (by clear hI a3; omega) (by clear hI a3; omega) a1 a2 a3 a4
      -- the end of a piece from a place inside it
      have hpe : i < m → ¬ F i = 0 → pe F m i = pe F m (i + 1) := by
        intro hi hz
        obtain ⟨a, b, c, e⟩ := pe_spec (F := F) (m := m) (i := i) h1
        have hg := pe_gt (F := F) hi hz
        exact (pe_eq (by clear hI; omega) b (fun x x0 x1 => c x (by clear hI; omega) x1) e).symm
      refine w_iload hZ 13 14 rfl rfl rfl ?_
      refine w_iload hZ 14 15 rfl rfl rfl ?_
      refine w_cge hZ 15 16 rfl rfl (fun c15 => ?_) (fun c15 => ?_)
      · refine w_aload hZ 38 39 rfl rfl rfl ?_
        refine w_getiv hZ 39 40 rfl rfl rfl rfl rfl (v := lyN s) (LXs_n hX) ?_
        refine w_iret hZ 40 rfl ?_
        have hin : i = m := by clear hI; omega
        have hend : ly w F m 0 none = s ∧ lnS s ≤ m := by
          rcases hI with ⟨q1, q2, q3⟩ | ⟨q1, q2, q3⟩
          · rw [hin, ly_end (Int.le_refl _)] at q2
            refine ⟨q2, ?_⟩
            split at q3 <;> omega
          · have : pe F m i = m := by
              obtain ⟨pa, pb', pc, pd⟩ := pe_spec (F := F) (m := m) (i := i) h1
              omega
            rw [this, ly_end (Int.le_refl _)] at q2
            exact ⟨q2, by omega⟩
        rw [← hend.1]
        refine hR _ ⟨?_, ?_, ?_, hfr⟩
        · rw [hend.1]; exact hX
        · rw [hend.1]; exact hO
        · rw [hend.1]; have := hend.2; clear hI; omega
      · refine w_aload hZ 16 17 rfl rfl rfl ?_
        refine w_iload hZ 17 18 rfl rfl rfl ?_
        refine w_ialdv hZ 18 19 rfl rfl rfl (by clear hI; omega) (by clear hI; omega) (v := F i) (hcell (by clear hI; omega)) ?_
        refine w_ifne hZ 19 20 rfl rfl (fun c19 => ?_) (fun c19 => ?_)
        · refine w_iload hZ 23 24 rfl rfl rfl ?_
          refine w_const hZ 24 25 rfl rfl  ?_
          refine w_cne hZ 25 26 rfl rfl (fun c25 => ?_) (fun c25 => ?_)
          · first
              | (refine step c15 _ s N hX hO (Or.inl ⟨rfl, ?_, ?_⟩) hfr
                 · rcases hI with ⟨q1, q2, q3⟩ | ⟨q1, q2, q3⟩
                   · rw [q2, ly_blank c15 c19]
                   · rw [pe_eq (Int.le_refl i) h1 (fun x x0 x1 => by omega) (fun _ => c19)] at q2
                     rw [q2, ly_blank c15 c19]
                 · rcases hI with ⟨q1, q2, q3⟩ | ⟨q1, q2, q3⟩
                   · omega
                   · rw [pe_eq (Int.le_refl i) h1 (fun x x0 x1 => by omega) (fun _ => c19)] at q3
                     split <;> omega)
              | (have hI2 : 0 ≤ pb ∧ ly w F m 0 none = ly w F m (pe F m i) s ∧ lnS s ≤ pe F m i := by
                   rcases hI with q | q
                   · exact absurd q.1 c25
                   · exact q
                 refine step c15 pb s N hX hO (Or.inr ⟨hI2.1, ?_, ?_⟩) hfr
                 · rw [hI2.2.1, hpe c15 c19]
                 · rw [← hpe c15 c19]; exact hI2.2.2)
          · have hpb : pb = -1 := c25
            have hI2 : ly w F m 0 none = ly w F m i s ∧ lnS s + (if s = none then 0 else 1) ≤ i := by
              rcases hI with q | q
              · exact q.2
              · have := q.1; omega
            clear hI
            obtain ⟨i1, i2⟩ := hI2
            have hg := pe_gt (F := F) c15 c19
            obtain ⟨pa, pb', pc, pd⟩ := pe_spec (F := F) (m := m) (i := i) h1
            refine w_iload hZ 26 27 rfl rfl rfl ?_
            refine w_st6_4 hZ 27 28 rfl rfl rfl ?_
            refine w_aload hZ 28 29 rfl rfl rfl ?_
            refine w_aload hZ 29 30 rfl rfl rfl ?_
            refine w_iload hZ 30 31 rfl rfl rfl ?_
            refine w_aload hZ 31 32 rfl rfl rfl ?_
            refine w_iload hZ 32 33 rfl rfl rfl ?_
            refine w_iload hZ 33 34 rfl rfl rfl ?_
            refine k_X2_endOfPiece hZ 34 35 rfl rfl (Nat.le_of_ble_eq_true rfl) ⟨h0, h1, m1⟩ ?_
            rw [show sgn m (N 11) = F by rw [e11]; exact hF]
            refine k_X2_layPiece hZ 35 36 rfl rfl (Nat.le_of_ble_eq_true rfl) (s := s) ⟨by rw [hwN]; exact hX, by rw [hwN]; exact hO, by omega, by omega, h0, hg, by omega, by omega⟩ (fun M35 p35 => ?_)
            obtain ⟨r1, r2, r3, r4⟩ := p35
            rw [hwN] at r1 r2 r3
            have hPe : lyP w (rwF N) i (pe F m i) s = lyP w F i (pe F m i) s := lyP_congr w s (fun x x0 x1 => by show N 11 x.toNat = _; rw [e11]; exact hFx x (by omega) (by omega))
            rw [hPe] at r1 r2 r3
            refine step c15 i _ M35 r1 r2 (Or.inr ⟨h0, ?_, ?_⟩) (fun k hk => by rw [r4 k hk, hfr k hk])
            · rw [i1, ly_piece c15 c19, hpe c15 c19]
            · rw [← hpe c15 c19]; omega
        · refine w_const hZ 20 21 rfl rfl  ?_
          refine w_st6_4 hZ 21 22 rfl rfl rfl ?_
          refine w_goto hZ 22 36 rfl ?_
          first
            | (refine step c15 _ s N hX hO (Or.inl ⟨rfl, ?_, ?_⟩) hfr
               · rcases hI with ⟨q1, q2, q3⟩ | ⟨q1, q2, q3⟩
                 · rw [q2, ly_blank c15 c19]
                 · rw [pe_eq (Int.le_refl i) h1 (fun x x0 x1 => by omega) (fun _ => c19)] at q2
                   rw [q2, ly_blank c15 c19]
               · rcases hI with ⟨q1, q2, q3⟩ | ⟨q1, q2, q3⟩
                 · omega
                 · rw [pe_eq (Int.le_refl i) h1 (fun x x0 x1 => by omega) (fun _ => c19)] at q3
                   split <;> omega)
            | (have hI2 : 0 ≤ pb ∧ ly w F m 0 none = ly w F m (pe F m i) s ∧ lnS s ≤ pe F m i := by
                 rcases hI with q | q
                 · exact absurd q.1 c25
                 · exact q
               refine step c15 pb s N hX hO (Or.inr ⟨hI2.1, ?_, ?_⟩) hfr
               · rw [hI2.2.1, hpe c15 c19]
               · rw [← hpe c15 c19]; exact hI2.2.2)
  refine w_aload hZ 0 1 rfl rfl rfl ?_
  refine w_const hZ 1 2 rfl rfl  ?_
  refine w_puti hZ 2 3 rfl rfl rfl rfl rfl ?_
  refine w_aload hZ 3 4 rfl rfl rfl ?_
  refine w_const hZ 4 5 rfl rfl  ?_
  refine w_puti hZ 5 6 rfl rfl rfl rfl rfl ?_
  refine w_aload hZ 6 7 rfl rfl rfl ?_
  refine w_iload hZ 7 8 rfl rfl rfl ?_
  refine w_puti hZ 8 9 rfl rfl rfl rfl rfl ?_
  refine w_const hZ 9 10 rfl rfl  ?_
  refine w_st6_4 hZ 10 11 rfl rfl rfl ?_
  refine w_const hZ 11 12 rfl rfl  ?_
  refine w_st6_5 hZ 12 13 rfl rfl rfl ?_
  refine loop _ 0 (-1) none _ rfl (Int.le_refl _) m0 ⟨by simp [mup_at], by simp [mup_at], by simp [mup_at]⟩ trivial (Or.inl ⟨rfl, rfl, by simp [lnS]⟩) (fun k hk => ?_)
  funext q
  have z1 : ¬ k = 16 := by omega
  simp [mup_at, z1]
set_option maxRecDepth 100000 in
set_option maxHeartbeats 4000000 in
theorem ao_X2_lay : AllOk yX2_lay.cls cX2_lay 6 2 45 (some .int) none pc_X2_lay 0 cd_X2_lay := ⟨s_aload_n (k := 0) (by decide +kernel) rfl rfl, ⟨s_iconst (by decide +kernel) rfl ⟨by decide, by decide⟩, ⟨s_puti (C := RX2) (T := TX2) (N := 5) (tyf := tyX2) rfl inT2 tyX2_ok nmX2 (by decide) rfl rfl tw_1_138 (by decide +kernel) rfl, ⟨s_aload_n (k := 0) (by decide +kernel) rfl rfl, ⟨s_iconst (by decide +kernel) rfl ⟨by decide, by decide⟩, ⟨s_puti (C := RX2) (T := TX2) (N := 5) (tyf := tyX2) rfl inT2 tyX2_ok nmX2 (by decide) rfl rfl tw_1_139 (by decide +kernel) rfl, ⟨s_aload_n (k := 0) (by decide +kernel) rfl rfl, ⟨s_iload_n (k := 3) (by decide +kernel) rfl rfl, ⟨s_puti (C := RX2) (T := TX2) (N := 5) (tyf := tyX2) rfl inT2 tyX2_ok nmX2 (by decide) rfl rfl tw_1_140 (by decide +kernel) rfl, ⟨s_iconst (by decide +kernel) rfl ⟨by decide, by decide⟩, ⟨s_istore (by decide +kernel) rfl, ⟨s_iconst (by decide +kernel) rfl ⟨by decide, by decide⟩, ⟨s_istore (by decide +kernel) rfl, ⟨s_iload (by decide +kernel) rfl, ⟨s_iload_n (k := 2) (by decide +kernel) rfl rfl, ⟨s_cge (off := (46)) (by decide +kernel) rfl rfl, ⟨s_aload_n (k := 1) (by decide +kernel) rfl rfl, ⟨s_iload (by decide +kernel) rfl, ⟨s_iald (by decide +kernel) rfl, ⟨s_ifne (off := (9)) (by decide +kernel) rfl rfl, ⟨s_iconst (by decide +kernel) rfl ⟨by decide, by decide⟩, ⟨s_istore (by decide +kernel) rfl, ⟨s_goto (off := (27)) (by decide +kernel) rfl, ⟨s_iload (by decide +kernel) rfl, ⟨s_iconst (by decide +kernel) rfl ⟨by decide, by decide⟩, ⟨s_cne (off := (21)) (by decide +kernel) rfl rfl, ⟨s_iload (by decide +kernel) rfl, ⟨s_istore (by decide +kernel) rfl, ⟨s_aload_n (k := 0) (by decide +kernel) rfl rfl, ⟨s_aload_n (k := 1) (by decide +kernel) rfl rfl, ⟨s_iload (by decide +kernel) rfl, ⟨s_aload_n (k := 1) (by decide +kernel) rfl rfl, ⟨s_iload (by decide +kernel) rfl, ⟨s_iload_n (k := 2) (by decide +kernel) rfl rfl, ⟨s_callS ct_X2_endOfPiece (by decide) (by decide) ⟨by decide +kernel, by decide +kernel, by decide +kernel⟩ tw_2_226 tw_2_227 tw_1_5 tw_2_228 (by decide +kernel) rfl, ⟨s_callV (C := RX2) (T := TX2) (N := 5) rfl ct_X2_layPiece (by decide) (by decide) ⟨rfl, by decide +kernel, by decide +kernel, by decide +kernel⟩ tw_2_229 tw_2_231 ts_2_0 tw_1_5 tw_2_232 (by decide +kernel) rfl, ⟨s_iinc (by decide +kernel) rfl, ⟨s_goto (off := (-46)) (by decide +kernel) rfl, ⟨s_aload_n (k := 0) (by decide +kernel) rfl rfl, ⟨s_get (C := RX2) (T := TX2) (N := 5) rfl inT2 (by decide) tw_1_138 (by decide +kernel) rfl, ⟨s_iret rfl (by decide +kernel), trivial⟩⟩⟩⟩⟩⟩⟩⟩⟩⟩⟩⟩⟩⟩⟩⟩⟩⟩⟩⟩⟩⟩⟩⟩⟩⟩⟩⟩⟩⟩⟩⟩⟩⟩⟩⟩⟩⟩⟩⟩⟩
theorem ct_X2_lay : Ctr yX2_lay cX2_lay 6 (some .int) 2 45 sp_X2_lay := by
  refine ctr_of (by decide +kernel) ao_X2_lay rfl ?_
  rintro av M Ret ⟨m, w, rfl, hp, hR⟩ hok hM
  exact ⟨Nat.le_of_ble_eq_true rfl, fun Z hZ => b_X2_lay  m (hok _ (List.mem_of_getElem? (i := 2) rfl)) w (hok _ (List.mem_of_getElem? (i := 3) rfl)) M Ret hp hR hM Z hZ⟩
def sp_X2_cellOf : SP := fun av M Ret => ∃ s : LST, ∃ l : Int, ∃ i : Int, av = [mr 16, mi l, mi i] ∧ (LXs (M 16 4) s M ∧ lnS s ≤ 240 ∧ sOk (M 16 4) s ∧ 0 ≤ l ∧ 0 ≤ i) ∧ (Ret (some (mi (lyAt s l.toNat i.toNat))) M)
theorem k_X2_cellOf {code : List Sem} {Z : KZ} {Ret : KR} {ls : List (Option MV)} {M : Mem} {r : List MV} (hZ : Sim code Z Ret) (ip np : Nat) {s : LST} {l i : Int} (hc : code[ip]? = some (I_callV 2 2 sp_X2_cellOf)) (hn : ip + 1 = np) (h3 : catS r ≤ 8)  (hp : LXs (M 16 4) s M ∧ lnS s ≤ 240 ∧ sOk (M 16 4) s ∧ 0 ≤ l ∧ 0 ≤ i) (kz : Z np ls (mi (lyAt s l.toNat i.toNat) :: r) M) : Z ip ls (mi i :: mi l :: mr 16 :: r) M := w_callV2 hZ ip np hc hn rfl rfl h3 ⟨_, _, _, rfl, hp, kz⟩
def cd_X2_cellOf : List Sem := [I_iload 1, I_iflt 8, I_iload 2, I_iflt 8, I_iload 1, I_aload 0, I_get 2 2, I_clt 10, I_const (-1), I_iret, I_iload 1, I_const (1), I_add, I_aload 0, I_get 2 2, I_cge 23, I_aload 0, I_get 2 1, I_iload 1, I_const (1), I_add, I_iald, I_goto 25, I_aload 0, I_get 2 3, I_istore 3, I_iload 2, I_iload 3, I_aload 0, I_get 2 1, I_iload 1, I_iald, I_sub, I_cge 44, I_aload 0, I_get 2 0, I_aload 0, I_get 2 1, I_iload 1, I_iald, I_iload 2, I_add, I_iald, I_goto 45, I_const (-1), I_iret]
def pc_X2_cellOf : List Nat := [0, 1, 4, 5, 8, 9, 10, 13, 16, 17, 18, 19, 20, 21, 22, 25, 28, 29, 32, 33, 34, 35, 36, 39, 40, 43, 44, 45, 46, 47, 50, 51, 52, 53, 56, 57, 60, 61, 64, 65, 66, 67, 68, 69, 72, 73]
set_option maxRecDepth 100000 in
set_option maxHeartbeats 4000000 in
theorem b_X2_cellOf (s : LST) (l : Int) (i_l : InR l) (i : Int) (i_i : InR i) (M : Mem) (Ret : KR) (hp : LXs (M 16 4) s M ∧ lnS s ≤ 240 ∧ sOk (M 16 4) s ∧ 0 ≤ l ∧ 0 ≤ i) (hR : Ret (some (mi (lyAt s l.toNat i.toNat))) M) (hM : MOk M) (Z : KZ) (hZ : Sim cd_X2_cellOf Z Ret) : Z 0 [some (mr 16), some (mi l), some (mi i), none] [] M := by
  obtain ⟨hX, hln, hO, l0, i0⟩ := hp
  have hn := LXs_n hX
  cases s with
  | none =>
    replace hn : M 16 2 = 0 := hn
    refine w_iload hZ 0 1 rfl rfl rfl ?_
    refine w_iflt hZ 1 2 rfl rfl (fun c1 => absurd c1 (by omega)) (fun c1 => ?_)
    refine w_iload hZ 2 3 rfl rfl rfl ?_
    refine w_iflt hZ 3 4 rfl rfl (fun c3 => absurd c3 (by omega)) (fun c3 => ?_)
    refine w_iload hZ 4 5 rfl rfl rfl ?_
    refine w_aload hZ 5 6 rfl rfl rfl ?_
    refine w_geti hZ 6 7 rfl rfl rfl rfl rfl ?_
    refine w_clt hZ 7 8 rfl rfl (fun c7 => absurd c7 (by omega)) (fun c7 => ?_)
    refine w_const hZ 8 9 rfl rfl  ?_
    refine w_iret hZ 9 rfl ?_
    exact hR
  | some q =>
    obtain ⟨A, L⟩ := q
    have hx : LX (M 16 4) A L M := hX
    obtain ⟨x1, x2, x3, x4, x5⟩ := hx
    obtain ⟨⟨o1, o2, o3⟩, hLp⟩ := hO
    simp only [lnS] at o1 o2 o3 hLp hln
    have hlf := len_flat A (fun K hK => (o1 K hK).1)
    -- begin and end of a line, what stands there
    have hlen : ((A ++ [L]).length : Int) = M 16 2 := by rw [x1]; simp
    have hflat : (A ++ [L]).flatten = A.flatten ++ L := by simp
    have key : ∀ ln : Nat, (ln : Int) < M 16 2 → ∃ K : List Int, (A ++ [L])[ln]? = some K ∧ M 18 ln = (((A ++ [L]).take ln).flatten.length : Int) ∧ (((A ++ [L]).take (ln + 1)).flatten.length : Int) = M 18 ln + K.length ∧ (((A ++ [L]).take (ln + 1)).flatten.length : Int) ≤ M 16 3 := by
      intro ln hl
      have hlt : ln < (A ++ [L]).length := by omega
      have hK : (A ++ [L])[ln]? = some (A ++ [L])[ln] := List.getElem?_eq_getElem hlt
      have e1 : M 18 ln = (((A ++ [L]).take ln).flatten.length : Int) := by
        rw [x5 ln (by simp at hlt; omega), List.take_append_of_le_length (by simp at hlt; omega)]
      refine ⟨_, hK, e1, ?_, ?_⟩
      · rw [take_len _ ln _ hK, e1]; omega
      · have : ((A ++ [L]).take (ln + 1)).flatten.length ≤ (A ++ [L]).flatten.length := by
          have h2 : (A ++ [L]).flatten = ((A ++ [L]).take (ln + 1)).flatten ++ ((A ++ [L]).drop (ln + 1)).flatten := by
            rw [← List.flatten_append, List.take_append_drop]
          rw [h2, List.length_append]; omega
        rw [hflat, List.length_append] at this
        omega
    have t25 : ∀ e : Int, l < M 16 2 → e = (((A ++ [L]).take (l.toNat + 1)).flatten.length : Int) → Z 25 [some (mr 16), some (mi l), some (mi i), none] [mi e] M := by
      intro e hl he
      obtain ⟨K, k1, k2, k3, k4⟩ := key l.toNat (by omega)
      have hk0 : 0 ≤ M 18 l.toNat := by rw [k2]; omega
      refine w_st4_3 hZ 25 26 rfl rfl rfl ?_
      refine w_iload hZ 26 27 rfl rfl rfl ?_
      refine w_iload hZ 27 28 rfl rfl rfl ?_
      refine w_aload hZ 28 29 rfl rfl rfl ?_
      refine w_getr hZ 29 30 rfl rfl rfl rfl rfl ?_
      refine w_iload hZ 30 31 rfl rfl rfl ?_
      refine w_iald hZ 31 32 rfl rfl rfl (by omega) (by omega) ?_
      refine w_sub hZ 32 33 rfl rfl (by unfold InR; omega) ?_
      refine w_cge hZ 33 34 rfl rfl (fun c33 => ?_) (fun c33 => ?_)
      · refine w_const hZ 44 45 rfl rfl  ?_
        refine w_iret hZ 45 rfl ?_
        first
          | (refine ret_i hR ?_; unfold lyAt; simp only; rw [k1]; show K.getD i.toNat (-1) = -1; rw [List.getD_eq_getElem?_getD, List.getElem?_eq_none (by omega)]; rfl)
          | (have hiK : i.toNat < K.length := by omega
             have hf := (flat_at _ l.toNat i.toNat K k1 hiK).1
             refine ret_i hR ?_; unfold lyAt; simp only; rw [k1]; show K.getD i.toNat (-1) = _
             have e2 : (M 18 l.toNat + i).toNat = ((A ++ [L]).take l.toNat).flatten.length + i.toNat := by rw [k2]; omega
             rw [e2, x4 _ (by omega), ← hflat, List.getD_eq_getElem?_getD, List.getD_eq_getElem?_getD, hf, List.getElem?_eq_getElem hiK]; rfl)
      · refine w_aload hZ 34 35 rfl rfl rfl ?_
        refine w_getr hZ 35 36 rfl rfl rfl rfl rfl ?_
        refine w_aload hZ 36 37 rfl rfl rfl ?_
        refine w_getr hZ 37 38 rfl rfl rfl rfl rfl ?_
        refine w_iload hZ 38 39 rfl rfl rfl ?_
        refine w_iald hZ 39 40 rfl rfl rfl (by omega) (by omega) ?_
        refine w_iload hZ 40 41 rfl rfl rfl ?_
        refine w_add hZ 41 42 rfl rfl (by unfold InR; omega) ?_
        refine w_iald hZ 42 43 rfl rfl rfl (by omega) (by omega) ?_
        refine w_goto hZ 43 45 rfl ?_
        refine w_iret hZ 45 rfl ?_
        first
          | (refine ret_i hR ?_; unfold lyAt; simp only; rw [k1]; show K.getD i.toNat (-1) = -1; rw [List.getD_eq_getElem?_getD, List.getElem?_eq_none (by omega)]; rfl)
          | (have hiK : i.toNat < K.length := by omega
             have hf := (flat_at _ l.toNat i.toNat K k1 hiK).1
             refine ret_i hR ?_; unfold lyAt; simp only; rw [k1]; show K.getD i.toNat (-1) = _
             have e2 : (M 18 l.toNat + i).toNat = ((A ++ [L]).take l.toNat).flatten.length + i.toNat := by rw [k2]; omega
             rw [e2, x4 _ (by omega), ← hflat, List.getD_eq_getElem?_getD, List.getD_eq_getElem?_getD, hf, List.getElem?_eq_getElem hiK]; rfl)
    refine w_iload hZ 0 1 rfl rfl rfl ?_
    refine w_iflt hZ 1 2 rfl rfl (fun c1 => absurd c1 (by omega)) (fun c1 => ?_)
    refine w_iload hZ 2 3 rfl rfl rfl ?_
    refine w_iflt hZ 3 4 rfl rfl (fun c3 => absurd c3 (by omega)) (fun c3 => ?_)
    refine w_iload hZ 4 5 rfl rfl rfl ?_
    refine w_aload hZ 5 6 rfl rfl rfl ?_
    refine w_geti hZ 6 7 rfl rfl rfl rfl rfl ?_
    refine w_clt hZ 7 8 rfl rfl (fun c7 => ?_) (fun c7 => ?_)
    · refine w_iload hZ 10 11 rfl rfl rfl ?_
      refine w_const hZ 11 12 rfl rfl  ?_
      refine w_add hZ 12 13 rfl rfl (by unfold InR; omega) ?_
      refine w_aload hZ 13 14 rfl rfl rfl ?_
      refine w_geti hZ 14 15 rfl rfl rfl rfl rfl ?_
      refine w_cge hZ 15 16 rfl rfl (fun c15 => ?_) (fun c15 => ?_)
      · refine w_aload hZ 23 24 rfl rfl rfl ?_
        refine w_geti hZ 24 25 rfl rfl rfl rfl rfl ?_
        first
          | (refine t25 _ c7 ?_; obtain ⟨K, k1, k2, k3, k4⟩ := key (l + 1).toNat (by omega); rw [k2, show (l + 1).toNat = l.toNat + 1 by omega])
          | (refine t25 _ c7 ?_; rw [List.take_of_length_le (by omega), hflat, List.length_append, x2]; omega)
      · refine w_aload hZ 16 17 rfl rfl rfl ?_
        refine w_getr hZ 17 18 rfl rfl rfl rfl rfl ?_
        refine w_iload hZ 18 19 rfl rfl rfl ?_
        refine w_const hZ 19 20 rfl rfl  ?_
        refine w_add hZ 20 21 rfl rfl (by unfold InR; omega) ?_
        refine w_iald hZ 21 22 rfl rfl rfl (by omega) (by omega) ?_
        refine w_goto hZ 22 25 rfl ?_
        first
          | (refine t25 _ c7 ?_; obtain ⟨K, k1, k2, k3, k4⟩ := key (l + 1).toNat (by omega); rw [k2, show (l + 1).toNat = l.toNat + 1 by omega])
          | (refine t25 _ c7 ?_; rw [List.take_of_length_le (by omega), hflat, List.length_append, x2]; omega)
    · refine w_const hZ 8 9 rfl rfl  ?_
      refine w_iret hZ 9 rfl ?_
      refine ret_i hR ?_
      unfold lyAt
      simp only
      rw [List.getElem?_eq_none (by omega)]
      rfl
set_option maxRecDepth 100000 in
set_option maxHeartbeats 4000000 in
theorem ao_X2_cellOf : AllOk yX2_cellOf.cls cX2_cellOf 4 0 0 (some .int) none pc_X2_cellOf 0 cd_X2_cellOf := ⟨s_iload_n (k := 1) (by decide +kernel) rfl rfl, ⟨s_iflt (off := (15)) (by decide +kernel) rfl rfl, ⟨s_iload_n (k := 2) (by decide +kernel) rfl rfl, ⟨s_iflt (off := (11)) (by decide +kernel) rfl rfl, ⟨s_iload_n (k := 1) (by decide +kernel) rfl rfl, ⟨s_aload_n (k := 0) (by decide +kernel) rfl rfl, ⟨s_get (C := RX2) (T := TX2) (N := 5) rfl inT2 (by decide) tw_1_138 (by decide +kernel) rfl, ⟨s_clt (off := (5)) (by decide +kernel) rfl rfl, ⟨s_iconst (by decide +kernel) rfl ⟨by decide, by decide⟩, ⟨s_iret rfl (by decide +kernel), ⟨s_iload_n (k := 1) (by decide +kernel) rfl rfl, ⟨s_iconst (by decide +kernel) rfl ⟨by decide, by decide⟩, ⟨s_add (by decide +kernel) rfl, ⟨s_aload_n (k := 0) (by decide +kernel) rfl rfl, ⟨s_get (C := RX2) (T := TX2) (N := 5) rfl inT2 (by decide) tw_1_138 (by decide +kernel) rfl, ⟨s_cge (off := (14)) (by decide +kernel) rfl rfl, ⟨s_aload_n (k := 0) (by decide +kernel) rfl rfl, ⟨s_get (C := RX2) (T := TX2) (N := 5) rfl inT2 (by decide) tw_1_137 (by decide +kernel) rfl, ⟨s_iload_n (k := 1) (by decide +kernel) rfl rfl, ⟨s_iconst (by decide +kernel) rfl ⟨by decide, by decide⟩, ⟨s_add (by decide +kernel) rfl, ⟨s_iald (by decide +kernel) rfl, ⟨s_goto (off := (7)) (by decide +kernel) rfl, ⟨s_aload_n (k := 0) (by decide +kernel) rfl rfl, ⟨s_get (C := RX2) (T := TX2) (N := 5) rfl inT2 (by decide) tw_1_139 (by decide +kernel) rfl, ⟨s_istore_n (k := 3) (by decide +kernel) rfl rfl, ⟨s_iload_n (k := 2) (by decide +kernel) rfl rfl, ⟨s_iload_n (k := 3) (by decide +kernel) rfl rfl, ⟨s_aload_n (k := 0) (by decide +kernel) rfl rfl, ⟨s_get (C := RX2) (T := TX2) (N := 5) rfl inT2 (by decide) tw_1_137 (by decide +kernel) rfl, ⟨s_iload_n (k := 1) (by decide +kernel) rfl rfl, ⟨s_iald (by decide +kernel) rfl, ⟨s_sub (by decide +kernel) rfl, ⟨s_cge (off := (19)) (by decide +kernel) rfl rfl, ⟨s_aload_n (k := 0) (by decide +kernel) rfl rfl, ⟨s_get (C := RX2) (T := TX2) (N := 5) rfl inT2 (by decide) tw_1_136 (by decide +kernel) rfl, ⟨s_aload_n (k := 0) (by decide +kernel) rfl rfl, ⟨s_get (C := RX2) (T := TX2) (N := 5) rfl inT2 (by decide) tw_1_137 (by decide +kernel) rfl, ⟨s_iload_n (k := 1) (by decide +kernel) rfl rfl, ⟨s_iald (by decide +kernel) rfl, ⟨s_iload_n (k := 2) (by decide +kernel) rfl rfl, ⟨s_add (by decide +kernel) rfl, ⟨s_iald (by decide +kernel) rfl, ⟨s_goto (off := (4)) (by decide +kernel) rfl, ⟨s_iconst (by decide +kernel) rfl ⟨by decide, by decide⟩, ⟨s_iret rfl (by decide +kernel), trivial⟩⟩⟩⟩⟩⟩⟩⟩⟩⟩⟩⟩⟩⟩⟩⟩⟩⟩⟩⟩⟩⟩⟩⟩⟩⟩⟩⟩⟩⟩⟩⟩⟩⟩⟩⟩⟩⟩⟩⟩⟩⟩⟩⟩⟩⟩
theorem ct_X2_cellOf : Ctr yX2_cellOf cX2_cellOf 4 (some .int) 0 0 sp_X2_cellOf := by
  refine ctr_of (by decide +kernel) ao_X2_cellOf rfl ?_
  rintro av M Ret ⟨s, l, i, rfl, hp, hR⟩ hok hM
  exact ⟨Nat.le_of_ble_eq_true rfl, fun Z hZ => b_X2_cellOf s l (hok _ (List.mem_of_getElem? (i := 1) rfl)) i (hok _ (List.mem_of_getElem? (i := 2) rfl)) M Ret hp hR hM Z hZ⟩
end
section
/-! READ BACK -/
def rOf (V : BV) (c : Int) : Int := fIx (vE V) c (vR V)
abbrev isRl (V : BV) (c : Int) : Prop := isRC c ∧ ¬ rOf V c = -1
abbrev noCl (V : BV) (c : Int) : Prop := c = 63 ∨ (isRC c ∧ rOf V c = -1)
def cdL (code base : Int) : List Int := (List.range (lnC code).toNat).map fun (e : Nat) => base + dgC code (e : Int) - 1
def ltrs (V : BV) (c base : Int) : List Int := if isLC c then [base + c - 1] else if rOf V c = -1 then [] else cdL (vC' V (rOf V c).toNat) base
def fk (V : BV) (c : Int) : Int := if noCl V c then 1 else 2
/-- CAPITALS as long as they stand side by side: where they end, the signs -/
def crF (V : BV) (F : Int → Int) : Nat → Int → Int × List Int
  | 0, i => (i, [])
  | k + 1, i => if isLC (F i) ∨ isRl V (F i) then ((crF V F k (i + 1)).1, ltrs V (F i) 65 ++ (crF V F k (i + 1)).2) else (i, [])
/-- figures that belong together -/
def frF (F : Int → Int) : Nat → Int → Int × List Int
  | 0, i => (i, [])
  | k + 1, i => if isFC (F i) then ((frF F k (i + 1)).1, fgS (F i) :: (frF F k (i + 1)).2) else if isPCC (F i) ∧ isFC (F (i + 1)) then ((frF F k (i + 1)).1, mkS (F i) :: (frF F k (i + 1)).2) else (i, [])
abbrev bhF (F : Int → Int) (fe i : Int) : Prop := ¬ fe = -1 ∧ (i = fe ∨ (i = fe + 1 ∧ isPCC (F (i - 1))))
/-- one step at i: the FAULT (0: none), its place, the next place, the end of the latest figures, the signs -/
abbrev RST : Type := Int × Int × Int × Int × List Int
def stp (V : BV) (F : Int → Int) (m i fe : Int) : RST :=
  if F i = 60 then
    if F (i + 1) = 60 then
      if (crF V F (m - (i + 2)).toNat (i + 2)).1 = i + 2 then (fk V (F (i + 2)), i + 2, i + 2, fe, []) else (0, -1, (crF V F (m - (i + 2)).toNat (i + 2)).1, fe, (crF V F (m - (i + 2)).toNat (i + 2)).2)
    else if isLC (F (i + 1)) then (0, -1, i + 2, fe, [65 + F (i + 1) - 1]) else (fk V (F (i + 1)), i + 1, i + 2, fe, [])
  else if F i = 61 then
    if isFC (F (i + 1)) then (0, -1, (frF F (m - (i + 1)).toNat (i + 1)).1, (frF F (m - (i + 1)).toNat (i + 1)).1, (frF F (m - (i + 1)).toNat (i + 1)).2) else (fk V (F (i + 1)), i + 1, i + 1, fe, [])
  else if F i = 62 then
    if bhF F fe i ∧ (isFC (F (i + 1)) ∨ isRl V (F (i + 1))) then (0, -1, i + 1, fe, []) else (2, i, i + 1, fe, [])
  else if noCl V (F i) then (1, i, i + 1, fe, []) else (0, -1, i + 1, fe, if isLC (F i) ∨ isRC (F i) then ltrs V (F i) 97 else [mkS (F i)])
def rdF (V : BV) (F : Int → Int) (m : Int) : Nat → Int → Int → Int × Int × List Int
  | 0, _, _ => (0, -1, [])
  | k + 1, i, fe => if m ≤ i then (0, -1, []) else if ¬ (stp V F m i fe).1 = 0 then ((stp V F m i fe).1, (stp V F m i fe).2.1, []) else
    ((rdF V F m k (stp V F m i fe).2.2.1 (stp V F m i fe).2.2.2.1).1, (rdF V F m k (stp V F m i fe).2.2.1 (stp V F m i fe).2.2.2.1).2.1, (stp V F m i fe).2.2.2.2 ++ (rdF V F m k (stp V F m i fe).2.2.1 (stp V F m i fe).2.2.2.1).2.2)
def rd (V : BV) (F : Int → Int) (m i fe : Int) : Int × Int × List Int := rdF V F m (m - i).toNat i fe
theorem cdL_len (code base : Int) : ((cdL code base).length : Int) = lnC code := by
  unfold cdL
  have := (lnC_le code).1
  simp; omega
theorem ltrs_len (V : BV) (c base : Int) : (ltrs V c base).length ≤ 4 := by
  unfold ltrs
  split
  · simp
  · split
    · simp
    · have := cdL_len (vC' V (rOf V c).toNat) base
      have := (lnC_le (vC' V (rOf V c).toNat)).2
      omega
theorem crF_spec (V : BV) (F : Int → Int) : ∀ (k : Nat) (i : Int), i ≤ (crF V F k i).1 ∧ (crF V F k i).1 ≤ i + k ∧ ((crF V F k i).2.length : Int) ≤ 4 * ((crF V F k i).1 - i)
  | 0, i => by simp [crF]
  | k + 1, i => by
    have ih := crF_spec V F k (i + 1)
    unfold crF
    split
    · have := ltrs_len V (F i) 65
      simp only [List.length_append]
      omega
    · simp only [List.length_nil]; omega
theorem frF_spec (F : Int → Int) : ∀ (k : Nat) (i : Int), i ≤ (frF F k i).1 ∧ (frF F k i).1 ≤ i + k ∧ ((frF F k i).2.length : Int) = (frF F k i).1 - i
  | 0, i => by simp [frF]
  | k + 1, i => by
    have ih := frF_spec F k (i + 1)
    unfold frF
    split
    · simp only [List.length_cons]; omega
    · split
      · simp only [List.length_cons]; omega
      · simp only [List.length_nil]; omega
/-- a step goes on, and not beyond the end, and gives not too many signs -/
theorem stp_next {V : BV} {F : Int → Int} {m i fe : Int} (hF : ∀ j, m ≤ j → F j = -1) (hi : i < m) (hk : (stp V F m i fe).1 = 0) : i < (stp V F m i fe).2.2.1 ∧ (stp V F m i fe).2.2.1 ≤ m ∧ ((stp V F m i fe).2.2.2.2.length : Int) ≤ 4 * ((stp V F m i fe).2.2.1 - i) ∧ (stp V F m i fe).2.1 = -1 := by
  have hfk : ∀ c, ¬ fk V c = 0 := fun c => by unfold fk; split <;> omega
  have hin : ∀ j, ¬ F j = -1 → j < m := fun j h => Decidable.byContradiction fun q => h (hF j (by omega))
  unfold stp at hk ⊢
  by_cases h60 : F i = 60
  · rw [if_pos h60] at hk ⊢
    by_cases h60b : F (i + 1) = 60
    · rw [if_pos h60b] at hk ⊢
      have hc := crF_spec V F (m - (i + 2)).toNat (i + 2)
      have := hin (i + 1) (by omega)
      split at hk
      · exact absurd hk (hfk _)
      · rename_i q
        rw [if_neg q]
        refine ⟨?_, ?_, ?_, rfl⟩ <;> simp only <;> omega
    · rw [if_neg h60b] at hk ⊢
      split at hk
      · rename_i q
        have := hin (i + 1) (by simp only [isLC] at q; omega)
        rw [if_pos q]
        refine ⟨?_, ?_, ?_, rfl⟩ <;> simp <;> omega
      · exact absurd hk (hfk _)
  · rw [if_neg h60] at hk ⊢
    by_cases h61 : F i = 61
    · rw [if_pos h61] at hk ⊢
      split at hk
      · rename_i q
        have := hin (i + 1) (by simp only [isFC] at q; omega)
        have hc := frF_spec F (m - (i + 1)).toNat (i + 1)
        rw [if_pos q]
        refine ⟨?_, ?_, ?_, rfl⟩ <;> simp only <;> omega
      · exact absurd hk (hfk _)
    · rw [if_neg h61] at hk ⊢
      by_cases h62 : F i = 62
      · rw [if_pos h62] at hk ⊢
        split at hk
        · rename_i q
          rw [if_pos q]
          refine ⟨?_, ?_, ?_, rfl⟩ <;> simp <;> omega
        · exact absurd hk (show ¬ (2 : Int) = 0 by decide)
      · rw [if_neg h62] at hk ⊢
        split at hk
        · exact absurd hk (show ¬ (1 : Int) = 0 by decide)
        · rename_i q
          rw [if_neg q]
          refine ⟨?_, ?_, ?_, rfl⟩
          · simp only; omega
          · simp only; omega
          · simp only
            split
            · have := ltrs_len V (F i) 97
              omega
            · simp; omega
theorem rdF_fuel {V : BV} {F : Int → Int} {m : Int} (hF : ∀ j, m ≤ j → F j = -1) : ∀ (f f2 : Nat) (i fe : Int), (m - i).toNat ≤ f → (m - i).toNat ≤ f2 → rdF V F m f i fe = rdF V F m f2 i fe
  | 0, 0, i, fe, _, _ => rfl
  | 0, f2 + 1, i, fe, h1, _ => by unfold rdF; rw [if_pos (by omega)]
  | f + 1, 0, i, fe, _, h2 => by unfold rdF; rw [if_pos (by omega)]
  | f + 1, f2 + 1, i, fe, h1, h2 => by
    unfold rdF
    by_cases hb : m ≤ i
    · rw [if_pos hb, if_pos hb]
    · rw [if_neg hb, if_neg hb]
      by_cases hs : (stp V F m i fe).1 = 0
      · have hn := stp_next hF (by omega : i < m) hs
        rw [if_neg (fun q => q hs), if_neg (fun q => q hs), rdF_fuel hF f f2 _ _ (by omega) (by omega)]
      · rw [if_pos hs, if_pos hs]
theorem rd_end {V : BV} {F : Int → Int} {m i fe : Int} (h : m ≤ i) : rd V F m i fe = (0, -1, []) := by
  unfold rd; rw [show (m - i).toNat = 0 by omega]; rfl
theorem rd_fault {V : BV} {F : Int → Int} {m i fe : Int} (h : i < m) (hk : ¬ (stp V F m i fe).1 = 0) : rd V F m i fe = ((stp V F m i fe).1, (stp V F m i fe).2.1, []) := by
  unfold rd
  rw [show (m - i).toNat = (m - (i + 1)).toNat + 1 by omega]
  conv => lhs; unfold rdF
  rw [if_neg (by omega), if_pos hk]
theorem rd_step {V : BV} {F : Int → Int} {m i fe : Int} (hF : ∀ j, m ≤ j → F j = -1) (h : i < m) (hk : (stp V F m i fe).1 = 0) : rd V F m i fe = ((rd V F m (stp V F m i fe).2.2.1 (stp V F m i fe).2.2.2.1).1, (rd V F m (stp V F m i fe).2.2.1 (stp V F m i fe).2.2.2.1).2.1, (stp V F m i fe).2.2.2.2 ++ (rd V F m (stp V F m i fe).2.2.1 (stp V F m i fe).2.2.2.1).2.2) := by
  have hn := stp_next hF h hk
  unfold rd
  rw [show (m - i).toNat = (m - (i + 1)).toNat + 1 by omega]
  conv => lhs; unfold rdF
  rw [if_neg (by omega), if_neg (fun q => q hk), rdF_fuel hF _ (m - (stp V F m i fe).2.2.1).toNat _ _ (by omega) (by omega)]
end
section
/-! Reader -/
abbrev FX (M : Mem) : Int → Int := sgn (M 20 6) (M 19)
def adS (M : Mem) (s : Int) : Mem := mup (mup M 21 (M 20 1).toNat s) 20 1 (M 20 1 + 1)
/-- signs come behind what is read; the FAULT, its place, the figures' end -/
def RS (D : List Int) (k fa fe : Int) (M M2 : Mem) : Prop := M2 20 1 = M 20 1 + D.length ∧ (∀ j : Nat, (j : Int) < M 20 1 → M2 21 j = M 21 j) ∧ (∀ j : Nat, j < D.length → M2 21 ((M 20 1).toNat + j) = D.getD j 0) ∧ M2 20 2 = k ∧ M2 20 3 = fa ∧ M2 20 6 = M 20 6 ∧ M2 20 7 = fe ∧ ∀ o, ¬ o = 20 → ¬ o = 21 → M2 o = M o
theorem RS_nil (M : Mem) : RS [] (M 20 2) (M 20 3) (M 20 7) M M := ⟨by simp, fun _ _ => rfl, fun j h => by simp at h, rfl, rfl, rfl, rfl, fun _ _ _ => rfl⟩
theorem RS_1 {M : Mem} (h0 : 0 ≤ M 20 1) (s : Int) : RS [s] (M 20 2) (M 20 3) (M 20 7) M (adS M s) := by
  refine ⟨by simp [adS, mup_at], fun j hj => ?_, fun j hj => ?_, by simp [adS, mup_at], by simp [adS, mup_at], by simp [adS, mup_at], by simp [adS, mup_at], fun o h1 h2 => ?_⟩
  · have : ¬ j = (M 20 1).toNat := by omega
    simp [adS, mup_at, this]
  · have : j = 0 := by simpa using hj
    subst this
    simp [adS, mup_at]
  · funext j; simp [adS, mup_at, h1, h2]
theorem RS.trans {A B : List Int} {k fa fe k2 fa2 fe2 : Int} {M N M2 : Mem} (h : RS A k fa fe M N) (h2 : RS B k2 fa2 fe2 N M2) (h0 : 0 ≤ M 20 1) : RS (A ++ B) k2 fa2 fe2 M M2 := by
  obtain ⟨a1, a2, a3, a4, a5, a6, a7, a8⟩ := h
  obtain ⟨b1, b2, b3, b4, b5, b6, b7, b8⟩ := h2
  refine ⟨by rw [b1, a1, List.length_append]; omega, fun j hj => by rw [b2 j (by omega), a2 j hj], fun j hj => ?_, b4, b5, by rw [b6, a6], b7, fun o h1 h2 => by rw [b8 o h1 h2, a8 o h1 h2]⟩
  rw [List.length_append] at hj
  by_cases q : j < A.length
  · rw [b2 _ (by omega), a3 j q, List.getD_eq_getElem?_getD, List.getD_eq_getElem?_getD, List.getElem?_append_left q]
  · have e : (M 20 1).toNat + j = (N 20 1).toNat + (j - A.length) := by omega
    rw [e, b3 _ (by omega), List.getD_eq_getElem?_getD, List.getD_eq_getElem?_getD, List.getElem?_append_right (by omega)]
theorem RS.bx {D : List Int} {k fa fe : Int} {M M2 : Mem} (h : RS D k fa fe M M2) : bX M2 1 = bX M 1 := bX_same 1 (fun j a b => h.2.2.2.2.2.2.2 j (by omega) (by omega))
theorem RS.fx {D : List Int} {k fa fe : Int} {M M2 : Mem} (h : RS D k fa fe M M2) : FX M2 = FX M := by
  unfold FX; rw [h.2.2.2.2.2.1, h.2.2.2.2.2.2.2 19 (by omega) (by omega)]
def flA (M : Mem) (p k : Int) : Mem := mup (mup M 20 2 k) 20 3 p
theorem RS_fl (M : Mem) (p k : Int) : RS [] k p (M 20 7) M (flA M p k) := by
  refine ⟨by simp [flA, mup_at], fun j _ => by simp [flA, mup_at], fun j h => by simp at h, by simp [flA, mup_at], by simp [flA, mup_at], by simp [flA, mup_at], by simp [flA, mup_at], fun o h1 h2 => ?_⟩
  funext j; simp [flA, mup_at, h1]
theorem rOf_bX {M : Mem} (hb : Bx M) (c : Int) : fIx (M 3) c (M 1 4) = rOf (bX M 1) c := (fIx_cut (M 3) c hb.1).symm
def sp_X4_cellAt : SP := fun av M Ret => ∃ i : Int, av = [mr 20, mi i] ∧ (0 ≤ M 20 6 ∧ M 20 6 ≤ 240) ∧ (Ret (some (mi (FX M i))) M)
theorem k_X4_cellAt {code : List Sem} {Z : KZ} {Ret : KR} {ls : List (Option MV)} {M : Mem} {r : List MV} (hZ : Sim code Z Ret) (ip np : Nat) {i : Int} (hc : code[ip]? = some (I_callV 4 1 sp_X4_cellAt)) (hn : ip + 1 = np) (h3 : catS r ≤ 8)  (hp : 0 ≤ M 20 6 ∧ M 20 6 ≤ 240) (kz : Z np ls (mi (FX M i) :: r) M) : Z ip ls (mi i :: mr 20 :: r) M := w_callV1 hZ ip np hc hn rfl rfl h3 ⟨_, rfl, hp, kz⟩
def cd_X4_cellAt : List Sem := [I_iload 1, I_iflt 11, I_iload 1, I_aload 0, I_get 4 6, I_cge 11, I_aload 0, I_get 4 5, I_iload 1, I_iald, I_goto 12, I_const (-1), I_iret]
def pc_X4_cellAt : List Nat := [0, 1, 4, 5, 6, 9, 12, 13, 16, 17, 18, 21, 22]
set_option maxRecDepth 100000 in
set_option maxHeartbeats 4000000 in
theorem b_X4_cellAt (i : Int) (i_i : InR i) (M : Mem) (Ret : KR) (hp : 0 ≤ M 20 6 ∧ M 20 6 ≤ 240) (hR : Ret (some (mi (FX M i))) M) (hM : MOk M) (Z : KZ) (hZ : Sim cd_X4_cellAt Z Ret) : Z 0 [some (mr 20), some (mi i)] [] M := by
  obtain ⟨b3, b4⟩ := hp
  refine w_iload hZ 0 1 rfl rfl rfl ?_
  refine w_iflt hZ 1 2 rfl rfl (fun c1 => ?_) (fun c1 => ?_)
  · refine w_const hZ 11 12 rfl rfl  ?_
    refine w_iret hZ 12 rfl ?_
    exact ret_i hR (by unfold FX sgn; split <;> first | rfl | omega)
  · refine w_iload hZ 2 3 rfl rfl rfl ?_
    refine w_aload hZ 3 4 rfl rfl rfl ?_
    refine w_geti hZ 4 5 rfl rfl rfl rfl rfl ?_
    refine w_cge hZ 5 6 rfl rfl (fun c5 => ?_) (fun c5 => ?_)
    · refine w_const hZ 11 12 rfl rfl  ?_
      refine w_iret hZ 12 rfl ?_
      exact ret_i hR (by unfold FX sgn; split <;> first | rfl | omega)
    · refine w_aload hZ 6 7 rfl rfl rfl ?_
      refine w_getr hZ 7 8 rfl rfl rfl rfl rfl ?_
      refine w_iload hZ 8 9 rfl rfl rfl ?_
      refine w_iald hZ 9 10 rfl rfl rfl (by omega) (by omega) ?_
      refine w_goto hZ 10 12 rfl ?_
      refine w_iret hZ 12 rfl ?_
      exact ret_i hR (by unfold FX sgn; split <;> first | rfl | omega)
set_option maxRecDepth 100000 in
set_option maxHeartbeats 4000000 in
theorem ao_X4_cellAt : AllOk yX4_cellAt.cls cX4_cellAt 2 0 0 (some .int) none pc_X4_cellAt 0 cd_X4_cellAt := ⟨s_iload_n (k := 1) (by decide +kernel) rfl rfl, ⟨s_iflt (off := (20)) (by decide +kernel) rfl rfl, ⟨s_iload_n (k := 1) (by decide +kernel) rfl rfl, ⟨s_aload_n (k := 0) (by decide +kernel) rfl rfl, ⟨s_get (C := RX4) (T := TX4) (N := 8) rfl inT4 (by decide) tw_1_168 (by decide +kernel) rfl, ⟨s_cge (off := (12)) (by decide +kernel) rfl rfl, ⟨s_aload_n (k := 0) (by decide +kernel) rfl rfl, ⟨s_get (C := RX4) (T := TX4) (N := 8) rfl inT4 (by decide) tw_1_167 (by decide +kernel) rfl, ⟨s_iload_n (k := 1) (by decide +kernel) rfl rfl, ⟨s_iald (by decide +kernel) rfl, ⟨s_goto (off := (4)) (by decide +kernel) rfl, ⟨s_iconst (by decide +kernel) rfl ⟨by decide, by decide⟩, ⟨s_iret rfl (by decide +kernel), trivial⟩⟩⟩⟩⟩⟩⟩⟩⟩⟩⟩⟩⟩
theorem ct_X4_cellAt : Ctr yX4_cellAt cX4_cellAt 2 (some .int) 0 0 sp_X4_cellAt := by
  refine ctr_of (by decide +kernel) ao_X4_cellAt rfl ?_
  rintro av M Ret ⟨i, rfl, hp, hR⟩ hok hM
  exact ⟨Nat.le_of_ble_eq_true rfl, fun Z hZ => b_X4_cellAt  i (hok _ (List.mem_of_getElem? (i := 1) rfl)) M Ret hp hR hM Z hZ⟩
def sp_X4_isRule : SP := fun av M Ret => ∃ c : Int, av = [mr 20, mi c] ∧ (Bx M) ∧ (Ret (some (mi (b2i (isRl (bX M 1) c)))) M)
theorem k_X4_isRule {code : List Sem} {Z : KZ} {Ret : KR} {ls : List (Option MV)} {M : Mem} {r : List MV} (hZ : Sim code Z Ret) (ip np : Nat) {c : Int} (hc : code[ip]? = some (I_callV 4 1 sp_X4_isRule)) (hn : ip + 1 = np) (h3 : catS r ≤ 8)  (hp : Bx M) (kz : Z np ls (mi (b2i (isRl (bX M 1) c)) :: r) M) : Z ip ls (mi c :: mr 20 :: r) M := w_callV1 hZ ip np hc hn rfl rfl h3 ⟨_, rfl, hp, kz⟩
def cd_X4_isRule : List Sem := [I_iload 1, I_callS 1 sp_X6_isRuleCell, I_ifeq 11, I_aload 0, I_get 4 4, I_iload 1, I_callV 0 1 sp_X0_ruleOfCell, I_const (-1), I_ceq 11, I_const (1), I_goto 12, I_const (0), I_zret]
def pc_X4_isRule : List Nat := [0, 1, 4, 7, 8, 11, 12, 15, 16, 19, 20, 23, 24]
set_option maxRecDepth 100000 in
set_option maxHeartbeats 4000000 in
theorem b_X4_isRule (c : Int) (i_c : InR c) (M : Mem) (Ret : KR) (hp : Bx M) (hR : Ret (some (mi (b2i (isRl (bX M 1) c)))) M) (hM : MOk M) (Z : KZ) (hZ : Sim cd_X4_isRule Z Ret) : Z 0 [some (mr 20), some (mi c)] [] M := by
  refine w_iload hZ 0 1 rfl rfl rfl ?_
  refine k_X6_isRuleCell hZ 1 2 rfl rfl (Nat.le_of_ble_eq_true rfl)  ?_
  refine w_ifeq hZ 2 3 rfl rfl (fun c2 => ?_) (fun c2 => ?_)
  · refine w_const hZ 11 12 rfl rfl  ?_
    refine w_zret hZ 12 rfl (by omega) ?_
    first
      | exact ret_i hR (b2i_t ⟨b2i_e.mp c2, c8⟩)
      | exact ret_i hR (b2i_f (fun q => q.2 c8))
      | exact ret_i hR (b2i_f (fun q => (b2i_z.mp c2) q.1))
  · refine w_aload hZ 3 4 rfl rfl rfl ?_
    refine w_getr hZ 4 5 rfl rfl rfl rfl rfl ?_
    refine w_iload hZ 5 6 rfl rfl rfl ?_
    refine k_X0_ruleOfCell hZ 6 7 rfl rfl (Nat.le_of_ble_eq_true rfl) hp ?_
    rw [rOf_bX hp]
    refine w_const hZ 7 8 rfl rfl  ?_
    refine w_ceq hZ 8 9 rfl rfl (fun c8 => ?_) (fun c8 => ?_)
    · refine w_const hZ 11 12 rfl rfl  ?_
      refine w_zret hZ 12 rfl (by omega) ?_
      first
        | exact ret_i hR (b2i_t ⟨b2i_e.mp c2, c8⟩)
        | exact ret_i hR (b2i_f (fun q => q.2 c8))
        | exact ret_i hR (b2i_f (fun q => (b2i_z.mp c2) q.1))
    · refine w_const hZ 9 10 rfl rfl  ?_
      refine w_goto hZ 10 12 rfl ?_
      refine w_zret hZ 12 rfl (by omega) ?_
      first
        | exact ret_i hR (b2i_t ⟨b2i_e.mp c2, c8⟩)
        | exact ret_i hR (b2i_f (fun q => q.2 c8))
        | exact ret_i hR (b2i_f (fun q => (b2i_z.mp c2) q.1))
set_option maxRecDepth 100000 in
set_option maxHeartbeats 4000000 in
theorem ao_X4_isRule : AllOk yX4_isRule.cls cX4_isRule 2 1 22 (some .boolean) none pc_X4_isRule 0 cd_X4_isRule := ⟨s_iload_n (k := 1) (by decide +kernel) rfl rfl, ⟨s_callN ct_X6_isRuleCell (by decide) (by decide) ⟨by decide +kernel, by decide +kernel, by decide +kernel⟩ ni_16 tw_2_0 tw_1_1 tw_2_1 (by decide +kernel) rfl, ⟨s_ifeq (off := (19)) (by decide +kernel) rfl rfl, ⟨s_aload_n (k := 0) (by decide +kernel) rfl rfl, ⟨s_get (C := RX4) (T := TX4) (N := 8) rfl inT4 (by decide) tw_1_166 (by decide +kernel) rfl, ⟨s_iload_n (k := 1) (by decide +kernel) rfl rfl, ⟨s_callV (C := RX0) (T := TX0) (N := 8) rfl ct_X0_ruleOfCell (by decide) (by decide) ⟨rfl, by decide +kernel, by decide +kernel, by decide +kernel⟩ tw_3_74 tw_2_12 tw_2_13 tw_1_2 tw_2_14 (by decide +kernel) rfl, ⟨s_iconst (by decide +kernel) rfl ⟨by decide, by decide⟩, ⟨s_ceq (off := (7)) (by decide +kernel) rfl rfl, ⟨s_iconst (by decide +kernel) rfl ⟨by decide, by decide⟩, ⟨s_goto (off := (4)) (by decide +kernel) rfl, ⟨s_iconst (by decide +kernel) rfl ⟨by decide, by decide⟩, ⟨s_zret rfl (by decide +kernel), trivial⟩⟩⟩⟩⟩⟩⟩⟩⟩⟩⟩⟩⟩
theorem ct_X4_isRule : Ctr yX4_isRule cX4_isRule 2 (some .boolean) 1 22 sp_X4_isRule := by
  refine ctr_of (by decide +kernel) ao_X4_isRule rfl ?_
  rintro av M Ret ⟨c, rfl, hp, hR⟩ hok hM
  exact ⟨Nat.le_of_ble_eq_true rfl, fun Z hZ => b_X4_isRule  c (hok _ (List.mem_of_getElem? (i := 1) rfl)) M Ret hp hR hM Z hZ⟩
def sp_X4_isNoSuchCell : SP := fun av M Ret => ∃ c : Int, av = [mr 20, mi c] ∧ (Bx M) ∧ (Ret (some (mi (b2i (noCl (bX M 1) c)))) M)
theorem k_X4_isNoSuchCell {code : List Sem} {Z : KZ} {Ret : KR} {ls : List (Option MV)} {M : Mem} {r : List MV} (hZ : Sim code Z Ret) (ip np : Nat) {c : Int} (hc : code[ip]? = some (I_callV 4 1 sp_X4_isNoSuchCell)) (hn : ip + 1 = np) (h3 : catS r ≤ 8)  (hp : Bx M) (kz : Z np ls (mi (b2i (noCl (bX M 1) c)) :: r) M) : Z ip ls (mi c :: mr 20 :: r) M := w_callV1 hZ ip np hc hn rfl rfl h3 ⟨_, rfl, hp, kz⟩
def cd_X4_isNoSuchCell : List Sem := [I_iload 1, I_const (63), I_ceq 12, I_iload 1, I_callS 1 sp_X6_isRuleCell, I_ifeq 14, I_aload 0, I_get 4 4, I_iload 1, I_callV 0 1 sp_X0_ruleOfCell, I_const (-1), I_cne 14, I_const (1), I_goto 15, I_const (0), I_zret]
def pc_X4_isNoSuchCell : List Nat := [0, 1, 3, 6, 7, 10, 13, 14, 17, 18, 21, 22, 25, 26, 29, 30]
set_option maxRecDepth 100000 in
set_option maxHeartbeats 4000000 in
theorem b_X4_isNoSuchCell (c : Int) (i_c : InR c) (M : Mem) (Ret : KR) (hp : Bx M) (hR : Ret (some (mi (b2i (noCl (bX M 1) c)))) M) (hM : MOk M) (Z : KZ) (hZ : Sim cd_X4_isNoSuchCell Z Ret) : Z 0 [some (mr 20), some (mi c)] [] M := by
  refine w_iload hZ 0 1 rfl rfl rfl ?_
  refine w_const hZ 1 2 rfl rfl  ?_
  refine w_ceq hZ 2 3 rfl rfl (fun c2 => ?_) (fun c2 => ?_)
  · refine w_const hZ 12 13 rfl rfl  ?_
    refine w_goto hZ 13 15 rfl ?_
    refine w_zret hZ 15 rfl (by omega) ?_
    first
      | exact ret_i hR (b2i_t (Or.inl c2))
      | exact ret_i hR (b2i_t (Or.inr ⟨b2i_e.mp c5, c11⟩))
      | exact ret_i hR (b2i_f (fun q => q.elim c2 (fun q => c11 q.2)))
      | exact ret_i hR (b2i_f (fun q => q.elim c2 (fun q => (b2i_z.mp c5) q.1)))
  · refine w_iload hZ 3 4 rfl rfl rfl ?_
    refine k_X6_isRuleCell hZ 4 5 rfl rfl (Nat.le_of_ble_eq_true rfl)  ?_
    refine w_ifeq hZ 5 6 rfl rfl (fun c5 => ?_) (fun c5 => ?_)
    · refine w_const hZ 14 15 rfl rfl  ?_
      refine w_zret hZ 15 rfl (by omega) ?_
      first
        | exact ret_i hR (b2i_t (Or.inl c2))
        | exact ret_i hR (b2i_t (Or.inr ⟨b2i_e.mp c5, c11⟩))
        | exact ret_i hR (b2i_f (fun q => q.elim c2 (fun q => c11 q.2)))
        | exact ret_i hR (b2i_f (fun q => q.elim c2 (fun q => (b2i_z.mp c5) q.1)))
    · refine w_aload hZ 6 7 rfl rfl rfl ?_
      refine w_getr hZ 7 8 rfl rfl rfl rfl rfl ?_
      refine w_iload hZ 8 9 rfl rfl rfl ?_
      refine k_X0_ruleOfCell hZ 9 10 rfl rfl (Nat.le_of_ble_eq_true rfl) hp ?_
      rw [rOf_bX hp]
      refine w_const hZ 10 11 rfl rfl  ?_
      refine w_cne hZ 11 12 rfl rfl (fun c11 => ?_) (fun c11 => ?_)
      · refine w_const hZ 14 15 rfl rfl  ?_
        refine w_zret hZ 15 rfl (by omega) ?_
        first
          | exact ret_i hR (b2i_t (Or.inl c2))
          | exact ret_i hR (b2i_t (Or.inr ⟨b2i_e.mp c5, c11⟩))
          | exact ret_i hR (b2i_f (fun q => q.elim c2 (fun q => c11 q.2)))
          | exact ret_i hR (b2i_f (fun q => q.elim c2 (fun q => (b2i_z.mp c5) q.1)))
      · refine w_const hZ 12 13 rfl rfl  ?_
        refine w_goto hZ 13 15 rfl ?_
        refine w_zret hZ 15 rfl (by omega) ?_
        first
          | exact ret_i hR (b2i_t (Or.inl c2))
          | exact ret_i hR (b2i_t (Or.inr ⟨b2i_e.mp c5, c11⟩))
          | exact ret_i hR (b2i_f (fun q => q.elim c2 (fun q => c11 q.2)))
          | exact ret_i hR (b2i_f (fun q => q.elim c2 (fun q => (b2i_z.mp c5) q.1)))
set_option maxRecDepth 100000 in
set_option maxHeartbeats 4000000 in
theorem ao_X4_isNoSuchCell : AllOk yX4_isNoSuchCell.cls cX4_isNoSuchCell 2 1 22 (some .boolean) none pc_X4_isNoSuchCell 0 cd_X4_isNoSuchCell := ⟨s_iload_n (k := 1) (by decide +kernel) rfl rfl, ⟨s_bipush (by decide +kernel) rfl ⟨by decide, by decide⟩ (by decide +kernel), ⟨s_ceq (off := (22)) (by decide +kernel) rfl rfl, ⟨s_iload_n (k := 1) (by decide +kernel) rfl rfl, ⟨s_callN ct_X6_isRuleCell (by decide) (by decide) ⟨by decide +kernel, by decide +kernel, by decide +kernel⟩ ni_16 tw_2_0 tw_1_1 tw_2_1 (by decide +kernel) rfl, ⟨s_ifeq (off := (19)) (by decide +kernel) rfl rfl, ⟨s_aload_n (k := 0) (by decide +kernel) rfl rfl, ⟨s_get (C := RX4) (T := TX4) (N := 8) rfl inT4 (by decide) tw_1_166 (by decide +kernel) rfl, ⟨s_iload_n (k := 1) (by decide +kernel) rfl rfl, ⟨s_callV (C := RX0) (T := TX0) (N := 8) rfl ct_X0_ruleOfCell (by decide) (by decide) ⟨rfl, by decide +kernel, by decide +kernel, by decide +kernel⟩ tw_3_74 tw_2_12 tw_2_13 tw_1_2 tw_2_14 (by decide +kernel) rfl, ⟨s_iconst (by decide +kernel) rfl ⟨by decide, by decide⟩, ⟨s_cne (off := (7)) (by decide +kernel) rfl rfl, ⟨s_iconst (by decide +kernel) rfl ⟨by decide, by decide⟩, ⟨s_goto (off := (4)) (by decide +kernel) rfl, ⟨s_iconst (by decide +kernel) rfl ⟨by decide, by decide⟩, ⟨s_zret rfl (by decide +kernel), trivial⟩⟩⟩⟩⟩⟩⟩⟩⟩⟩⟩⟩⟩⟩⟩⟩
theorem ct_X4_isNoSuchCell : Ctr yX4_isNoSuchCell cX4_isNoSuchCell 2 (some .boolean) 1 22 sp_X4_isNoSuchCell := by
  refine ctr_of (by decide +kernel) ao_X4_isNoSuchCell rfl ?_
  rintro av M Ret ⟨c, rfl, hp, hR⟩ hok hM
  exact ⟨Nat.le_of_ble_eq_true rfl, fun Z hZ => b_X4_isNoSuchCell  c (hok _ (List.mem_of_getElem? (i := 1) rfl)) M Ret hp hR hM Z hZ⟩
def sp_X4_addSign : SP := fun av M Ret => ∃ s : Int, av = [mr 20, mi s] ∧ (0 ≤ M 20 1 ∧ M 20 1 < 960) ∧ (∀ M2 : Mem, (M2 = adS M s) → Ret none M2)
theorem k_X4_addSign {code : List Sem} {Z : KZ} {Ret : KR} {ls : List (Option MV)} {M : Mem} {r : List MV} (hZ : Sim code Z Ret) (ip np : Nat) {s : Int} (hc : code[ip]? = some (I_callV 4 1 sp_X4_addSign)) (hn : ip + 1 = np) (h3 : catS r ≤ 8)  (hp : 0 ≤ M 20 1 ∧ M 20 1 < 960) (kz : ∀ M2 : Mem, (M2 = adS M s) → Z np ls r M2) : Z ip ls (mi s :: mr 20 :: r) M := w_callV1 hZ ip np hc hn rfl rfl h3 ⟨_, rfl, hp, fun M2 h => kz M2 h⟩
def cd_X4_addSign : List Sem := [I_aload 0, I_get 4 1, I_const (960), I_cge 16, I_aload 0, I_get 4 0, I_aload 0, I_get 4 1, I_iload 1, I_iast, I_aload 0, I_dup, I_get 4 1, I_const (1), I_add, I_puti 4 1, I_vret]
def pc_X4_addSign : List Nat := [0, 1, 4, 7, 10, 11, 14, 15, 18, 19, 20, 21, 22, 25, 26, 27, 30]
set_option maxRecDepth 100000 in
set_option maxHeartbeats 4000000 in
theorem b_X4_addSign (s : Int) (i_s : InR s) (M : Mem) (Ret : KR) (hp : 0 ≤ M 20 1 ∧ M 20 1 < 960) (hR : ∀ M2 : Mem, (M2 = adS M s) → Ret none M2) (hM : MOk M) (Z : KZ) (hZ : Sim cd_X4_addSign Z Ret) : Z 0 [some (mr 20), some (mi s)] [] M := by
  obtain ⟨b1, b2⟩ := hp
  refine w_aload hZ 0 1 rfl rfl rfl ?_
  refine w_geti hZ 1 2 rfl rfl rfl rfl rfl ?_
  refine w_const hZ 2 3 rfl rfl  ?_
  refine w_cge hZ 3 4 rfl rfl (fun c3 => absurd c3 (by omega)) (fun c3 => ?_)
  refine w_aload hZ 4 5 rfl rfl rfl ?_
  refine w_getr hZ 5 6 rfl rfl rfl rfl rfl ?_
  refine w_aload hZ 6 7 rfl rfl rfl ?_
  refine w_geti hZ 7 8 rfl rfl rfl rfl rfl ?_
  refine w_iload hZ 8 9 rfl rfl rfl ?_
  refine w_iast hZ 9 10 rfl rfl rfl (by omega) (by omega) ?_
  refine w_aload hZ 10 11 rfl rfl rfl ?_
  refine w_dup hZ 11 12 rfl rfl rfl ?_
  refine w_getiv hZ 12 13 rfl rfl rfl rfl rfl (v := M 20 1) rfl ?_
  refine w_const hZ 13 14 rfl rfl  ?_
  refine w_add hZ 14 15 rfl rfl (by unfold InR; omega) ?_
  refine w_puti hZ 15 16 rfl rfl rfl rfl rfl ?_
  refine w_vret hZ 16 rfl ?_
  exact hR _ rfl
set_option maxRecDepth 100000 in
set_option maxHeartbeats 4000000 in
theorem ao_X4_addSign : AllOk yX4_addSign.cls cX4_addSign 2 0 0 none none pc_X4_addSign 0 cd_X4_addSign := ⟨s_aload_n (k := 0) (by decide +kernel) rfl rfl, ⟨s_get (C := RX4) (T := TX4) (N := 8) rfl inT4 (by decide) tw_1_160 (by decide +kernel) rfl, ⟨s_sipush (by decide +kernel) rfl ⟨by decide, by decide⟩ (by decide +kernel), ⟨s_cge (off := (23)) (by decide +kernel) rfl rfl, ⟨s_aload_n (k := 0) (by decide +kernel) rfl rfl, ⟨s_get (C := RX4) (T := TX4) (N := 8) rfl inT4 (by decide) tw_1_158 (by decide +kernel) rfl, ⟨s_aload_n (k := 0) (by decide +kernel) rfl rfl, ⟨s_get (C := RX4) (T := TX4) (N := 8) rfl inT4 (by decide) tw_1_160 (by decide +kernel) rfl, ⟨s_iload_n (k := 1) (by decide +kernel) rfl rfl, ⟨s_iast (by decide +kernel) rfl, ⟨s_aload_n (k := 0) (by decide +kernel) rfl rfl, ⟨s_dup (by decide +kernel) rfl, ⟨s_get (C := RX4) (T := TX4) (N := 8) rfl inT4 (by decide) tw_1_160 (by decide +kernel) rfl, ⟨s_iconst (by decide +kernel) rfl ⟨by decide, by decide⟩, ⟨s_add (by decide +kernel) rfl, ⟨s_puti (C := RX4) (T := TX4) (N := 8) (tyf := tyX4) rfl inT4 tyX4_ok nmX4 (by decide) rfl rfl tw_1_160 (by decide +kernel) rfl, ⟨s_vret rfl (by decide +kernel), trivial⟩⟩⟩⟩⟩⟩⟩⟩⟩⟩⟩⟩⟩⟩⟩⟩⟩
theorem ct_X4_addSign : Ctr yX4_addSign cX4_addSign 2 none 0 0 sp_X4_addSign := by
  refine ctr_of (by decide +kernel) ao_X4_addSign rfl ?_
  rintro av M Ret ⟨s, rfl, hp, hR⟩ hok hM
  exact ⟨Nat.le_of_ble_eq_true rfl, fun Z hZ => b_X4_addSign  s (hok _ (List.mem_of_getElem? (i := 1) rfl)) M Ret hp hR hM Z hZ⟩
def sp_X4_failAt : SP := fun av M Ret => ∃ p : Int, ∃ k : Int, av = [mr 20, mi p, mi k] ∧ (∀ M2 : Mem, (M2 = flA M p k) → Ret none M2)
theorem k_X4_failAt {code : List Sem} {Z : KZ} {Ret : KR} {ls : List (Option MV)} {M : Mem} {r : List MV} (hZ : Sim code Z Ret) (ip np : Nat) {p k : Int} (hc : code[ip]? = some (I_callV 4 2 sp_X4_failAt)) (hn : ip + 1 = np) (h3 : catS r ≤ 8)   (kz : ∀ M2 : Mem, (M2 = flA M p k) → Z np ls r M2) : Z ip ls (mi k :: mi p :: mr 20 :: r) M := w_callV2 hZ ip np hc hn rfl rfl h3 ⟨_, _, rfl, fun M2 h => kz M2 h⟩
def cd_X4_failAt : List Sem := [I_aload 0, I_iload 2, I_puti 4 2, I_aload 0, I_iload 1, I_puti 4 3, I_vret]
def pc_X4_failAt : List Nat := [0, 1, 2, 5, 6, 7, 10]
set_option maxRecDepth 100000 in
set_option maxHeartbeats 4000000 in
theorem b_X4_failAt (p : Int) (i_p : InR p) (k : Int) (i_k : InR k) (M : Mem) (Ret : KR)  (hR : ∀ M2 : Mem, (M2 = flA M p k) → Ret none M2) (hM : MOk M) (Z : KZ) (hZ : Sim cd_X4_failAt Z Ret) : Z 0 [some (mr 20), some (mi p), some (mi k)] [] M := by
  refine w_aload hZ 0 1 rfl rfl rfl ?_
  refine w_iload hZ 1 2 rfl rfl rfl ?_
  refine w_puti hZ 2 3 rfl rfl rfl rfl rfl ?_
  refine w_aload hZ 3 4 rfl rfl rfl ?_
  refine w_iload hZ 4 5 rfl rfl rfl ?_
  refine w_puti hZ 5 6 rfl rfl rfl rfl rfl ?_
  refine w_vret hZ 6 rfl ?_
  exact hR _ rfl
set_option maxRecDepth 100000 in
set_option maxHeartbeats 4000000 in
theorem ao_X4_failAt : AllOk yX4_failAt.cls cX4_failAt 3 0 0 none none pc_X4_failAt 0 cd_X4_failAt := ⟨s_aload_n (k := 0) (by decide +kernel) rfl rfl, ⟨s_iload_n (k := 2) (by decide +kernel) rfl rfl, ⟨s_puti (C := RX4) (T := TX4) (N := 8) (tyf := tyX4) rfl inT4 tyX4_ok nmX4 (by decide) rfl rfl tw_1_162 (by decide +kernel) rfl, ⟨s_aload_n (k := 0) (by decide +kernel) rfl rfl, ⟨s_iload_n (k := 1) (by decide +kernel) rfl rfl, ⟨s_puti (C := RX4) (T := TX4) (N := 8) (tyf := tyX4) rfl inT4 tyX4_ok nmX4 (by decide) rfl rfl tw_1_164 (by decide +kernel) rfl, ⟨s_vret rfl (by decide +kernel), trivial⟩⟩⟩⟩⟩⟩⟩
theorem ct_X4_failAt : Ctr yX4_failAt cX4_failAt 3 none 0 0 sp_X4_failAt := by
  refine ctr_of (by decide +kernel) ao_X4_failAt rfl ?_
  rintro av M Ret ⟨p, k, rfl, hR⟩ hok hM
  exact ⟨Nat.le_of_ble_eq_true rfl, fun Z hZ => b_X4_failAt  p (hok _ (List.mem_of_getElem? (i := 1) rfl)) k (hok _ (List.mem_of_getElem? (i := 2) rfl)) M Ret  hR hM Z hZ⟩
def sp_X4_failWrongAt : SP := fun av M Ret => ∃ p : Int, av = [mr 20, mi p] ∧ (Bx M ∧ 0 ≤ M 20 6 ∧ M 20 6 ≤ 240) ∧ (∀ M2 : Mem, (M2 = flA M p (fk (bX M 1) (FX M p))) → Ret none M2)
theorem k_X4_failWrongAt {code : List Sem} {Z : KZ} {Ret : KR} {ls : List (Option MV)} {M : Mem} {r : List MV} (hZ : Sim code Z Ret) (ip np : Nat) {p : Int} (hc : code[ip]? = some (I_callV 4 1 sp_X4_failWrongAt)) (hn : ip + 1 = np) (h3 : catS r ≤ 8)  (hp : Bx M ∧ 0 ≤ M 20 6 ∧ M 20 6 ≤ 240) (kz : ∀ M2 : Mem, (M2 = flA M p (fk (bX M 1) (FX M p))) → Z np ls r M2) : Z ip ls (mi p :: mr 20 :: r) M := w_callV1 hZ ip np hc hn rfl rfl h3 ⟨_, rfl, hp, fun M2 h => kz M2 h⟩
def cd_X4_failWrongAt : List Sem := [I_aload 0, I_iload 1, I_aload 0, I_aload 0, I_iload 1, I_callV 4 1 sp_X4_cellAt, I_callV 4 1 sp_X4_isNoSuchCell, I_ifeq 10, I_const (1), I_goto 11, I_const (2), I_callV 4 2 sp_X4_failAt, I_vret]
def pc_X4_failWrongAt : List Nat := [0, 1, 2, 3, 4, 5, 8, 11, 14, 15, 18, 19, 22]
set_option maxRecDepth 100000 in
set_option maxHeartbeats 4000000 in
theorem b_X4_failWrongAt (p : Int) (i_p : InR p) (M : Mem) (Ret : KR) (hp : Bx M ∧ 0 ≤ M 20 6 ∧ M 20 6 ≤ 240) (hR : ∀ M2 : Mem, (M2 = flA M p (fk (bX M 1) (FX M p))) → Ret none M2) (hM : MOk M) (Z : KZ) (hZ : Sim cd_X4_failWrongAt Z Ret) : Z 0 [some (mr 20), some (mi p)] [] M := by
  obtain ⟨hb, h6⟩ := hp
  refine w_aload hZ 0 1 rfl rfl rfl ?_
  refine w_iload hZ 1 2 rfl rfl rfl ?_
  refine w_aload hZ 2 3 rfl rfl rfl ?_
  refine w_aload hZ 3 4 rfl rfl rfl ?_
  refine w_iload hZ 4 5 rfl rfl rfl ?_
  refine k_X4_cellAt hZ 5 6 rfl rfl (Nat.le_of_ble_eq_true rfl) h6 ?_
  refine k_X4_isNoSuchCell hZ 6 7 rfl rfl (Nat.le_of_ble_eq_true rfl) hb ?_
  refine w_ifeq hZ 7 8 rfl rfl (fun c7 => ?_) (fun c7 => ?_)
  · refine w_const hZ 10 11 rfl rfl  ?_
    refine k_X4_failAt hZ 11 12 rfl rfl (Nat.le_of_ble_eq_true rfl)  (fun M11 p11 => ?_)
    refine w_vret hZ 12 rfl ?_
    subst p11
    refine hR _ ?_
    unfold fk
    first
      | rw [if_pos (b2i_e.mp c7)]
      | rw [if_neg (b2i_z.mp c7)]
  · refine w_const hZ 8 9 rfl rfl  ?_
    refine w_goto hZ 9 11 rfl ?_
    refine k_X4_failAt hZ 11 12 rfl rfl (Nat.le_of_ble_eq_true rfl)  (fun M11 p11 => ?_)
    refine w_vret hZ 12 rfl ?_
    subst p11
    refine hR _ ?_
    unfold fk
    first
      | rw [if_pos (b2i_e.mp c7)]
      | rw [if_neg (b2i_z.mp c7)]
set_option maxRecDepth 100000 in
set_option maxHeartbeats 4000000 in
theorem ao_X4_failWrongAt : AllOk yX4_failWrongAt.cls cX4_failWrongAt 2 2 43 none none pc_X4_failWrongAt 0 cd_X4_failWrongAt := ⟨s_aload_n (k := 0) (by decide +kernel) rfl rfl, ⟨s_iload_n (k := 1) (by decide +kernel) rfl rfl, ⟨s_aload_n (k := 0) (by decide +kernel) rfl rfl, ⟨s_aload_n (k := 0) (by decide +kernel) rfl rfl, ⟨s_iload_n (k := 1) (by decide +kernel) rfl rfl, ⟨s_callV (C := RX4) (T := TX4) (N := 8) rfl ct_X4_cellAt (by decide) (by decide) ⟨rfl, by decide +kernel, by decide +kernel, by decide +kernel⟩ tw_3_58 tw_3_60 ts_2_6 tw_1_6 tw_3_61 (by decide +kernel) rfl, ⟨s_callV (C := RX4) (T := TX4) (N := 8) rfl ct_X4_isNoSuchCell (by decide) (by decide) ⟨rfl, by decide +kernel, by decide +kernel, by decide +kernel⟩ tw_3_88 tw_3_90 ts_2_12 tw_1_6 tw_3_91 (by decide +kernel) rfl, ⟨s_ifeq (off := (7)) (by decide +kernel) rfl rfl, ⟨s_iconst (by decide +kernel) rfl ⟨by decide, by decide⟩, ⟨s_goto (off := (4)) (by decide +kernel) rfl, ⟨s_iconst (by decide +kernel) rfl ⟨by decide, by decide⟩, ⟨s_callV (C := RX4) (T := TX4) (N := 8) rfl ct_X4_failAt (by decide) (by decide) ⟨rfl, by decide +kernel, by decide +kernel, by decide +kernel⟩ tw_3_92 tw_3_94 ts_2_13 tw_1_6 tw_3_95 (by decide +kernel) rfl, ⟨s_vret rfl (by decide +kernel), trivial⟩⟩⟩⟩⟩⟩⟩⟩⟩⟩⟩⟩⟩
theorem ct_X4_failWrongAt : Ctr yX4_failWrongAt cX4_failWrongAt 2 none 2 43 sp_X4_failWrongAt := by
  refine ctr_of (by decide +kernel) ao_X4_failWrongAt rfl ?_
  rintro av M Ret ⟨p, rfl, hp, hR⟩ hok hM
  exact ⟨Nat.le_of_ble_eq_true rfl, fun Z hZ => b_X4_failWrongAt  p (hok _ (List.mem_of_getElem? (i := 1) rfl)) M Ret hp hR hM Z hZ⟩
def sp_X4_addLetters : SP := fun av M Ret => ∃ c : Int, ∃ bs : Int, av = [mr 20, mi c, mi bs] ∧ (vOk (bX M 1) ∧ 0 ≤ M 20 1 ∧ M 20 1 + 4 ≤ 960 ∧ 0 ≤ bs ∧ bs ≤ 1000) ∧ (∀ M2 : Mem, (RS (ltrs (bX M 1) c bs) (M 20 2) (M 20 3) (M 20 7) M M2) → Ret none M2)
theorem k_X4_addLetters {code : List Sem} {Z : KZ} {Ret : KR} {ls : List (Option MV)} {M : Mem} {r : List MV} (hZ : Sim code Z Ret) (ip np : Nat) {c bs : Int} (hc : code[ip]? = some (I_callV 4 2 sp_X4_addLetters)) (hn : ip + 1 = np) (h3 : catS r ≤ 8)  (hp : vOk (bX M 1) ∧ 0 ≤ M 20 1 ∧ M 20 1 + 4 ≤ 960 ∧ 0 ≤ bs ∧ bs ≤ 1000) (kz : ∀ M2 : Mem, (RS (ltrs (bX M 1) c bs) (M 20 2) (M 20 3) (M 20 7) M M2) → Z np ls r M2) : Z ip ls (mi bs :: mi c :: mr 20 :: r) M := w_callV2 hZ ip np hc hn rfl rfl h3 ⟨_, _, rfl, hp, fun M2 h => kz M2 h⟩
def cd_X4_addLetters : List Sem := [I_iload 1, I_callS 1 sp_X6_isLetterCell, I_ifeq 11, I_aload 0, I_iload 2, I_iload 1, I_add, I_const (1), I_sub, I_callV 4 1 sp_X4_addSign, I_vret, I_aload 0, I_get 4 4, I_iload 1, I_callV 0 1 sp_X0_ruleOfCell, I_istore 3, I_iload 3, I_const (-1), I_cne 20, I_vret, I_aload 0, I_get 4 4, I_get 0 0, I_iload 3, I_iald, I_istore 4, I_iload 4, I_callS 1 sp_X6_lettersOf, I_istore 5, I_const (1), I_istore 6, I_const (1), I_istore 7, I_iload 7, I_iload 5, I_cge 42, I_iload 6, I_const (27), I_mul, I_istore 6, I_iinc 7 (1), I_goto 33, I_const (0), I_istore 7, I_iload 7, I_iload 5, I_cge 66, I_iload 6, I_ifle 66, I_aload 0, I_iload 2, I_iload 4, I_iload 6, I_div, I_const (27), I_rem, I_add, I_const (1), I_sub, I_callV 4 1 sp_X4_addSign, I_iload 6, I_const (27), I_div, I_istore 6, I_iinc 7 (1), I_goto 44, I_vret]
def pc_X4_addLetters : List Nat := [0, 1, 4, 7, 8, 9, 10, 11, 12, 13, 16, 17, 18, 21, 22, 25, 26, 27, 28, 31, 32, 33, 36, 39, 40, 41, 43, 45, 48, 50, 51, 53, 54, 56, 58, 60, 63, 65, 67, 68, 70, 73, 76, 77, 79, 81, 83, 86, 88, 91, 92, 93, 95, 97, 98, 100, 101, 102, 103, 104, 107, 109, 111, 112, 114, 117, 120]
set_option maxRecDepth 100000 in
set_option maxHeartbeats 4000000 in
theorem b_X4_addLetters (c : Int) (i_c : InR c) (bs : Int) (i_bs : InR bs) (M : Mem) (Ret : KR) (hp : vOk (bX M 1) ∧ 0 ≤ M 20 1 ∧ M 20 1 + 4 ≤ 960 ∧ 0 ≤ bs ∧ bs ≤ 1000) (hR : ∀ M2 : Mem, (RS (ltrs (bX M 1) c bs) (M 20 2) (M 20 3) (M 20 7) M M2) → Ret none M2) (hM : MOk M) (Z : KZ) (hZ : Sim cd_X4_addLetters Z Ret) : Z 0 [some (mr 20), some (mi c), some (mi bs), none, none, none, none, none] [] M := by
  obtain ⟨hv, h0, h1, s0, s1⟩ := hp
  have hb := hv.bx
  have hbb := hb
  obtain ⟨b1, b2, b3, b4⟩ := hbb
  generalize hV : bX M 1 = V at *
  have hro : rOf V c = fIx (M 3) c (M 1 4) := by rw [rOf_bX hb, hV]
  have t26 : ¬ isLC c → ¬ rOf V c = -1 → ∀ cd : Int, vC cd → cd = vC' V (rOf V c).toNat → Z 26 [some (mr 20), some (mi c), some (mi bs), none, some (mi cd), none, none, none] [] M := by
    intro hnl hne cd hcd hce
    have hlt : ltrs V c bs = cdL cd bs := by unfold ltrs; rw [if_neg hnl, if_neg hne, ← hce]
    have hln := lnC_le cd
    have hln2 := lnC_2.mpr hcd.1
    have wr : ∀ (d : Nat) (e u : Int) (N : Mem), d = (lnC cd - e).toNat → 0 ≤ e → e ≤ lnC cd → (e < lnC cd → u = p27 (lnC cd - 1 - e)) → RS ((List.range e.toNat).map fun (x : Nat) => bs + dgC cd (x : Int) - 1) (M 20 2) (M 20 3) (M 20 7) M N → Z 44 [some (mr 20), some (mi c), some (mi bs), none, some (mi cd), some (mi (lnC cd)), some (mi u), some (mi e)] [] N := by
      intro d
      induction d using Nat.strongRecOn with
      | ind d ih =>
        intro e u N hd e0 e1 hu hN
        have n1 := hN.1
        rw [List.length_map, List.length_range] at n1
        have hpp := p27_pos (lnC cd - 1 - e)
        refine w_iload hZ 44 45 rfl rfl rfl ?_
        refine w_iload hZ 45 46 rfl rfl rfl ?_
        refine w_cge hZ 46 47 rfl rfl (fun c46 => ?_) (fun c46 => ?_)
        · refine w_vret hZ 66 rfl ?_
          have he : e = lnC cd := by omega
          refine hR _ ?_
          rw [hlt]
          unfold cdL
          rw [← he]
          exact hN
        · have hue := hu (by omega)
          have hdg : dgC cd e = cd / u % 27 := by unfold dgC; rw [hue]
          have hq : 0 ≤ cd / u := Int.ediv_nonneg (by have := hcd.1; omega) (by omega)
          have hq2 : 0 ≤ cd / u % 27 ∧ cd / u % 27 < 27 := by omega
          refine w_iload hZ 47 48 rfl rfl rfl ?_
          refine w_ifle hZ 48 49 rfl rfl (fun c48 => absurd c48 (by have := hu (by omega); omega)) (fun c48 => ?_)
          refine w_aload hZ 49 50 rfl rfl rfl ?_
          refine w_iload hZ 50 51 rfl rfl rfl ?_
          refine w_iload hZ 51 52 rfl rfl rfl ?_
          refine w_iload hZ 52 53 rfl rfl rfl ?_
          refine w_div hZ 53 54 rfl rfl (by have := hcd.1; omega) (by omega) ?_
          refine w_const hZ 54 55 rfl rfl  ?_
          refine w_rem hZ 55 56 rfl rfl (by omega) (by omega) ?_
          refine w_add hZ 56 57 rfl rfl (by unfold InR; omega) ?_
          refine w_const hZ 57 58 rfl rfl  ?_
          refine w_sub hZ 58 59 rfl rfl (by unfold InR; omega) ?_
          refine k_X4_addSign hZ 59 60 rfl rfl (Nat.le_of_ble_eq_true rfl) ⟨by omega, by omega⟩ (fun M59 p59 => ?_)
          subst p59
          refine w_iload hZ 60 61 rfl rfl rfl ?_
          refine w_const hZ 61 62 rfl rfl ?_
          refine w_div hZ 62 63 rfl rfl (by omega) (by omega) ?_
          refine w_st8_6 hZ 63 64 rfl rfl rfl ?_
          refine w_in8_7 hZ 64 65 rfl rfl rfl (by unfold InR; omega) ?_
          refine w_goto hZ 65 44 rfl ?_
          refine ih ((lnC cd - (e + 1)).toNat) (by omega) (e + 1) (u / 27) _ rfl (by omega) (by omega) (fun he => ?_) ?_
          · rw [hue]
            have hx : lnC cd - 1 - e = (lnC cd - 1 - (e + 1)) + 1 := by omega
            rcases (by omega : lnC cd - 1 - (e + 1) = 0 ∨ lnC cd - 1 - (e + 1) = 1 ∨ lnC cd - 1 - (e + 1) = 2) with z | z | z <;> rw [hx, z] <;> decide
          · have hz := hN.trans (RS_1 (by omega) (bs + cd / u % 27 - 1)) h0
            rw [hN.2.2.2.1, hN.2.2.2.2.1, hN.2.2.2.2.2.2.1] at hz
            have hrg : (List.range (e + 1).toNat).map (fun (x : Nat) => bs + dgC cd (x : Int) - 1) = (List.range e.toNat).map (fun (x : Nat) => bs + dgC cd (x : Int) - 1) ++ [bs + cd / u % 27 - 1] := by
              rw [show (e + 1).toNat = e.toNat + 1 by omega, List.range_succ, List.map_append]
              simp only [List.map_cons, List.map_nil]
              rw [Int.toNat_of_nonneg e0, hdg]
            rw [hrg]; exact hz
    have un : ∀ (d : Nat) (e u : Int), d = (lnC cd - e).toNat → 1 ≤ e → e ≤ lnC cd → u = p27 (e - 1) → Z 33 [some (mr 20), some (mi c), some (mi bs), none, some (mi cd), some (mi (lnC cd)), some (mi u), some (mi e)] [] M := by
      intro d
      induction d using Nat.strongRecOn with
      | ind d ih =>
        intro e u hd e0 e1 hu
        have hub : u ≤ 19683 ∧ 1 ≤ u := by rw [hu]; unfold p27; repeat' split <;> omega
        refine w_iload hZ 33 34 rfl rfl rfl ?_
        refine w_iload hZ 34 35 rfl rfl rfl ?_
        refine w_cge hZ 35 36 rfl rfl (fun c35 => ?_) (fun c35 => ?_)
        · refine w_const hZ 42 43 rfl rfl  ?_
          refine w_st8_7 hZ 43 44 rfl rfl rfl ?_
          refine wr _ 0 u M rfl (Int.le_refl _) (by omega) (fun _ => ?_) (RS_nil M)
          rw [hu]; congr 1; omega
        · refine w_iload hZ 36 37 rfl rfl rfl ?_
          refine w_const hZ 37 38 rfl rfl  ?_
          refine w_mul hZ 38 39 rfl rfl (by unfold InR; omega) ?_
          refine w_st8_6 hZ 39 40 rfl rfl rfl ?_
          refine w_in8_7 hZ 40 41 rfl rfl rfl (by unfold InR; omega) ?_
          refine w_goto hZ 41 33 rfl ?_
          refine ih ((lnC cd - (e + 1)).toNat) (by omega) (e + 1) (u * 27) rfl (by omega) (by omega) ?_
          rw [hu]
          rcases (by omega : e = 1 ∨ e = 2 ∨ e = 3) with z | z | z <;> subst z <;> decide
    refine w_iload hZ 26 27 rfl rfl rfl ?_
    refine k_X6_lettersOf hZ 27 28 rfl rfl (Nat.le_of_ble_eq_true rfl) hcd.2.1 ?_
    refine w_st8_5 hZ 28 29 rfl rfl rfl ?_
    refine w_const hZ 29 30 rfl rfl  ?_
    refine w_st8_6 hZ 30 31 rfl rfl rfl ?_
    refine w_const hZ 31 32 rfl rfl  ?_
    refine w_st8_7 hZ 32 33 rfl rfl rfl ?_
    exact un _ 1 1 rfl (Int.le_refl _) (by omega) (by decide)
  refine w_iload hZ 0 1 rfl rfl rfl ?_
  refine k_X6_isLetterCell hZ 1 2 rfl rfl (Nat.le_of_ble_eq_true rfl)  ?_
  refine w_ifeq hZ 2 3 rfl rfl (fun c2 => ?_) (fun c2 => ?_)
  · replace c2 := b2i_z.mp c2
    refine w_aload hZ 11 12 rfl rfl rfl ?_
    refine w_getr hZ 12 13 rfl rfl rfl rfl rfl ?_
    refine w_iload hZ 13 14 rfl rfl rfl ?_
    refine k_X0_ruleOfCell hZ 14 15 rfl rfl (Nat.le_of_ble_eq_true rfl) hb ?_
    rw [← hro]
    refine w_st8_3 hZ 15 16 rfl rfl rfl ?_
    refine w_iload hZ 16 17 rfl rfl rfl ?_
    refine w_const hZ 17 18 rfl rfl  ?_
    refine w_cne hZ 18 19 rfl rfl (fun c18 => ?_) (fun c18 => ?_)
    · have hr : 0 ≤ rOf V c ∧ rOf V c < M 1 4 := by
        rcases fIx_is (M 3) c b1 with ⟨q, -⟩ | ⟨q1, q2, -⟩
        · rw [← hro] at q; exact absurd q c18
        · rw [← hro] at q1 q2; exact ⟨q1, q2⟩
      have hcc : vC' V (rOf V c).toNat = M 2 (rOf V c).toNat := by rw [← hV]; exact cut_in (by rw [hV]; omega)
      have hvc := (hv.2.2.2.2.2.2.1 (rOf V c).toNat (by rw [← hV]; show (((rOf (bX M 1) c).toNat : Nat) : Int) < M 1 4; rw [hV]; omega)).1
      refine w_aload hZ 20 21 rfl rfl rfl ?_
      refine w_getr hZ 21 22 rfl rfl rfl rfl rfl ?_
      refine w_getr hZ 22 23 rfl rfl rfl rfl rfl ?_
      refine w_iload hZ 23 24 rfl rfl rfl ?_
      refine w_iald hZ 24 25 rfl rfl rfl (by omega) (by omega) ?_
      refine w_st8_4 hZ 25 26 rfl rfl rfl ?_
      refine w_fg8_3 hZ ?_
      exact t26 c2 c18 _ (hcc ▸ hvc) hcc.symm
    · refine w_vret hZ 19 rfl ?_
      refine hR _ ?_
      unfold ltrs
      rw [if_neg c2, if_pos c18]
      exact RS_nil M
  · replace c2 := b2i_e.mp c2
    refine w_aload hZ 3 4 rfl rfl rfl ?_
    refine w_iload hZ 4 5 rfl rfl rfl ?_
    refine w_iload hZ 5 6 rfl rfl rfl ?_
    
    refine w_add hZ 6 7 rfl rfl (by unfold InR; omega) ?_
    refine w_const hZ 7 8 rfl rfl  ?_
    refine w_sub hZ 8 9 rfl rfl (by unfold InR; omega) ?_
    refine k_X4_addSign hZ 9 10 rfl rfl (Nat.le_of_ble_eq_true rfl) ⟨by omega, by omega⟩ (fun M9 p9 => ?_)
    refine w_vret hZ 10 rfl ?_
    subst p9
    refine hR _ ?_
    unfold ltrs
    rw [if_pos c2]
    exact RS_1 h0 _
set_option maxRecDepth 100000 in
set_option maxHeartbeats 4000000 in
theorem ao_X4_addLetters : AllOk yX4_addLetters.cls cX4_addLetters 8 1 23 none none pc_X4_addLetters 0 cd_X4_addLetters := ⟨s_iload_n (k := 1) (by decide +kernel) rfl rfl, ⟨s_callN ct_X6_isLetterCell (by decide) (by decide) ⟨by decide +kernel, by decide +kernel, by decide +kernel⟩ ni_15 tw_3_67 tw_1_1 tw_3_68 (by decide +kernel) rfl, ⟨s_ifeq (off := (13)) (by decide +kernel) rfl rfl, ⟨s_aload_n (k := 0) (by decide +kernel) rfl rfl, ⟨s_iload_n (k := 2) (by decide +kernel) rfl rfl, ⟨s_iload_n (k := 1) (by decide +kernel) rfl rfl, ⟨s_add (by decide +kernel) rfl, ⟨s_iconst (by decide +kernel) rfl ⟨by decide, by decide⟩, ⟨s_sub (by decide +kernel) rfl, ⟨s_callV (C := RX4) (T := TX4) (N := 8) rfl ct_X4_addSign (by decide) (by decide) ⟨rfl, by decide +kernel, by decide +kernel, by decide +kernel⟩ tw_3_79 tw_3_81 ts_2_10 tw_1_6 tw_3_82 (by decide +kernel) rfl, ⟨s_vret rfl (by decide +kernel), ⟨s_aload_n (k := 0) (by decide +kernel) rfl rfl, ⟨s_get (C := RX4) (T := TX4) (N := 8) rfl inT4 (by decide) tw_1_166 (by decide +kernel) rfl, ⟨s_iload_n (k := 1) (by decide +kernel) rfl rfl, ⟨s_callV (C := RX0) (T := TX0) (N := 8) rfl ct_X0_ruleOfCell (by decide) (by decide) ⟨rfl, by decide +kernel, by decide +kernel, by decide +kernel⟩ tw_3_74 tw_2_12 tw_2_13 tw_1_2 tw_2_14 (by decide +kernel) rfl, ⟨s_istore_n (k := 3) (by decide +kernel) rfl rfl, ⟨s_iload_n (k := 3) (by decide +kernel) rfl rfl, ⟨s_iconst (by decide +kernel) rfl ⟨by decide, by decide⟩, ⟨s_cne (off := (4)) (by decide +kernel) rfl rfl, ⟨s_vret rfl (by decide +kernel), ⟨s_aload_n (k := 0) (by decide +kernel) rfl rfl, ⟨s_get (C := RX4) (T := TX4) (N := 8) rfl inT4 (by decide) tw_1_166 (by decide +kernel) rfl, ⟨s_get (C := RX0) (T := TX0) (N := 8) rfl inT0 (by decide) tw_1_26 (by decide +kernel) rfl, ⟨s_iload_n (k := 3) (by decide +kernel) rfl rfl, ⟨s_iald (by decide +kernel) rfl, ⟨s_istore (by decide +kernel) rfl, ⟨s_iload (by decide +kernel) rfl, ⟨s_callN ct_X6_lettersOf (by decide) (by decide) ⟨by decide +kernel, by decide +kernel, by decide +kernel⟩ ni_17 tw_1_237 tw_1_1 tw_1_238 (by decide +kernel) rfl, ⟨s_istore (by decide +kernel) rfl, ⟨s_iconst (by decide +kernel) rfl ⟨by decide, by decide⟩, ⟨s_istore (by decide +kernel) rfl, ⟨s_iconst (by decide +kernel) rfl ⟨by decide, by decide⟩, ⟨s_istore (by decide +kernel) rfl, ⟨s_iload (by decide +kernel) rfl, ⟨s_iload (by decide +kernel) rfl, ⟨s_cge (off := (16)) (by decide +kernel) rfl rfl, ⟨s_iload (by decide +kernel) rfl, ⟨s_bipush (by decide +kernel) rfl ⟨by decide, by decide⟩ (by decide +kernel), ⟨s_mul (by decide +kernel) rfl, ⟨s_istore (by decide +kernel) rfl, ⟨s_iinc (by decide +kernel) rfl, ⟨s_goto (off := (-17)) (by decide +kernel) rfl, ⟨s_iconst (by decide +kernel) rfl ⟨by decide, by decide⟩, ⟨s_istore (by decide +kernel) rfl, ⟨s_iload (by decide +kernel) rfl, ⟨s_iload (by decide +kernel) rfl, ⟨s_cge (off := (37)) (by decide +kernel) rfl rfl, ⟨s_iload (by decide +kernel) rfl, ⟨s_ifle (off := (32)) (by decide +kernel) rfl rfl, ⟨s_aload_n (k := 0) (by decide +kernel) rfl rfl, ⟨s_iload_n (k := 2) (by decide +kernel) rfl rfl, ⟨s_iload (by decide +kernel) rfl, ⟨s_iload (by decide +kernel) rfl, ⟨s_div (by decide +kernel) rfl, ⟨s_bipush (by decide +kernel) rfl ⟨by decide, by decide⟩ (by decide +kernel), ⟨s_rem (by decide +kernel) rfl, ⟨s_add (by decide +kernel) rfl, ⟨s_iconst (by decide +kernel) rfl ⟨by decide, by decide⟩, ⟨s_sub (by decide +kernel) rfl, ⟨s_callV (C := RX4) (T := TX4) (N := 8) rfl ct_X4_addSign (by decide) (by decide) ⟨rfl, by decide +kernel, by decide +kernel, by decide +kernel⟩ tw_3_79 tw_3_81 ts_2_10 tw_1_6 tw_3_82 (by decide +kernel) rfl, ⟨s_iload (by decide +kernel) rfl, ⟨s_bipush (by decide +kernel) rfl ⟨by decide, by decide⟩ (by decide +kernel), ⟨s_div (by decide +kernel) rfl, ⟨s_istore (by decide +kernel) rfl, ⟨s_iinc (by decide +kernel) rfl, ⟨s_goto (off := (-38)) (by decide +kernel) rfl, ⟨s_vret rfl (by decide +kernel), trivial⟩⟩⟩⟩⟩⟩⟩⟩⟩⟩⟩⟩⟩⟩⟩⟩⟩⟩⟩⟩⟩⟩⟩⟩⟩⟩⟩⟩⟩⟩⟩⟩⟩⟩⟩⟩⟩⟩⟩⟩⟩⟩⟩⟩⟩⟩⟩⟩⟩⟩⟩⟩⟩⟩⟩⟩⟩⟩⟩⟩⟩⟩⟩⟩⟩⟩⟩
theorem ct_X4_addLetters : Ctr yX4_addLetters cX4_addLetters 8 none 1 23 sp_X4_addLetters := by
  refine ctr_of (by decide +kernel) ao_X4_addLetters rfl ?_
  rintro av M Ret ⟨c, bs, rfl, hp, hR⟩ hok hM
  exact ⟨Nat.le_of_ble_eq_true rfl, fun Z hZ => b_X4_addLetters  c (hok _ (List.mem_of_getElem? (i := 1) rfl)) bs (hok _ (List.mem_of_getElem? (i := 2) rfl)) M Ret hp hR hM Z hZ⟩
end
section
/-! Reader: one step, all -/
/-- what a reading keeps -/
abbrev Rx (M : Mem) : Prop := vOk (bX M 1) ∧ 0 ≤ M 20 6 ∧ M 20 6 ≤ 240 ∧ 0 ≤ M 20 1
theorem FX_hi (M : Mem) {j : Int} (h : M 20 6 ≤ j) : FX M j = -1 := sgn_hi h
theorem FX_in {M : Mem} {j : Int} (h : ¬ FX M j = -1) : 0 ≤ j ∧ j < M 20 6 := by
  unfold FX sgn at h
  split at h
  · assumption
  · exact absurd rfl h
theorem flA_7 (M : Mem) (p k : Int) : flA M p k 20 7 = M 20 7 := by simp [flA, mup_at]
def sp_X4_isBehindFigures : SP := fun av M Ret => ∃ i : Int, av = [mr 20, mi i] ∧ (0 ≤ M 20 6 ∧ M 20 6 ≤ 240 ∧ -1 ≤ M 20 7 ∧ M 20 7 ≤ 240 ∧ 0 ≤ i ∧ i ≤ 240) ∧ (Ret (some (mi (b2i (bhF (FX M) (M 20 7) i)))) M)
theorem k_X4_isBehindFigures {code : List Sem} {Z : KZ} {Ret : KR} {ls : List (Option MV)} {M : Mem} {r : List MV} (hZ : Sim code Z Ret) (ip np : Nat) {i : Int} (hc : code[ip]? = some (I_callV 4 1 sp_X4_isBehindFigures)) (hn : ip + 1 = np) (h3 : catS r ≤ 8)  (hp : 0 ≤ M 20 6 ∧ M 20 6 ≤ 240 ∧ -1 ≤ M 20 7 ∧ M 20 7 ≤ 240 ∧ 0 ≤ i ∧ i ≤ 240) (kz : Z np ls (mi (b2i (bhF (FX M) (M 20 7) i)) :: r) M) : Z ip ls (mi i :: mr 20 :: r) M := w_callV1 hZ ip np hc hn rfl rfl h3 ⟨_, rfl, hp, kz⟩
def cd_X4_isBehindFigures : List Sem := [I_aload 0, I_get 4 7, I_const (-1), I_cne 6, I_const (0), I_zret, I_iload 1, I_aload 0, I_get 4 7, I_ceq 23, I_iload 1, I_aload 0, I_get 4 7, I_const (1), I_add, I_cne 25, I_aload 0, I_iload 1, I_const (1), I_sub, I_callV 4 1 sp_X4_cellAt, I_callS 1 sp_X6_isPointOrCommaCell, I_ifeq 25, I_const (1), I_goto 26, I_const (0), I_zret]
def pc_X4_isBehindFigures : List Nat := [0, 1, 4, 5, 8, 9, 10, 11, 12, 15, 18, 19, 20, 23, 24, 25, 28, 29, 30, 31, 32, 35, 38, 41, 42, 45, 46]
set_option maxRecDepth 100000 in
set_option maxHeartbeats 4000000 in
theorem b_X4_isBehindFigures (i : Int) (i_i : InR i) (M : Mem) (Ret : KR) (hp : 0 ≤ M 20 6 ∧ M 20 6 ≤ 240 ∧ -1 ≤ M 20 7 ∧ M 20 7 ≤ 240 ∧ 0 ≤ i ∧ i ≤ 240) (hR : Ret (some (mi (b2i (bhF (FX M) (M 20 7) i)))) M) (hM : MOk M) (Z : KZ) (hZ : Sim cd_X4_isBehindFigures Z Ret) : Z 0 [some (mr 20), some (mi i)] [] M := by
  obtain ⟨a1, a2, a3, a4, a5, a6⟩ := hp
  refine w_aload hZ 0 1 rfl rfl rfl ?_
  refine w_geti hZ 1 2 rfl rfl rfl rfl rfl ?_
  refine w_const hZ 2 3 rfl rfl  ?_
  refine w_cne hZ 3 4 rfl rfl (fun c3 => ?_) (fun c3 => ?_)
  · refine w_iload hZ 6 7 rfl rfl rfl ?_
    refine w_aload hZ 7 8 rfl rfl rfl ?_
    refine w_geti hZ 8 9 rfl rfl rfl rfl rfl ?_
    refine w_ceq hZ 9 10 rfl rfl (fun c9 => ?_) (fun c9 => ?_)
    · refine w_const hZ 23 24 rfl rfl  ?_
      refine w_goto hZ 24 26 rfl ?_
      refine w_zret hZ 26 rfl (by omega) ?_
      first
        | exact ret_i hR (b2i_f (fun q => q.1 c3))
        | exact ret_i hR (b2i_t ⟨c3, Or.inl c9⟩)
        | exact ret_i hR (b2i_t ⟨c3, Or.inr ⟨c15, b2i_e.mp c22⟩⟩)
        | exact ret_i hR (b2i_f (fun q => q.2.elim c9 (fun q => (b2i_z.mp c22) q.2)))
        | exact ret_i hR (b2i_f (fun q => q.2.elim c9 (fun q => c15 q.1)))
    · refine w_iload hZ 10 11 rfl rfl rfl ?_
      refine w_aload hZ 11 12 rfl rfl rfl ?_
      refine w_geti hZ 12 13 rfl rfl rfl rfl rfl ?_
      refine w_const hZ 13 14 rfl rfl  ?_
      refine w_add hZ 14 15 rfl rfl (by unfold InR; omega) ?_
      refine w_cne hZ 15 16 rfl rfl (fun c15 => ?_) (fun c15 => ?_)
      · refine w_const hZ 25 26 rfl rfl  ?_
        refine w_zret hZ 26 rfl (by omega) ?_
        first
          | exact ret_i hR (b2i_f (fun q => q.1 c3))
          | exact ret_i hR (b2i_t ⟨c3, Or.inl c9⟩)
          | exact ret_i hR (b2i_t ⟨c3, Or.inr ⟨c15, b2i_e.mp c22⟩⟩)
          | exact ret_i hR (b2i_f (fun q => q.2.elim c9 (fun q => (b2i_z.mp c22) q.2)))
          | exact ret_i hR (b2i_f (fun q => q.2.elim c9 (fun q => c15 q.1)))
      · refine w_aload hZ 16 17 rfl rfl rfl ?_
        refine w_iload hZ 17 18 rfl rfl rfl ?_
        refine w_const hZ 18 19 rfl rfl  ?_
        refine w_sub hZ 19 20 rfl rfl (by unfold InR; omega) ?_
        refine k_X4_cellAt hZ 20 21 rfl rfl (Nat.le_of_ble_eq_true rfl) ⟨a1, a2⟩ ?_
        refine k_X6_isPointOrCommaCell hZ 21 22 rfl rfl (Nat.le_of_ble_eq_true rfl)  ?_
        refine w_ifeq hZ 22 23 rfl rfl (fun c22 => ?_) (fun c22 => ?_)
        · refine w_const hZ 25 26 rfl rfl  ?_
          refine w_zret hZ 26 rfl (by omega) ?_
          first
            | exact ret_i hR (b2i_f (fun q => q.1 c3))
            | exact ret_i hR (b2i_t ⟨c3, Or.inl c9⟩)
            | exact ret_i hR (b2i_t ⟨c3, Or.inr ⟨c15, b2i_e.mp c22⟩⟩)
            | exact ret_i hR (b2i_f (fun q => q.2.elim c9 (fun q => (b2i_z.mp c22) q.2)))
            | exact ret_i hR (b2i_f (fun q => q.2.elim c9 (fun q => c15 q.1)))
        · refine w_const hZ 23 24 rfl rfl  ?_
          refine w_goto hZ 24 26 rfl ?_
          refine w_zret hZ 26 rfl (by omega) ?_
          first
            | exact ret_i hR (b2i_f (fun q => q.1 c3))
            | exact ret_i hR (b2i_t ⟨c3, Or.inl c9⟩)
            | exact ret_i hR (b2i_t ⟨c3, Or.inr ⟨c15, b2i_e.mp c22⟩⟩)
            | exact ret_i hR (b2i_f (fun q => q.2.elim c9 (fun q => (b2i_z.mp c22) q.2)))
            | exact ret_i hR (b2i_f (fun q => q.2.elim c9 (fun q => c15 q.1)))
  · refine w_const hZ 4 5 rfl rfl  ?_
    refine w_zret hZ 5 rfl (by omega) ?_
    first
      | exact ret_i hR (b2i_f (fun q => q.1 c3))
      | exact ret_i hR (b2i_t ⟨c3, Or.inl c9⟩)
      | exact ret_i hR (b2i_t ⟨c3, Or.inr ⟨c15, b2i_e.mp c22⟩⟩)
      | exact ret_i hR (b2i_f (fun q => q.2.elim c9 (fun q => (b2i_z.mp c22) q.2)))
      | exact ret_i hR (b2i_f (fun q => q.2.elim c9 (fun q => c15 q.1)))
set_option maxRecDepth 100000 in
set_option maxHeartbeats 4000000 in
theorem ao_X4_isBehindFigures : AllOk yX4_isBehindFigures.cls cX4_isBehindFigures 2 1 21 (some .boolean) none pc_X4_isBehindFigures 0 cd_X4_isBehindFigures := ⟨s_aload_n (k := 0) (by decide +kernel) rfl rfl, ⟨s_get (C := RX4) (T := TX4) (N := 8) rfl inT4 (by decide) tw_1_169 (by decide +kernel) rfl, ⟨s_iconst (by decide +kernel) rfl ⟨by decide, by decide⟩, ⟨s_cne (off := (5)) (by decide +kernel) rfl rfl, ⟨s_iconst (by decide +kernel) rfl ⟨by decide, by decide⟩, ⟨s_zret rfl (by decide +kernel), ⟨s_iload_n (k := 1) (by decide +kernel) rfl rfl, ⟨s_aload_n (k := 0) (by decide +kernel) rfl rfl, ⟨s_get (C := RX4) (T := TX4) (N := 8) rfl inT4 (by decide) tw_1_169 (by decide +kernel) rfl, ⟨s_ceq (off := (26)) (by decide +kernel) rfl rfl, ⟨s_iload_n (k := 1) (by decide +kernel) rfl rfl, ⟨s_aload_n (k := 0) (by decide +kernel) rfl rfl, ⟨s_get (C := RX4) (T := TX4) (N := 8) rfl inT4 (by decide) tw_1_169 (by decide +kernel) rfl, ⟨s_iconst (by decide +kernel) rfl ⟨by decide, by decide⟩, ⟨s_add (by decide +kernel) rfl, ⟨s_cne (off := (20)) (by decide +kernel) rfl rfl, ⟨s_aload_n (k := 0) (by decide +kernel) rfl rfl, ⟨s_iload_n (k := 1) (by decide +kernel) rfl rfl, ⟨s_iconst (by decide +kernel) rfl ⟨by decide, by decide⟩, ⟨s_sub (by decide +kernel) rfl, ⟨s_callV (C := RX4) (T := TX4) (N := 8) rfl ct_X4_cellAt (by decide) (by decide) ⟨rfl, by decide +kernel, by decide +kernel, by decide +kernel⟩ tw_3_58 tw_3_60 ts_2_6 tw_1_6 tw_3_61 (by decide +kernel) rfl, ⟨s_callN ct_X6_isPointOrCommaCell (by decide) (by decide) ⟨by decide +kernel, by decide +kernel, by decide +kernel⟩ ni_20 tw_3_111 tw_1_1 tw_3_112 (by decide +kernel) rfl, ⟨s_ifeq (off := (7)) (by decide +kernel) rfl rfl, ⟨s_iconst (by decide +kernel) rfl ⟨by decide, by decide⟩, ⟨s_goto (off := (4)) (by decide +kernel) rfl, ⟨s_iconst (by decide +kernel) rfl ⟨by decide, by decide⟩, ⟨s_zret rfl (by decide +kernel), trivial⟩⟩⟩⟩⟩⟩⟩⟩⟩⟩⟩⟩⟩⟩⟩⟩⟩⟩⟩⟩⟩⟩⟩⟩⟩⟩⟩
theorem ct_X4_isBehindFigures : Ctr yX4_isBehindFigures cX4_isBehindFigures 2 (some .boolean) 1 21 sp_X4_isBehindFigures := by
  refine ctr_of (by decide +kernel) ao_X4_isBehindFigures rfl ?_
  rintro av M Ret ⟨i, rfl, hp, hR⟩ hok hM
  exact ⟨Nat.le_of_ble_eq_true rfl, fun Z hZ => b_X4_isBehindFigures  i (hok _ (List.mem_of_getElem? (i := 1) rfl)) M Ret hp hR hM Z hZ⟩
def sp_X4_checkLetters : SP := fun av M Ret => ∃ i : Int, av = [mr 20, mi i] ∧ (Rx M ∧ -1 ≤ M 20 7 ∧ M 20 7 ≤ 240 ∧ 0 ≤ i ∧ i < M 20 6) ∧ (∀ M2 : Mem, (M2 = if bhF (FX M) (M 20 7) i ∧ (isFC (FX M (i + 1)) ∨ isRl (bX M 1) (FX M (i + 1))) then M else flA M i 2) → Ret none M2)
theorem k_X4_checkLetters {code : List Sem} {Z : KZ} {Ret : KR} {ls : List (Option MV)} {M : Mem} {r : List MV} (hZ : Sim code Z Ret) (ip np : Nat) {i : Int} (hc : code[ip]? = some (I_callV 4 1 sp_X4_checkLetters)) (hn : ip + 1 = np) (h3 : catS r ≤ 8)  (hp : Rx M ∧ -1 ≤ M 20 7 ∧ M 20 7 ≤ 240 ∧ 0 ≤ i ∧ i < M 20 6) (kz : ∀ M2 : Mem, (M2 = if bhF (FX M) (M 20 7) i ∧ (isFC (FX M (i + 1)) ∨ isRl (bX M 1) (FX M (i + 1))) then M else flA M i 2) → Z np ls r M2) : Z ip ls (mi i :: mr 20 :: r) M := w_callV1 hZ ip np hc hn rfl rfl h3 ⟨_, rfl, hp, fun M2 h => kz M2 h⟩
def cd_X4_checkLetters : List Sem := [I_aload 0, I_iload 1, I_const (1), I_add, I_callV 4 1 sp_X4_cellAt, I_istore 2, I_aload 0, I_iload 1, I_callV 4 1 sp_X4_isBehindFigures, I_ifeq 17, I_iload 2, I_callS 1 sp_X6_isFigureCell, I_ifne 21, I_aload 0, I_iload 2, I_callV 4 1 sp_X4_isRule, I_ifne 21, I_aload 0, I_iload 1, I_const (2), I_callV 4 2 sp_X4_failAt, I_vret]
def pc_X4_checkLetters : List Nat := [0, 1, 2, 3, 4, 7, 8, 9, 10, 13, 16, 17, 20, 23, 24, 25, 28, 31, 32, 33, 34, 37]
set_option maxRecDepth 100000 in
set_option maxHeartbeats 4000000 in
theorem b_X4_checkLetters (i : Int) (i_i : InR i) (M : Mem) (Ret : KR) (hp : Rx M ∧ -1 ≤ M 20 7 ∧ M 20 7 ≤ 240 ∧ 0 ≤ i ∧ i < M 20 6) (hR : ∀ M2 : Mem, (M2 = if bhF (FX M) (M 20 7) i ∧ (isFC (FX M (i + 1)) ∨ isRl (bX M 1) (FX M (i + 1))) then M else flA M i 2) → Ret none M2) (hM : MOk M) (Z : KZ) (hZ : Sim cd_X4_checkLetters Z Ret) : Z 0 [some (mr 20), some (mi i), none] [] M := by
  obtain ⟨⟨hv, h6, h6b, h1⟩, a3, a4, a5, a6⟩ := hp
  have hb := hv.bx
  have r1 : (bhF (FX M) (M 20 7) i ∧ (isFC (FX M (i + 1)) ∨ isRl (bX M 1) (FX M (i + 1)))) → Ret none M := fun h => hR M (by rw [if_pos h])
  have r2 : ¬ (bhF (FX M) (M 20 7) i ∧ (isFC (FX M (i + 1)) ∨ isRl (bX M 1) (FX M (i + 1)))) → Ret none (flA M i 2) := fun h => hR _ (by rw [if_neg h])
  refine w_aload hZ 0 1 rfl rfl rfl ?_
  refine w_iload hZ 1 2 rfl rfl rfl ?_
  refine w_const hZ 2 3 rfl rfl  ?_
  refine w_add hZ 3 4 rfl rfl (by unfold InR; omega) ?_
  refine k_X4_cellAt hZ 4 5 rfl rfl (Nat.le_of_ble_eq_true rfl) ⟨h6, h6b⟩ ?_
  refine w_st3_2 hZ 5 6 rfl rfl rfl ?_
  refine w_aload hZ 6 7 rfl rfl rfl ?_
  refine w_iload hZ 7 8 rfl rfl rfl ?_
  refine k_X4_isBehindFigures hZ 8 9 rfl rfl (Nat.le_of_ble_eq_true rfl) ⟨h6, h6b, a3, a4, a5, by omega⟩ ?_
  refine w_ifeq hZ 9 10 rfl rfl (fun c9 => ?_) (fun c9 => ?_)
  · refine w_aload hZ 17 18 rfl rfl rfl ?_
    refine w_iload hZ 18 19 rfl rfl rfl ?_
    refine w_const hZ 19 20 rfl rfl  ?_
    refine k_X4_failAt hZ 20 21 rfl rfl (Nat.le_of_ble_eq_true rfl)  (fun M20 p20 => ?_)
    refine w_vret hZ 21 rfl ?_
    first
      | exact r1 ⟨b2i_e.mp c9, Or.inl (b2i_e.mp c12)⟩
      | exact r1 ⟨b2i_e.mp c9, Or.inr (b2i_e.mp c16)⟩
      | (subst p20; exact r2 (fun q => q.2.elim (b2i_z.mp c12) (b2i_z.mp c16)))
      | (subst p20; exact r2 (fun q => (b2i_z.mp c9) q.1))
  · refine w_iload hZ 10 11 rfl rfl rfl ?_
    refine k_X6_isFigureCell hZ 11 12 rfl rfl (Nat.le_of_ble_eq_true rfl)  ?_
    refine w_ifne hZ 12 13 rfl rfl (fun c12 => ?_) (fun c12 => ?_)
    · refine w_vret hZ 21 rfl ?_
      first
        | exact r1 ⟨b2i_e.mp c9, Or.inl (b2i_e.mp c12)⟩
        | exact r1 ⟨b2i_e.mp c9, Or.inr (b2i_e.mp c16)⟩
        | (subst p20; exact r2 (fun q => q.2.elim (b2i_z.mp c12) (b2i_z.mp c16)))
        | (subst p20; exact r2 (fun q => (b2i_z.mp c9) q.1))
    · refine w_aload hZ 13 14 rfl rfl rfl ?_
      refine w_iload hZ 14 15 rfl rfl rfl ?_
      refine k_X4_isRule hZ 15 16 rfl rfl (Nat.le_of_ble_eq_true rfl) hb ?_
      refine w_ifne hZ 16 17 rfl rfl (fun c16 => ?_) (fun c16 => ?_)
      · refine w_vret hZ 21 rfl ?_
        first
          | exact r1 ⟨b2i_e.mp c9, Or.inl (b2i_e.mp c12)⟩
          | exact r1 ⟨b2i_e.mp c9, Or.inr (b2i_e.mp c16)⟩
          | (subst p20; exact r2 (fun q => q.2.elim (b2i_z.mp c12) (b2i_z.mp c16)))
          | (subst p20; exact r2 (fun q => (b2i_z.mp c9) q.1))
      · refine w_aload hZ 17 18 rfl rfl rfl ?_
        refine w_iload hZ 18 19 rfl rfl rfl ?_
        refine w_const hZ 19 20 rfl rfl  ?_
        refine k_X4_failAt hZ 20 21 rfl rfl (Nat.le_of_ble_eq_true rfl)  (fun M20 p20 => ?_)
        refine w_vret hZ 21 rfl ?_
        first
          | exact r1 ⟨b2i_e.mp c9, Or.inl (b2i_e.mp c12)⟩
          | exact r1 ⟨b2i_e.mp c9, Or.inr (b2i_e.mp c16)⟩
          | (subst p20; exact r2 (fun q => q.2.elim (b2i_z.mp c12) (b2i_z.mp c16)))
          | (subst p20; exact r2 (fun q => (b2i_z.mp c9) q.1))
set_option maxRecDepth 100000 in
set_option maxHeartbeats 4000000 in
theorem ao_X4_checkLetters : AllOk yX4_checkLetters.cls cX4_checkLetters 3 2 43 none none pc_X4_checkLetters 0 cd_X4_checkLetters := ⟨s_aload_n (k := 0) (by decide +kernel) rfl rfl, ⟨s_iload_n (k := 1) (by decide +kernel) rfl rfl, ⟨s_iconst (by decide +kernel) rfl ⟨by decide, by decide⟩, ⟨s_add (by decide +kernel) rfl, ⟨s_callV (C := RX4) (T := TX4) (N := 8) rfl ct_X4_cellAt (by decide) (by decide) ⟨rfl, by decide +kernel, by decide +kernel, by decide +kernel⟩ tw_3_58 tw_3_60 ts_2_6 tw_1_6 tw_3_61 (by decide +kernel) rfl, ⟨s_istore_n (k := 2) (by decide +kernel) rfl rfl, ⟨s_aload_n (k := 0) (by decide +kernel) rfl rfl, ⟨s_iload_n (k := 1) (by decide +kernel) rfl rfl, ⟨s_callV (C := RX4) (T := TX4) (N := 8) rfl ct_X4_isBehindFigures (by decide) (by decide) ⟨rfl, by decide +kernel, by decide +kernel, by decide +kernel⟩ tw_3_120 tw_3_122 ts_3_1 tw_1_6 tw_3_123 (by decide +kernel) rfl, ⟨s_ifeq (off := (18)) (by decide +kernel) rfl rfl, ⟨s_iload_n (k := 2) (by decide +kernel) rfl rfl, ⟨s_callN ct_X6_isFigureCell (by decide) (by decide) ⟨by decide +kernel, by decide +kernel, by decide +kernel⟩ ni_18 tw_3_105 tw_1_1 tw_3_106 (by decide +kernel) rfl, ⟨s_ifne (off := (17)) (by decide +kernel) rfl rfl, ⟨s_aload_n (k := 0) (by decide +kernel) rfl rfl, ⟨s_iload_n (k := 2) (by decide +kernel) rfl rfl, ⟨s_callV (C := RX4) (T := TX4) (N := 8) rfl ct_X4_isRule (by decide) (by decide) ⟨rfl, by decide +kernel, by decide +kernel, by decide +kernel⟩ tw_3_69 tw_3_71 ts_2_8 tw_1_6 tw_3_72 (by decide +kernel) rfl, ⟨s_ifne (off := (9)) (by decide +kernel) rfl rfl, ⟨s_aload_n (k := 0) (by decide +kernel) rfl rfl, ⟨s_iload_n (k := 1) (by decide +kernel) rfl rfl, ⟨s_iconst (by decide +kernel) rfl ⟨by decide, by decide⟩, ⟨s_callV (C := RX4) (T := TX4) (N := 8) rfl ct_X4_failAt (by decide) (by decide) ⟨rfl, by decide +kernel, by decide +kernel, by decide +kernel⟩ tw_3_92 tw_3_94 ts_2_13 tw_1_6 tw_3_95 (by decide +kernel) rfl, ⟨s_vret rfl (by decide +kernel), trivial⟩⟩⟩⟩⟩⟩⟩⟩⟩⟩⟩⟩⟩⟩⟩⟩⟩⟩⟩⟩⟩⟩
theorem ct_X4_checkLetters : Ctr yX4_checkLetters cX4_checkLetters 3 none 2 43 sp_X4_checkLetters := by
  refine ctr_of (by decide +kernel) ao_X4_checkLetters rfl ?_
  rintro av M Ret ⟨i, rfl, hp, hR⟩ hok hM
  exact ⟨Nat.le_of_ble_eq_true rfl, fun Z hZ => b_X4_checkLetters  i (hok _ (List.mem_of_getElem? (i := 1) rfl)) M Ret hp hR hM Z hZ⟩
def sp_X4_readPlain : SP := fun av M Ret => ∃ i : Int, ∃ c : Int, av = [mr 20, mi i, mi c] ∧ (Rx M ∧ M 20 1 + 4 ≤ 960) ∧ (∀ M2 : Mem, (if noCl (bX M 1) c then M2 = flA M i 1 else RS (if isLC c ∨ isRC c then ltrs (bX M 1) c 97 else [mkS c]) (M 20 2) (M 20 3) (M 20 7) M M2) → Ret none M2)
theorem k_X4_readPlain {code : List Sem} {Z : KZ} {Ret : KR} {ls : List (Option MV)} {M : Mem} {r : List MV} (hZ : Sim code Z Ret) (ip np : Nat) {i c : Int} (hc : code[ip]? = some (I_callV 4 2 sp_X4_readPlain)) (hn : ip + 1 = np) (h3 : catS r ≤ 8)  (hp : Rx M ∧ M 20 1 + 4 ≤ 960) (kz : ∀ M2 : Mem, (if noCl (bX M 1) c then M2 = flA M i 1 else RS (if isLC c ∨ isRC c then ltrs (bX M 1) c 97 else [mkS c]) (M 20 2) (M 20 3) (M 20 7) M M2) → Z np ls r M2) : Z ip ls (mi c :: mi i :: mr 20 :: r) M := w_callV2 hZ ip np hc hn rfl rfl h3 ⟨_, _, rfl, hp, fun M2 h => kz M2 h⟩
def cd_X4_readPlain : List Sem := [I_aload 0, I_iload 2, I_callV 4 1 sp_X4_isNoSuchCell, I_ifeq 9, I_aload 0, I_iload 1, I_const (1), I_callV 4 2 sp_X4_failAt, I_goto 24, I_iload 2, I_callS 1 sp_X6_isLetterCell, I_ifne 15, I_iload 2, I_callS 1 sp_X6_isRuleCell, I_ifeq 20, I_aload 0, I_iload 2, I_const (97), I_callV 4 2 sp_X4_addLetters, I_goto 24, I_aload 0, I_iload 2, I_callS 1 sp_X6_signOfMarkCell, I_callV 4 1 sp_X4_addSign, I_vret]
def pc_X4_readPlain : List Nat := [0, 1, 2, 5, 8, 9, 10, 11, 14, 17, 18, 21, 24, 25, 28, 31, 32, 33, 35, 38, 41, 42, 43, 46, 49]
set_option maxRecDepth 100000 in
set_option maxHeartbeats 4000000 in
theorem b_X4_readPlain (i : Int) (i_i : InR i) (c : Int) (i_c : InR c) (M : Mem) (Ret : KR) (hp : Rx M ∧ M 20 1 + 4 ≤ 960) (hR : ∀ M2 : Mem, (if noCl (bX M 1) c then M2 = flA M i 1 else RS (if isLC c ∨ isRC c then ltrs (bX M 1) c 97 else [mkS c]) (M 20 2) (M 20 3) (M 20 7) M M2) → Ret none M2) (hM : MOk M) (Z : KZ) (hZ : Sim cd_X4_readPlain Z Ret) : Z 0 [some (mr 20), some (mi i), some (mi c)] [] M := by
  obtain ⟨⟨hv, h6, h6b, h1⟩, h4⟩ := hp
  have hb := hv.bx
  refine w_aload hZ 0 1 rfl rfl rfl ?_
  refine w_iload hZ 1 2 rfl rfl rfl ?_
  refine k_X4_isNoSuchCell hZ 2 3 rfl rfl (Nat.le_of_ble_eq_true rfl) hb ?_
  refine w_ifeq hZ 3 4 rfl rfl (fun c3 => ?_) (fun c3 => ?_)
  · refine w_iload hZ 9 10 rfl rfl rfl ?_
    refine k_X6_isLetterCell hZ 10 11 rfl rfl (Nat.le_of_ble_eq_true rfl)  ?_
    refine w_ifne hZ 11 12 rfl rfl (fun c11 => ?_) (fun c11 => ?_)
    · refine w_aload hZ 15 16 rfl rfl rfl ?_
      refine w_iload hZ 16 17 rfl rfl rfl ?_
      refine w_const hZ 17 18 rfl rfl  ?_
      refine k_X4_addLetters hZ 18 19 rfl rfl (Nat.le_of_ble_eq_true rfl) ⟨hv, h1, h4, by omega, by omega⟩ (fun M18 p18 => ?_)
      refine w_goto hZ 19 24 rfl ?_
      refine w_vret hZ 24 rfl ?_
      first
        | (subst p7; refine hR _ ?_; rw [if_pos (b2i_e.mp c3)])
        | (subst p23; refine hR _ ?_; rw [if_neg (b2i_z.mp c3), if_neg (fun q => q.elim (b2i_z.mp c11) (b2i_z.mp c14))]; exact RS_1 h1 _)
        | (refine hR _ ?_; rw [if_neg (b2i_z.mp c3), if_pos (Or.inl (b2i_e.mp c11))]; exact p18)
        | (refine hR _ ?_; rw [if_neg (b2i_z.mp c3), if_pos (Or.inr (b2i_e.mp c14))]; exact p18)
    · refine w_iload hZ 12 13 rfl rfl rfl ?_
      refine k_X6_isRuleCell hZ 13 14 rfl rfl (Nat.le_of_ble_eq_true rfl)  ?_
      refine w_ifeq hZ 14 15 rfl rfl (fun c14 => ?_) (fun c14 => ?_)
      · refine w_aload hZ 20 21 rfl rfl rfl ?_
        refine w_iload hZ 21 22 rfl rfl rfl ?_
        refine k_X6_signOfMarkCell hZ 22 23 rfl rfl (Nat.le_of_ble_eq_true rfl)  ?_
        refine k_X4_addSign hZ 23 24 rfl rfl (Nat.le_of_ble_eq_true rfl) ⟨by omega, by omega⟩ (fun M23 p23 => ?_)
        refine w_vret hZ 24 rfl ?_
        first
          | (subst p7; refine hR _ ?_; rw [if_pos (b2i_e.mp c3)])
          | (subst p23; refine hR _ ?_; rw [if_neg (b2i_z.mp c3), if_neg (fun q => q.elim (b2i_z.mp c11) (b2i_z.mp c14))]; exact RS_1 h1 _)
          | (refine hR _ ?_; rw [if_neg (b2i_z.mp c3), if_pos (Or.inl (b2i_e.mp c11))]; exact p18)
          | (refine hR _ ?_; rw [if_neg (b2i_z.mp c3), if_pos (Or.inr (b2i_e.mp c14))]; exact p18)
      · refine w_aload hZ 15 16 rfl rfl rfl ?_
        refine w_iload hZ 16 17 rfl rfl rfl ?_
        refine w_const hZ 17 18 rfl rfl  ?_
        refine k_X4_addLetters hZ 18 19 rfl rfl (Nat.le_of_ble_eq_true rfl) ⟨hv, h1, h4, by omega, by omega⟩ (fun M18 p18 => ?_)
        refine w_goto hZ 19 24 rfl ?_
        refine w_vret hZ 24 rfl ?_
        first
          | (subst p7; refine hR _ ?_; rw [if_pos (b2i_e.mp c3)])
          | (subst p23; refine hR _ ?_; rw [if_neg (b2i_z.mp c3), if_neg (fun q => q.elim (b2i_z.mp c11) (b2i_z.mp c14))]; exact RS_1 h1 _)
          | (refine hR _ ?_; rw [if_neg (b2i_z.mp c3), if_pos (Or.inl (b2i_e.mp c11))]; exact p18)
          | (refine hR _ ?_; rw [if_neg (b2i_z.mp c3), if_pos (Or.inr (b2i_e.mp c14))]; exact p18)
  · refine w_aload hZ 4 5 rfl rfl rfl ?_
    refine w_iload hZ 5 6 rfl rfl rfl ?_
    refine w_const hZ 6 7 rfl rfl  ?_
    refine k_X4_failAt hZ 7 8 rfl rfl (Nat.le_of_ble_eq_true rfl)  (fun M7 p7 => ?_)
    refine w_goto hZ 8 24 rfl ?_
    refine w_vret hZ 24 rfl ?_
    first
      | (subst p7; refine hR _ ?_; rw [if_pos (b2i_e.mp c3)])
      | (subst p23; refine hR _ ?_; rw [if_neg (b2i_z.mp c3), if_neg (fun q => q.elim (b2i_z.mp c11) (b2i_z.mp c14))]; exact RS_1 h1 _)
      | (refine hR _ ?_; rw [if_neg (b2i_z.mp c3), if_pos (Or.inl (b2i_e.mp c11))]; exact p18)
      | (refine hR _ ?_; rw [if_neg (b2i_z.mp c3), if_pos (Or.inr (b2i_e.mp c14))]; exact p18)
set_option maxRecDepth 100000 in
set_option maxHeartbeats 4000000 in
theorem ao_X4_readPlain : AllOk yX4_readPlain.cls cX4_readPlain 3 2 50 none none pc_X4_readPlain 0 cd_X4_readPlain := ⟨s_aload_n (k := 0) (by decide +kernel) rfl rfl, ⟨s_iload_n (k := 2) (by decide +kernel) rfl rfl, ⟨s_callV (C := RX4) (T := TX4) (N := 8) rfl ct_X4_isNoSuchCell (by decide) (by decide) ⟨rfl, by decide +kernel, by decide +kernel, by decide +kernel⟩ tw_3_88 tw_3_90 ts_2_12 tw_1_6 tw_3_91 (by decide +kernel) rfl, ⟨s_ifeq (off := (12)) (by decide +kernel) rfl rfl, ⟨s_aload_n (k := 0) (by decide +kernel) rfl rfl, ⟨s_iload_n (k := 1) (by decide +kernel) rfl rfl, ⟨s_iconst (by decide +kernel) rfl ⟨by decide, by decide⟩, ⟨s_callV (C := RX4) (T := TX4) (N := 8) rfl ct_X4_failAt (by decide) (by decide) ⟨rfl, by decide +kernel, by decide +kernel, by decide +kernel⟩ tw_3_92 tw_3_94 ts_2_13 tw_1_6 tw_3_95 (by decide +kernel) rfl, ⟨s_goto (off := (35)) (by decide +kernel) rfl, ⟨s_iload_n (k := 2) (by decide +kernel) rfl rfl, ⟨s_callN ct_X6_isLetterCell (by decide) (by decide) ⟨by decide +kernel, by decide +kernel, by decide +kernel⟩ ni_15 tw_3_67 tw_1_1 tw_3_68 (by decide +kernel) rfl, ⟨s_ifne (off := (10)) (by decide +kernel) rfl rfl, ⟨s_iload_n (k := 2) (by decide +kernel) rfl rfl, ⟨s_callN ct_X6_isRuleCell (by decide) (by decide) ⟨by decide +kernel, by decide +kernel, by decide +kernel⟩ ni_16 tw_2_0 tw_1_1 tw_2_1 (by decide +kernel) rfl, ⟨s_ifeq (off := (13)) (by decide +kernel) rfl rfl, ⟨s_aload_n (k := 0) (by decide +kernel) rfl rfl, ⟨s_iload_n (k := 2) (by decide +kernel) rfl rfl, ⟨s_bipush (by decide +kernel) rfl ⟨by decide, by decide⟩ (by decide +kernel), ⟨s_callV (C := RX4) (T := TX4) (N := 8) rfl ct_X4_addLetters (by decide) (by decide) ⟨rfl, by decide +kernel, by decide +kernel, by decide +kernel⟩ tw_3_75 tw_3_77 ts_2_9 tw_1_6 tw_3_78 (by decide +kernel) rfl, ⟨s_goto (off := (11)) (by decide +kernel) rfl, ⟨s_aload_n (k := 0) (by decide +kernel) rfl rfl, ⟨s_iload_n (k := 2) (by decide +kernel) rfl rfl, ⟨s_callN ct_X6_signOfMarkCell (by decide) (by decide) ⟨by decide +kernel, by decide +kernel, by decide +kernel⟩ ni_21 tw_3_114 tw_1_1 tw_3_115 (by decide +kernel) rfl, ⟨s_callV (C := RX4) (T := TX4) (N := 8) rfl ct_X4_addSign (by decide) (by decide) ⟨rfl, by decide +kernel, by decide +kernel, by decide +kernel⟩ tw_3_79 tw_3_81 ts_2_10 tw_1_6 tw_3_82 (by decide +kernel) rfl, ⟨s_vret rfl (by decide +kernel), trivial⟩⟩⟩⟩⟩⟩⟩⟩⟩⟩⟩⟩⟩⟩⟩⟩⟩⟩⟩⟩⟩⟩⟩⟩⟩
theorem ct_X4_readPlain : Ctr yX4_readPlain cX4_readPlain 3 none 2 50 sp_X4_readPlain := by
  refine ctr_of (by decide +kernel) ao_X4_readPlain rfl ?_
  rintro av M Ret ⟨i, c, rfl, hp, hR⟩ hok hM
  exact ⟨Nat.le_of_ble_eq_true rfl, fun Z hZ => b_X4_readPlain  i (hok _ (List.mem_of_getElem? (i := 1) rfl)) c (hok _ (List.mem_of_getElem? (i := 2) rfl)) M Ret hp hR hM Z hZ⟩
def sp_X4_readCapital : SP := fun av M Ret => ∃ p : Int, av = [mr 20, mi p] ∧ (Rx M ∧ M 20 1 + 4 ≤ 960 ∧ 0 ≤ p ∧ p ≤ 240) ∧ (∀ M2 : Mem, (if isLC (FX M p) then RS [65 + FX M p - 1] (M 20 2) (M 20 3) (M 20 7) M M2 else M2 = flA M p (fk (bX M 1) (FX M p))) → Ret (some (mi (p + 1))) M2)
theorem k_X4_readCapital {code : List Sem} {Z : KZ} {Ret : KR} {ls : List (Option MV)} {M : Mem} {r : List MV} (hZ : Sim code Z Ret) (ip np : Nat) {p : Int} (hc : code[ip]? = some (I_callV 4 1 sp_X4_readCapital)) (hn : ip + 1 = np) (h3 : catS r ≤ 8)  (hp : Rx M ∧ M 20 1 + 4 ≤ 960 ∧ 0 ≤ p ∧ p ≤ 240) (kz : ∀ M2 : Mem, (if isLC (FX M p) then RS [65 + FX M p - 1] (M 20 2) (M 20 3) (M 20 7) M M2 else M2 = flA M p (fk (bX M 1) (FX M p))) → Z np ls (mi (p + 1) :: r) M2) : Z ip ls (mi p :: mr 20 :: r) M := w_callV1 hZ ip np hc hn rfl rfl h3 ⟨_, rfl, hp, fun M2 h => kz M2 h⟩
def cd_X4_readCapital : List Sem := [I_aload 0, I_iload 1, I_callV 4 1 sp_X4_cellAt, I_istore 2, I_iload 2, I_callS 1 sp_X6_isLetterCell, I_ifeq 12, I_aload 0, I_iload 2, I_const (65), I_callV 4 2 sp_X4_addLetters, I_goto 15, I_aload 0, I_iload 1, I_callV 4 1 sp_X4_failWrongAt, I_iload 1, I_const (1), I_add, I_iret]
def pc_X4_readCapital : List Nat := [0, 1, 2, 5, 6, 7, 10, 13, 14, 15, 17, 20, 23, 24, 25, 28, 29, 30, 31]
set_option maxRecDepth 100000 in
set_option maxHeartbeats 4000000 in
theorem b_X4_readCapital (p : Int) (i_p : InR p) (M : Mem) (Ret : KR) (hp : Rx M ∧ M 20 1 + 4 ≤ 960 ∧ 0 ≤ p ∧ p ≤ 240) (hR : ∀ M2 : Mem, (if isLC (FX M p) then RS [65 + FX M p - 1] (M 20 2) (M 20 3) (M 20 7) M M2 else M2 = flA M p (fk (bX M 1) (FX M p))) → Ret (some (mi (p + 1))) M2) (hM : MOk M) (Z : KZ) (hZ : Sim cd_X4_readCapital Z Ret) : Z 0 [some (mr 20), some (mi p), none] [] M := by
  obtain ⟨⟨hv, h6, h6b, h1⟩, h4, p0, p1⟩ := hp
  have hb := hv.bx
  refine w_aload hZ 0 1 rfl rfl rfl ?_
  refine w_iload hZ 1 2 rfl rfl rfl ?_
  refine k_X4_cellAt hZ 2 3 rfl rfl (Nat.le_of_ble_eq_true rfl) ⟨h6, h6b⟩ ?_
  refine w_st3_2 hZ 3 4 rfl rfl rfl ?_
  refine w_iload hZ 4 5 rfl rfl rfl ?_
  refine k_X6_isLetterCell hZ 5 6 rfl rfl (Nat.le_of_ble_eq_true rfl)  ?_
  refine w_ifeq hZ 6 7 rfl rfl (fun c6 => ?_) (fun c6 => ?_)
  · refine w_aload hZ 12 13 rfl rfl rfl ?_
    refine w_iload hZ 13 14 rfl rfl rfl ?_
    refine k_X4_failWrongAt hZ 14 15 rfl rfl (Nat.le_of_ble_eq_true rfl) ⟨hb, h6, h6b⟩ (fun M14 p14 => ?_)
    refine w_iload hZ 15 16 rfl rfl rfl ?_
    refine w_const hZ 16 17 rfl rfl  ?_
    refine w_add hZ 17 18 rfl rfl (by unfold InR; omega) ?_
    refine w_iret hZ 18 rfl ?_
    first
      | (subst p14; refine hR _ ?_; rw [if_neg (b2i_z.mp c6)])
      | (refine hR _ ?_; rw [if_pos (b2i_e.mp c6)]; unfold ltrs at p10; rw [if_pos (b2i_e.mp c6)] at p10; exact p10)
  · refine w_aload hZ 7 8 rfl rfl rfl ?_
    refine w_iload hZ 8 9 rfl rfl rfl ?_
    refine w_const hZ 9 10 rfl rfl  ?_
    refine k_X4_addLetters hZ 10 11 rfl rfl (Nat.le_of_ble_eq_true rfl) ⟨hv, h1, h4, by omega, by omega⟩ (fun M10 p10 => ?_)
    refine w_goto hZ 11 15 rfl ?_
    refine w_iload hZ 15 16 rfl rfl rfl ?_
    refine w_const hZ 16 17 rfl rfl  ?_
    refine w_add hZ 17 18 rfl rfl (by unfold InR; omega) ?_
    refine w_iret hZ 18 rfl ?_
    first
      | (subst p14; refine hR _ ?_; rw [if_neg (b2i_z.mp c6)])
      | (refine hR _ ?_; rw [if_pos (b2i_e.mp c6)]; unfold ltrs at p10; rw [if_pos (b2i_e.mp c6)] at p10; exact p10)
set_option maxRecDepth 100000 in
set_option maxHeartbeats 4000000 in
theorem ao_X4_readCapital : AllOk yX4_readCapital.cls cX4_readCapital 3 3 64 (some .int) none pc_X4_readCapital 0 cd_X4_readCapital := ⟨s_aload_n (k := 0) (by decide +kernel) rfl rfl, ⟨s_iload_n (k := 1) (by decide +kernel) rfl rfl, ⟨s_callV (C := RX4) (T := TX4) (N := 8) rfl ct_X4_cellAt (by decide) (by decide) ⟨rfl, by decide +kernel, by decide +kernel, by decide +kernel⟩ tw_3_58 tw_3_60 ts_2_6 tw_1_6 tw_3_61 (by decide +kernel) rfl, ⟨s_istore_n (k := 2) (by decide +kernel) rfl rfl, ⟨s_iload_n (k := 2) (by decide +kernel) rfl rfl, ⟨s_callN ct_X6_isLetterCell (by decide) (by decide) ⟨by decide +kernel, by decide +kernel, by decide +kernel⟩ ni_15 tw_3_67 tw_1_1 tw_3_68 (by decide +kernel) rfl, ⟨s_ifeq (off := (13)) (by decide +kernel) rfl rfl, ⟨s_aload_n (k := 0) (by decide +kernel) rfl rfl, ⟨s_iload_n (k := 2) (by decide +kernel) rfl rfl, ⟨s_bipush (by decide +kernel) rfl ⟨by decide, by decide⟩ (by decide +kernel), ⟨s_callV (C := RX4) (T := TX4) (N := 8) rfl ct_X4_addLetters (by decide) (by decide) ⟨rfl, by decide +kernel, by decide +kernel, by decide +kernel⟩ tw_3_75 tw_3_77 ts_2_9 tw_1_6 tw_3_78 (by decide +kernel) rfl, ⟨s_goto (off := (8)) (by decide +kernel) rfl, ⟨s_aload_n (k := 0) (by decide +kernel) rfl rfl, ⟨s_iload_n (k := 1) (by decide +kernel) rfl rfl, ⟨s_callV (C := RX4) (T := TX4) (N := 8) rfl ct_X4_failWrongAt (by decide) (by decide) ⟨rfl, by decide +kernel, by decide +kernel, by decide +kernel⟩ tw_3_84 tw_3_86 ts_2_11 tw_1_6 tw_3_87 (by decide +kernel) rfl, ⟨s_iload_n (k := 1) (by decide +kernel) rfl rfl, ⟨s_iconst (by decide +kernel) rfl ⟨by decide, by decide⟩, ⟨s_add (by decide +kernel) rfl, ⟨s_iret rfl (by decide +kernel), trivial⟩⟩⟩⟩⟩⟩⟩⟩⟩⟩⟩⟩⟩⟩⟩⟩⟩⟩⟩
theorem ct_X4_readCapital : Ctr yX4_readCapital cX4_readCapital 3 (some .int) 3 64 sp_X4_readCapital := by
  refine ctr_of (by decide +kernel) ao_X4_readCapital rfl ?_
  rintro av M Ret ⟨p, rfl, hp, hR⟩ hok hM
  exact ⟨Nat.le_of_ble_eq_true rfl, fun Z hZ => b_X4_readCapital  p (hok _ (List.mem_of_getElem? (i := 1) rfl)) M Ret hp hR hM Z hZ⟩
def sp_X4_readCapitals : SP := fun av M Ret => ∃ b : Int, av = [mr 20, mi b] ∧ (Rx M ∧ M 20 1 + 4 * (M 20 6 - b) + 4 ≤ 960 ∧ 0 ≤ b ∧ b ≤ M 20 6) ∧ (∀ M2 : Mem, (if (crF (bX M 1) (FX M) (M 20 6 - b).toNat b).1 = b then M2 = flA M b (fk (bX M 1) (FX M b)) else RS (crF (bX M 1) (FX M) (M 20 6 - b).toNat b).2 (M 20 2) (M 20 3) (M 20 7) M M2) → Ret (some (mi ((crF (bX M 1) (FX M) (M 20 6 - b).toNat b).1))) M2)
theorem k_X4_readCapitals {code : List Sem} {Z : KZ} {Ret : KR} {ls : List (Option MV)} {M : Mem} {r : List MV} (hZ : Sim code Z Ret) (ip np : Nat) {b : Int} (hc : code[ip]? = some (I_callV 4 1 sp_X4_readCapitals)) (hn : ip + 1 = np) (h3 : catS r ≤ 8)  (hp : Rx M ∧ M 20 1 + 4 * (M 20 6 - b) + 4 ≤ 960 ∧ 0 ≤ b ∧ b ≤ M 20 6) (kz : ∀ M2 : Mem, (if (crF (bX M 1) (FX M) (M 20 6 - b).toNat b).1 = b then M2 = flA M b (fk (bX M 1) (FX M b)) else RS (crF (bX M 1) (FX M) (M 20 6 - b).toNat b).2 (M 20 2) (M 20 3) (M 20 7) M M2) → Z np ls (mi ((crF (bX M 1) (FX M) (M 20 6 - b).toNat b).1) :: r) M2) : Z ip ls (mi b :: mr 20 :: r) M := w_callV1 hZ ip np hc hn rfl rfl h3 ⟨_, rfl, hp, fun M2 h => kz M2 h⟩
def cd_X4_readCapitals : List Sem := [I_iload 1, I_istore 2, I_iload 2, I_aload 0, I_get 4 6, I_cgt 32, I_aload 0, I_iload 2, I_callV 4 1 sp_X4_cellAt, I_istore 3, I_iload 3, I_callS 1 sp_X6_isLetterCell, I_ifne 17, I_aload 0, I_iload 3, I_callV 4 1 sp_X4_isRule, I_ifeq 22, I_aload 0, I_iload 3, I_const (65), I_callV 4 2 sp_X4_addLetters, I_goto 30, I_iload 2, I_iload 1, I_cne 28, I_aload 0, I_iload 2, I_callV 4 1 sp_X4_failWrongAt, I_iload 2, I_iret, I_iinc 2 (1), I_goto 2, I_aload 0, I_get 4 6, I_iret]
def pc_X4_readCapitals : List Nat := [0, 1, 2, 3, 4, 7, 10, 11, 12, 15, 16, 17, 20, 23, 24, 25, 28, 31, 32, 33, 35, 38, 41, 42, 43, 46, 47, 48, 51, 52, 53, 56, 59, 60, 63]
set_option maxRecDepth 100000 in
set_option maxHeartbeats 4000000 in
theorem b_X4_readCapitals (b : Int) (i_b : InR b) (M : Mem) (Ret : KR) (hp : Rx M ∧ M 20 1 + 4 * (M 20 6 - b) + 4 ≤ 960 ∧ 0 ≤ b ∧ b ≤ M 20 6) (hR : ∀ M2 : Mem, (if (crF (bX M 1) (FX M) (M 20 6 - b).toNat b).1 = b then M2 = flA M b (fk (bX M 1) (FX M b)) else RS (crF (bX M 1) (FX M) (M 20 6 - b).toNat b).2 (M 20 2) (M 20 3) (M 20 7) M M2) → Ret (some (mi ((crF (bX M 1) (FX M) (M 20 6 - b).toNat b).1))) M2) (hM : MOk M) (Z : KZ) (hZ : Sim cd_X4_readCapitals Z Ret) : Z 0 [some (mr 20), some (mi b), none, none] [] M := by
  obtain ⟨⟨hv, h6, h6b, h1⟩, h4, p0, p1⟩ := hp
  generalize hV : bX M 1 = V at *
  generalize hF : FX M = F at *
  generalize hm : M 20 6 = m at *
  have hFm : F m = -1 := by rw [← hF, ← hm]; exact FX_hi M (Int.le_refl _)
  have loop : ∀ (d : Nat) (j : Int) (D : List Int) (N : Mem), d = (m - j).toNat → b ≤ j → j ≤ m → RS D (M 20 2) (M 20 3) (M 20 7) M N → (D.length : Int) ≤ 4 * (j - b) → crF V F (m - b).toNat b = ((crF V F (m - j).toNat j).1, D ++ (crF V F (m - j).toNat j).2) → (j = b → N = M) → Z 2 [some (mr 20), some (mi b), some (mi j), none] [] N := by
    intro d
    induction d using Nat.strongRecOn with
    | ind d ih =>
      intro j D N hd j0 j1 hN hl hc hjb
      have hbN : bX N 1 = V := hN.bx.trans hV
      have hFN : FX N = F := hN.fx.trans hF
      have hvN : vOk (bX N 1) := by rw [hbN]; exact hv
      have hBN := hvN.bx
      have e6 : N 20 6 = m := hN.2.2.2.2.2.1.trans hm
      have n1 := hN.1
      have hcs := crF_spec V F (m - (j + 1)).toNat (j + 1)
      have hstep : (isLC (F j) ∨ isRl V (F j)) → j < m ∧ crF V F (m - j).toNat j = ((crF V F (m - (j + 1)).toNat (j + 1)).1, ltrs V (F j) 65 ++ (crF V F (m - (j + 1)).toNat (j + 1)).2) := by
        intro h
        have hjm : j < m := by
          rcases Int.lt_or_eq_of_le j1 with q | q
          · exact q
          · rw [q, hFm] at h
            exfalso
            rcases h with h | h
            · simp only [isLC] at h; omega
            · have := h.1; simp only [isRC] at this; omega
        refine ⟨hjm, ?_⟩
        rw [show (m - j).toNat = (m - (j + 1)).toNat + 1 by omega]
        conv => lhs; unfold crF
        rw [if_pos h]
      have hstop : ¬ (isLC (F j) ∨ isRl V (F j)) → crF V F (m - j).toNat j = (j, []) := by
        intro h
        cases hk : (m - j).toNat with
        | zero => rfl
        | succ k => unfold crF; rw [if_neg h]
      have go : (isLC (F j) ∨ isRl V (F j)) → ∀ N2 : Mem, RS (ltrs V (F j) 65) (N 20 2) (N 20 3) (N 20 7) N N2 → Z 30 [some (mr 20), some (mi b), some (mi j), some (mi (F j))] [] N2 := by
        intro h N2 h2
        obtain ⟨hjm, hst⟩ := hstep h
        refine w_in4_2 hZ 30 31 rfl rfl rfl (by unfold InR; omega) ?_
        refine w_goto hZ 31 2 rfl ?_
        refine w_fg4_3 hZ ?_
        rw [hN.2.2.2.1, hN.2.2.2.2.1, hN.2.2.2.2.2.2.1] at h2
        have hll := ltrs_len V (F j) 65
        refine ih ((m - (j + 1)).toNat) (by omega) (j + 1) (D ++ ltrs V (F j) 65) N2 rfl (by omega) (by omega) (hN.trans h2 h1) (by rw [List.length_append]; omega) ?_ (fun q => by omega)
        rw [hc, hst, List.append_assoc]
      refine w_iload hZ 2 3 rfl rfl rfl ?_
      refine w_aload hZ 3 4 rfl rfl rfl ?_
      refine w_getiv hZ 4 5 rfl rfl rfl rfl rfl (v := m) e6 ?_
      refine w_cgt hZ 5 6 rfl rfl (fun c5 => absurd c5 (by omega)) (fun c5 => ?_)
      refine w_aload hZ 6 7 rfl rfl rfl ?_
      refine w_iload hZ 7 8 rfl rfl rfl ?_
      refine k_X4_cellAt hZ 8 9 rfl rfl (Nat.le_of_ble_eq_true rfl) ⟨by omega, by omega⟩ ?_
      rw [hFN]
      refine w_st4_3 hZ 9 10 rfl rfl rfl ?_
      refine w_iload hZ 10 11 rfl rfl rfl ?_
      refine k_X6_isLetterCell hZ 11 12 rfl rfl (Nat.le_of_ble_eq_true rfl)  ?_
      refine w_ifne hZ 12 13 rfl rfl (fun c12 => ?_) (fun c12 => ?_)
      · 
        refine w_aload hZ 17 18 rfl rfl rfl ?_
        refine w_iload hZ 18 19 rfl rfl rfl ?_
        refine w_const hZ 19 20 rfl rfl  ?_
        refine k_X4_addLetters hZ 20 21 rfl rfl (Nat.le_of_ble_eq_true rfl) ⟨hvN, by omega, by omega, by omega, by omega⟩ (fun M20 p20 => ?_)
        refine w_goto hZ 21 30 rfl ?_
        rw [hbN] at p20
        first
          | exact go (Or.inl (b2i_e.mp c12)) _ p20
          | exact go (Or.inr (b2i_e.mp c16)) _ p20
      · refine w_aload hZ 13 14 rfl rfl rfl ?_
        refine w_iload hZ 14 15 rfl rfl rfl ?_
        refine k_X4_isRule hZ 15 16 rfl rfl (Nat.le_of_ble_eq_true rfl) hBN ?_
        rw [hbN]
        refine w_ifeq hZ 16 17 rfl rfl (fun c16 => ?_) (fun c16 => ?_)
        · refine w_iload hZ 22 23 rfl rfl rfl ?_
          refine w_iload hZ 23 24 rfl rfl rfl ?_
          refine w_cne hZ 24 25 rfl rfl (fun c24 => ?_) (fun c24 => ?_)
          · have hst := hstop (fun q => q.elim (b2i_z.mp c12) (b2i_z.mp c16))
            rw [hst] at hc
            simp only [List.append_nil] at hc
            refine w_iload hZ 28 29 rfl rfl rfl ?_
            refine w_iret hZ 29 rfl ?_
            rw [show j = (crF V F (m - b).toNat b).1 by rw [hc]]
            refine hR _ ?_
            first
              | (have hj : j = b := c24
                 rw [hjb hj] at p27
                 rw [if_pos (by rw [hc]; exact hj), p27, hV, hF, hj])
              | (rw [if_neg (by rw [hc]; exact c24), hc]; exact hN)
          · refine w_aload hZ 25 26 rfl rfl rfl ?_
            refine w_iload hZ 26 27 rfl rfl rfl ?_
            refine k_X4_failWrongAt hZ 27 28 rfl rfl (Nat.le_of_ble_eq_true rfl) ⟨hBN, by omega, by omega⟩ (fun M27 p27 => ?_)
            have hst := hstop (fun q => q.elim (b2i_z.mp c12) (b2i_z.mp c16))
            rw [hst] at hc
            simp only [List.append_nil] at hc
            refine w_iload hZ 28 29 rfl rfl rfl ?_
            refine w_iret hZ 29 rfl ?_
            rw [show j = (crF V F (m - b).toNat b).1 by rw [hc]]
            refine hR _ ?_
            first
              | (have hj : j = b := c24
                 rw [hjb hj] at p27
                 rw [if_pos (by rw [hc]; exact hj), p27, hV, hF, hj])
              | (rw [if_neg (by rw [hc]; exact c24), hc]; exact hN)
        · 
          refine w_aload hZ 17 18 rfl rfl rfl ?_
          refine w_iload hZ 18 19 rfl rfl rfl ?_
          refine w_const hZ 19 20 rfl rfl  ?_
          refine k_X4_addLetters hZ 20 21 rfl rfl (Nat.le_of_ble_eq_true rfl) ⟨hvN, by omega, by omega, by omega, by omega⟩ (fun M20 p20 => ?_)
          refine w_goto hZ 21 30 rfl ?_
          rw [hbN] at p20
          first
            | exact go (Or.inl (b2i_e.mp c12)) _ p20
            | exact go (Or.inr (b2i_e.mp c16)) _ p20
  refine w_iload hZ 0 1 rfl rfl rfl ?_
  refine w_st4_2 hZ 1 2 rfl rfl rfl ?_
  exact loop _ b [] M rfl (Int.le_refl _) p1 (RS_nil M) (by simp) (by simp) (fun _ => rfl)
set_option maxRecDepth 100000 in
set_option maxHeartbeats 4000000 in
theorem ao_X4_readCapitals : AllOk yX4_readCapitals.cls cX4_readCapitals 4 3 64 (some .int) none pc_X4_readCapitals 0 cd_X4_readCapitals := ⟨s_iload_n (k := 1) (by decide +kernel) rfl rfl, ⟨s_istore_n (k := 2) (by decide +kernel) rfl rfl, ⟨s_iload_n (k := 2) (by decide +kernel) rfl rfl, ⟨s_aload_n (k := 0) (by decide +kernel) rfl rfl, ⟨s_get (C := RX4) (T := TX4) (N := 8) rfl inT4 (by decide) tw_1_168 (by decide +kernel) rfl, ⟨s_cgt (off := (52)) (by decide +kernel) rfl rfl, ⟨s_aload_n (k := 0) (by decide +kernel) rfl rfl, ⟨s_iload_n (k := 2) (by decide +kernel) rfl rfl, ⟨s_callV (C := RX4) (T := TX4) (N := 8) rfl ct_X4_cellAt (by decide) (by decide) ⟨rfl, by decide +kernel, by decide +kernel, by decide +kernel⟩ tw_3_58 tw_3_60 ts_2_6 tw_1_6 tw_3_61 (by decide +kernel) rfl, ⟨s_istore_n (k := 3) (by decide +kernel) rfl rfl, ⟨s_iload_n (k := 3) (by decide +kernel) rfl rfl, ⟨s_callN ct_X6_isLetterCell (by decide) (by decide) ⟨by decide +kernel, by decide +kernel, by decide +kernel⟩ ni_15 tw_3_67 tw_1_1 tw_3_68 (by decide +kernel) rfl, ⟨s_ifne (off := (11)) (by decide +kernel) rfl rfl, ⟨s_aload_n (k := 0) (by decide +kernel) rfl rfl, ⟨s_iload_n (k := 3) (by decide +kernel) rfl rfl, ⟨s_callV (C := RX4) (T := TX4) (N := 8) rfl ct_X4_isRule (by decide) (by decide) ⟨rfl, by decide +kernel, by decide +kernel, by decide +kernel⟩ tw_3_69 tw_3_71 ts_2_8 tw_1_6 tw_3_72 (by decide +kernel) rfl, ⟨s_ifeq (off := (13)) (by decide +kernel) rfl rfl, ⟨s_aload_n (k := 0) (by decide +kernel) rfl rfl, ⟨s_iload_n (k := 3) (by decide +kernel) rfl rfl, ⟨s_bipush (by decide +kernel) rfl ⟨by decide, by decide⟩ (by decide +kernel), ⟨s_callV (C := RX4) (T := TX4) (N := 8) rfl ct_X4_addLetters (by decide) (by decide) ⟨rfl, by decide +kernel, by decide +kernel, by decide +kernel⟩ tw_3_75 tw_3_77 ts_2_9 tw_1_6 tw_3_78 (by decide +kernel) rfl, ⟨s_goto (off := (15)) (by decide +kernel) rfl, ⟨s_iload_n (k := 2) (by decide +kernel) rfl rfl, ⟨s_iload_n (k := 1) (by decide +kernel) rfl rfl, ⟨s_cne (off := (8)) (by decide +kernel) rfl rfl, ⟨s_aload_n (k := 0) (by decide +kernel) rfl rfl, ⟨s_iload_n (k := 2) (by decide +kernel) rfl rfl, ⟨s_callV (C := RX4) (T := TX4) (N := 8) rfl ct_X4_failWrongAt (by decide) (by decide) ⟨rfl, by decide +kernel, by decide +kernel, by decide +kernel⟩ tw_3_84 tw_3_86 ts_2_11 tw_1_6 tw_3_87 (by decide +kernel) rfl, ⟨s_iload_n (k := 2) (by decide +kernel) rfl rfl, ⟨s_iret rfl (by decide +kernel), ⟨s_iinc (by decide +kernel) rfl, ⟨s_goto (off := (-54)) (by decide +kernel) rfl, ⟨s_aload_n (k := 0) (by decide +kernel) rfl rfl, ⟨s_get (C := RX4) (T := TX4) (N := 8) rfl inT4 (by decide) tw_1_168 (by decide +kernel) rfl, ⟨s_iret rfl (by decide +kernel), trivial⟩⟩⟩⟩⟩⟩⟩⟩⟩⟩⟩⟩⟩⟩⟩⟩⟩⟩⟩⟩⟩⟩⟩⟩⟩⟩⟩⟩⟩⟩⟩⟩⟩⟩⟩
theorem ct_X4_readCapitals : Ctr yX4_readCapitals cX4_readCapitals 4 (some .int) 3 64 sp_X4_readCapitals := by
  refine ctr_of (by decide +kernel) ao_X4_readCapitals rfl ?_
  rintro av M Ret ⟨b, rfl, hp, hR⟩ hok hM
  exact ⟨Nat.le_of_ble_eq_true rfl, fun Z hZ => b_X4_readCapitals  b (hok _ (List.mem_of_getElem? (i := 1) rfl)) M Ret hp hR hM Z hZ⟩
def sp_X4_readFigures : SP := fun av M Ret => ∃ b : Int, av = [mr 20, mi b] ∧ (Rx M ∧ M 20 1 + 4 * (M 20 6 - b) + 4 ≤ 960 ∧ 0 ≤ b ∧ b ≤ M 20 6) ∧ (∀ M2 : Mem, (if isFC (FX M b) then RS (frF (FX M) (M 20 6 - b).toNat b).2 (M 20 2) (M 20 3) (frF (FX M) (M 20 6 - b).toNat b).1 M M2 else M2 = flA M b (fk (bX M 1) (FX M b))) → Ret (some (mi (if isFC (FX M b) then (frF (FX M) (M 20 6 - b).toNat b).1 else b))) M2)
theorem k_X4_readFigures {code : List Sem} {Z : KZ} {Ret : KR} {ls : List (Option MV)} {M : Mem} {r : List MV} (hZ : Sim code Z Ret) (ip np : Nat) {b : Int} (hc : code[ip]? = some (I_callV 4 1 sp_X4_readFigures)) (hn : ip + 1 = np) (h3 : catS r ≤ 8)  (hp : Rx M ∧ M 20 1 + 4 * (M 20 6 - b) + 4 ≤ 960 ∧ 0 ≤ b ∧ b ≤ M 20 6) (kz : ∀ M2 : Mem, (if isFC (FX M b) then RS (frF (FX M) (M 20 6 - b).toNat b).2 (M 20 2) (M 20 3) (frF (FX M) (M 20 6 - b).toNat b).1 M M2 else M2 = flA M b (fk (bX M 1) (FX M b))) → Z np ls (mi (if isFC (FX M b) then (frF (FX M) (M 20 6 - b).toNat b).1 else b) :: r) M2) : Z ip ls (mi b :: mr 20 :: r) M := w_callV1 hZ ip np hc hn rfl rfl h3 ⟨_, rfl, hp, fun M2 h => kz M2 h⟩
def cd_X4_readFigures : List Sem := [I_aload 0, I_iload 1, I_callV 4 1 sp_X4_cellAt, I_callS 1 sp_X6_isFigureCell, I_ifne 10, I_aload 0, I_iload 1, I_callV 4 1 sp_X4_failWrongAt, I_iload 1, I_iret, I_iload 1, I_istore 2, I_iload 2, I_aload 0, I_get 4 6, I_cge 49, I_aload 0, I_iload 2, I_callV 4 1 sp_X4_cellAt, I_istore 3, I_iload 3, I_callS 1 sp_X6_isFigureCell, I_ifeq 33, I_aload 0, I_iload 3, I_callS 1 sp_X6_signOfFigureCell, I_callV 4 1 sp_X4_addSign, I_aload 0, I_iload 2, I_const (1), I_add, I_puti 4 7, I_goto 47, I_iload 3, I_callS 1 sp_X6_isPointOrCommaCell, I_ifeq 49, I_aload 0, I_iload 2, I_const (1), I_add, I_callV 4 1 sp_X4_cellAt, I_callS 1 sp_X6_isFigureCell, I_ifeq 49, I_aload 0, I_iload 3, I_callS 1 sp_X6_signOfMarkCell, I_callV 4 1 sp_X4_addSign, I_iinc 2 (1), I_goto 12, I_aload 0, I_get 4 7, I_iret]
def pc_X4_readFigures : List Nat := [0, 1, 2, 5, 8, 11, 12, 13, 16, 17, 18, 19, 20, 21, 22, 25, 28, 29, 30, 33, 34, 35, 38, 41, 42, 43, 46, 49, 50, 51, 52, 53, 56, 59, 60, 63, 66, 67, 68, 69, 70, 73, 76, 79, 80, 81, 84, 87, 90, 93, 94, 97]
set_option maxRecDepth 100000 in
set_option maxHeartbeats 4000000 in
theorem b_X4_readFigures (b : Int) (i_b : InR b) (M : Mem) (Ret : KR) (hp : Rx M ∧ M 20 1 + 4 * (M 20 6 - b) + 4 ≤ 960 ∧ 0 ≤ b ∧ b ≤ M 20 6) (hR : ∀ M2 : Mem, (if isFC (FX M b) then RS (frF (FX M) (M 20 6 - b).toNat b).2 (M 20 2) (M 20 3) (frF (FX M) (M 20 6 - b).toNat b).1 M M2 else M2 = flA M b (fk (bX M 1) (FX M b))) → Ret (some (mi (if isFC (FX M b) then (frF (FX M) (M 20 6 - b).toNat b).1 else b))) M2) (hM : MOk M) (Z : KZ) (hZ : Sim cd_X4_readFigures Z Ret) : Z 0 [some (mr 20), some (mi b), none, none] [] M := by
  obtain ⟨⟨hv, h6, h6b, h1⟩, h4, p0, p1⟩ := hp
  have hb := hv.bx
  have hFX : ∀ j, M 20 6 ≤ j → FX M j = -1 := fun j h => FX_hi M h
  generalize hV : bX M 1 = V at *
  generalize hF : FX M = F at *
  generalize hm : M 20 6 = m at *
  have hin : ∀ j, ¬ F j = -1 → j < m := fun j h => Decidable.byContradiction fun q => h (hFX j (by omega))
  have loop : isFC (F b) → ∀ (d : Nat) (j : Int) (D : List Int) (N : Mem), d = (m - j).toNat → b ≤ j → j ≤ m → RS D (M 20 2) (M 20 3) (N 20 7) M N → (D.length : Int) = j - b → frF F (m - b).toNat b = ((frF F (m - j).toNat j).1, D ++ (frF F (m - j).toNat j).2) → (isFC (F j) ∨ N 20 7 = j) → Z 12 [some (mr 20), some (mi b), some (mi j), none] [] N := by
    intro hfb d
    induction d using Nat.strongRecOn with
    | ind d ih =>
      intro j D N hd j0 j1 hN hl hc hfe
      have hFN : FX N = F := hN.fx.trans hF
      have e6 : N 20 6 = m := hN.2.2.2.2.2.1.trans hm
      have n1 := hN.1
      have hs1 : j < m → isFC (F j) → frF F (m - j).toNat j = ((frF F (m - (j + 1)).toNat (j + 1)).1, fgS (F j) :: (frF F (m - (j + 1)).toNat (j + 1)).2) := by
        intro hjm h
        rw [show (m - j).toNat = (m - (j + 1)).toNat + 1 by omega]
        conv => lhs; unfold frF
        rw [if_pos h]
      have hs2 : j < m → ¬ isFC (F j) → isPCC (F j) ∧ isFC (F (j + 1)) → frF F (m - j).toNat j = ((frF F (m - (j + 1)).toNat (j + 1)).1, mkS (F j) :: (frF F (m - (j + 1)).toNat (j + 1)).2) := by
        intro hjm h h2
        rw [show (m - j).toNat = (m - (j + 1)).toNat + 1 by omega]
        conv => lhs; unfold frF
        rw [if_neg h, if_pos h2]
      have hs3 : ¬ isFC (F j) → ¬ (isPCC (F j) ∧ isFC (F (j + 1))) → frF F (m - j).toNat j = (j, []) := by
        intro h h2
        cases hk : (m - j).toNat with
        | zero => rfl
        | succ k => unfold frF; rw [if_neg h, if_neg h2]
      have fin : frF F (m - j).toNat j = (j, []) → ¬ isFC (F j) → ∀ x : Option MV, Z 49 [some (mr 20), some (mi b), some (mi j), x] [] N := by
        intro hst hnf x
        have h7 : N 20 7 = j := hfe.elim (fun q => absurd q hnf) id
        rw [hst] at hc
        simp only [List.append_nil] at hc
        refine w_aload hZ 49 50 rfl rfl rfl ?_
        refine w_getiv hZ 50 51 rfl rfl rfl rfl rfl (v := j) h7 ?_
        refine w_iret hZ 51 rfl ?_
        rw [if_pos hfb, hc] at hR
        refine hR _ ?_
        rw [if_pos hfb, ← h7]
        exact hN
      refine w_iload hZ 12 13 rfl rfl rfl ?_
      refine w_aload hZ 13 14 rfl rfl rfl ?_
      refine w_getiv hZ 14 15 rfl rfl rfl rfl rfl (v := m) e6 ?_
      refine w_cge hZ 15 16 rfl rfl (fun c15 => ?_) (fun c15 => ?_)
      · first
          | (refine fin ?_ ?_ _
             · rw [show (m - j).toNat = 0 by omega]; rfl
             · intro q; have := hin j (by simp only [isFC] at q; omega); omega)
          | exact fin (hs3 (b2i_z.mp c22) (fun q => (b2i_z.mp c35) q.1)) (b2i_z.mp c22) _
          | exact fin (hs3 (b2i_z.mp c22) (fun q => (b2i_z.mp c42) q.2)) (b2i_z.mp c22) _
      · refine w_aload hZ 16 17 rfl rfl rfl ?_
        refine w_iload hZ 17 18 rfl rfl rfl ?_
        refine k_X4_cellAt hZ 18 19 rfl rfl (Nat.le_of_ble_eq_true rfl) ⟨by omega, by omega⟩ ?_
        rw [hFN]
        refine w_st4_3 hZ 19 20 rfl rfl rfl ?_
        refine w_iload hZ 20 21 rfl rfl rfl ?_
        refine k_X6_isFigureCell hZ 21 22 rfl rfl (Nat.le_of_ble_eq_true rfl)  ?_
        refine w_ifeq hZ 22 23 rfl rfl (fun c22 => ?_) (fun c22 => ?_)
        · refine w_iload hZ 33 34 rfl rfl rfl ?_
          refine k_X6_isPointOrCommaCell hZ 34 35 rfl rfl (Nat.le_of_ble_eq_true rfl)  ?_
          refine w_ifeq hZ 35 36 rfl rfl (fun c35 => ?_) (fun c35 => ?_)
          · first
              | (refine fin ?_ ?_ _
                 · rw [show (m - j).toNat = 0 by omega]; rfl
                 · intro q; have := hin j (by simp only [isFC] at q; omega); omega)
              | exact fin (hs3 (b2i_z.mp c22) (fun q => (b2i_z.mp c35) q.1)) (b2i_z.mp c22) _
              | exact fin (hs3 (b2i_z.mp c22) (fun q => (b2i_z.mp c42) q.2)) (b2i_z.mp c22) _
          · refine w_aload hZ 36 37 rfl rfl rfl ?_
            refine w_iload hZ 37 38 rfl rfl rfl ?_
            refine w_const hZ 38 39 rfl rfl  ?_
            refine w_add hZ 39 40 rfl rfl (by unfold InR; omega) ?_
            refine k_X4_cellAt hZ 40 41 rfl rfl (Nat.le_of_ble_eq_true rfl) ⟨by omega, by omega⟩ ?_
            rw [hFN]
            refine k_X6_isFigureCell hZ 41 42 rfl rfl (Nat.le_of_ble_eq_true rfl)  ?_
            refine w_ifeq hZ 42 43 rfl rfl (fun c42 => ?_) (fun c42 => ?_)
            · first
                | (refine fin ?_ ?_ _
                   · rw [show (m - j).toNat = 0 by omega]; rfl
                   · intro q; have := hin j (by simp only [isFC] at q; omega); omega)
                | exact fin (hs3 (b2i_z.mp c22) (fun q => (b2i_z.mp c35) q.1)) (b2i_z.mp c22) _
                | exact fin (hs3 (b2i_z.mp c22) (fun q => (b2i_z.mp c42) q.2)) (b2i_z.mp c22) _
            · refine w_aload hZ 43 44 rfl rfl rfl ?_
              refine w_iload hZ 44 45 rfl rfl rfl ?_
              refine k_X6_signOfMarkCell hZ 45 46 rfl rfl (Nat.le_of_ble_eq_true rfl)  ?_
              refine k_X4_addSign hZ 46 47 rfl rfl (Nat.le_of_ble_eq_true rfl) ⟨by omega, by omega⟩ (fun M46 p46 => ?_)
              subst p46
              refine w_in4_2 hZ 47 48 rfl rfl rfl (by unfold InR; omega) ?_
              refine w_goto hZ 48 12 rfl ?_
              refine w_fg4_3 hZ ?_
              have hz := hN.trans (RS_1 (by omega) (mkS (F j))) h1
              rw [hN.2.2.2.1, hN.2.2.2.2.1] at hz
              have e7 : adS N (mkS (F j)) 20 7 = N 20 7 := by simp [adS, mup_at]
              refine ih ((m - (j + 1)).toNat) (by omega) (j + 1) (D ++ [mkS (F j)]) _ rfl (by omega) (by omega) (by rw [e7]; exact hz) (by rw [List.length_append]; simp; omega) ?_ (Or.inl (b2i_e.mp c42))
              rw [hc, hs2 (by omega) (b2i_z.mp c22) ⟨b2i_e.mp c35, b2i_e.mp c42⟩]
              simp
        · refine w_aload hZ 23 24 rfl rfl rfl ?_
          refine w_iload hZ 24 25 rfl rfl rfl ?_
          refine k_X6_signOfFigureCell hZ 25 26 rfl rfl (Nat.le_of_ble_eq_true rfl) (by have := b2i_e.mp c22; simp only [isFC] at this; omega) ?_
          refine k_X4_addSign hZ 26 27 rfl rfl (Nat.le_of_ble_eq_true rfl) ⟨by omega, by omega⟩ (fun M26 p26 => ?_)
          subst p26
          refine w_aload hZ 27 28 rfl rfl rfl ?_
          refine w_iload hZ 28 29 rfl rfl rfl ?_
          refine w_const hZ 29 30 rfl rfl  ?_
          refine w_add hZ 30 31 rfl rfl (by unfold InR; omega) ?_
          refine w_puti hZ 31 32 rfl rfl rfl rfl rfl ?_
          refine w_goto hZ 32 47 rfl ?_
          refine w_in4_2 hZ 47 48 rfl rfl rfl (by unfold InR; omega) ?_
          refine w_goto hZ 48 12 rfl ?_
          refine w_fg4_3 hZ ?_
          have hz := hN.trans (RS_1 (by omega) (fgS (F j))) h1
          rw [hN.2.2.2.1, hN.2.2.2.2.1] at hz
          have hz2 : RS (D ++ [fgS (F j)]) (M 20 2) (M 20 3) (j + 1) M (mup (adS N (fgS (F j))) 20 7 (j + 1)) := by
            obtain ⟨z1, z2, z3, z4, z5, z6, z7, z8⟩ := hz
            refine ⟨by simp [mup_at]; simpa using z1, fun x hx => by simp [mup_at]; exact z2 x hx, fun x hx => by simp [mup_at]; simpa using z3 x hx, by simp [mup_at]; exact z4, by simp [mup_at]; exact z5, by simp [mup_at]; exact z6, by simp [mup_at], fun o o1 o2 => ?_⟩
            rw [← z8 o o1 o2]; funext x; simp [mup_at, o1]
          have e7 : mup (adS N (fgS (F j))) 20 7 (j + 1) 20 7 = j + 1 := by simp [mup_at]
          refine ih ((m - (j + 1)).toNat) (by omega) (j + 1) (D ++ [fgS (F j)]) _ rfl (by omega) (by omega) (by rw [e7]; exact hz2) (by rw [List.length_append]; simp; omega) ?_ (Or.inr e7)
          rw [hc, hs1 (by omega) (b2i_e.mp c22)]
          simp
  refine w_aload hZ 0 1 rfl rfl rfl ?_
  refine w_iload hZ 1 2 rfl rfl rfl ?_
  refine k_X4_cellAt hZ 2 3 rfl rfl (Nat.le_of_ble_eq_true rfl) ⟨by omega, by omega⟩ ?_
  rw [hF]
  refine k_X6_isFigureCell hZ 3 4 rfl rfl (Nat.le_of_ble_eq_true rfl)  ?_
  refine w_ifne hZ 4 5 rfl rfl (fun c4 => ?_) (fun c4 => ?_)
  · refine w_iload hZ 10 11 rfl rfl rfl ?_
    refine w_st4_2 hZ 11 12 rfl rfl rfl ?_
    exact loop (b2i_e.mp c4) _ b [] M rfl (Int.le_refl _) p1 (RS_nil M) (by simp) (by simp) (Or.inl (b2i_e.mp c4))
  · refine w_aload hZ 5 6 rfl rfl rfl ?_
    refine w_iload hZ 6 7 rfl rfl rfl ?_
    refine k_X4_failWrongAt hZ 7 8 rfl rfl (Nat.le_of_ble_eq_true rfl) ⟨hb, by omega, by omega⟩ (fun M7 p7 => ?_)
    refine w_iload hZ 8 9 rfl rfl rfl ?_
    refine w_iret hZ 9 rfl ?_
    rw [hV, hF] at p7
    rw [if_neg (b2i_z.mp c4)] at hR
    exact hR _ (by rw [if_neg (b2i_z.mp c4)]; exact p7)
set_option maxRecDepth 100000 in
set_option maxHeartbeats 4000000 in
theorem ao_X4_readFigures : AllOk yX4_readFigures.cls cX4_readFigures 4 3 64 (some .int) none pc_X4_readFigures 0 cd_X4_readFigures := ⟨s_aload_n (k := 0) (by decide +kernel) rfl rfl, ⟨s_iload_n (k := 1) (by decide +kernel) rfl rfl, ⟨s_callV (C := RX4) (T := TX4) (N := 8) rfl ct_X4_cellAt (by decide) (by decide) ⟨rfl, by decide +kernel, by decide +kernel, by decide +kernel⟩ tw_3_58 tw_3_60 ts_2_6 tw_1_6 tw_3_61 (by decide +kernel) rfl, ⟨s_callN ct_X6_isFigureCell (by decide) (by decide) ⟨by decide +kernel, by decide +kernel, by decide +kernel⟩ ni_18 tw_3_105 tw_1_1 tw_3_106 (by decide +kernel) rfl, ⟨s_ifne (off := (10)) (by decide +kernel) rfl rfl, ⟨s_aload_n (k := 0) (by decide +kernel) rfl rfl, ⟨s_iload_n (k := 1) (by decide +kernel) rfl rfl, ⟨s_callV (C := RX4) (T := TX4) (N := 8) rfl ct_X4_failWrongAt (by decide) (by decide) ⟨rfl, by decide +kernel, by decide +kernel, by decide +kernel⟩ tw_3_84 tw_3_86 ts_2_11 tw_1_6 tw_3_87 (by decide +kernel) rfl, ⟨s_iload_n (k := 1) (by decide +kernel) rfl rfl, ⟨s_iret rfl (by decide +kernel), ⟨s_iload_n (k := 1) (by decide +kernel) rfl rfl, ⟨s_istore_n (k := 2) (by decide +kernel) rfl rfl, ⟨s_iload_n (k := 2) (by decide +kernel) rfl rfl, ⟨s_aload_n (k := 0) (by decide +kernel) rfl rfl, ⟨s_get (C := RX4) (T := TX4) (N := 8) rfl inT4 (by decide) tw_1_168 (by decide +kernel) rfl, ⟨s_cge (off := (68)) (by decide +kernel) rfl rfl, ⟨s_aload_n (k := 0) (by decide +kernel) rfl rfl, ⟨s_iload_n (k := 2) (by decide +kernel) rfl rfl, ⟨s_callV (C := RX4) (T := TX4) (N := 8) rfl ct_X4_cellAt (by decide) (by decide) ⟨rfl, by decide +kernel, by decide +kernel, by decide +kernel⟩ tw_3_58 tw_3_60 ts_2_6 tw_1_6 tw_3_61 (by decide +kernel) rfl, ⟨s_istore_n (k := 3) (by decide +kernel) rfl rfl, ⟨s_iload_n (k := 3) (by decide +kernel) rfl rfl, ⟨s_callN ct_X6_isFigureCell (by decide) (by decide) ⟨by decide +kernel, by decide +kernel, by decide +kernel⟩ ni_18 tw_3_105 tw_1_1 tw_3_106 (by decide +kernel) rfl, ⟨s_ifeq (off := (21)) (by decide +kernel) rfl rfl, ⟨s_aload_n (k := 0) (by decide +kernel) rfl rfl, ⟨s_iload_n (k := 3) (by decide +kernel) rfl rfl, ⟨s_callN ct_X6_signOfFigureCell (by decide) (by decide) ⟨by decide +kernel, by decide +kernel, by decide +kernel⟩ ni_19 tw_3_108 tw_1_1 tw_3_109 (by decide +kernel) rfl, ⟨s_callV (C := RX4) (T := TX4) (N := 8) rfl ct_X4_addSign (by decide) (by decide) ⟨rfl, by decide +kernel, by decide +kernel, by decide +kernel⟩ tw_3_79 tw_3_81 ts_2_10 tw_1_6 tw_3_82 (by decide +kernel) rfl, ⟨s_aload_n (k := 0) (by decide +kernel) rfl rfl, ⟨s_iload_n (k := 2) (by decide +kernel) rfl rfl, ⟨s_iconst (by decide +kernel) rfl ⟨by decide, by decide⟩, ⟨s_add (by decide +kernel) rfl, ⟨s_puti (C := RX4) (T := TX4) (N := 8) (tyf := tyX4) rfl inT4 tyX4_ok nmX4 (by decide) rfl rfl tw_1_169 (by decide +kernel) rfl, ⟨s_goto (off := (31)) (by decide +kernel) rfl, ⟨s_iload_n (k := 3) (by decide +kernel) rfl rfl, ⟨s_callN ct_X6_isPointOrCommaCell (by decide) (by decide) ⟨by decide +kernel, by decide +kernel, by decide +kernel⟩ ni_20 tw_3_111 tw_1_1 tw_3_112 (by decide +kernel) rfl, ⟨s_ifeq (off := (30)) (by decide +kernel) rfl rfl, ⟨s_aload_n (k := 0) (by decide +kernel) rfl rfl, ⟨s_iload_n (k := 2) (by decide +kernel) rfl rfl, ⟨s_iconst (by decide +kernel) rfl ⟨by decide, by decide⟩, ⟨s_add (by decide +kernel) rfl, ⟨s_callV (C := RX4) (T := TX4) (N := 8) rfl ct_X4_cellAt (by decide) (by decide) ⟨rfl, by decide +kernel, by decide +kernel, by decide +kernel⟩ tw_3_58 tw_3_60 ts_2_6 tw_1_6 tw_3_61 (by decide +kernel) rfl, ⟨s_callN ct_X6_isFigureCell (by decide) (by decide) ⟨by decide +kernel, by decide +kernel, by decide +kernel⟩ ni_18 tw_3_105 tw_1_1 tw_3_106 (by decide +kernel) rfl, ⟨s_ifeq (off := (17)) (by decide +kernel) rfl rfl, ⟨s_aload_n (k := 0) (by decide +kernel) rfl rfl, ⟨s_iload_n (k := 3) (by decide +kernel) rfl rfl, ⟨s_callN ct_X6_signOfMarkCell (by decide) (by decide) ⟨by decide +kernel, by decide +kernel, by decide +kernel⟩ ni_21 tw_3_114 tw_1_1 tw_3_115 (by decide +kernel) rfl, ⟨s_callV (C := RX4) (T := TX4) (N := 8) rfl ct_X4_addSign (by decide) (by decide) ⟨rfl, by decide +kernel, by decide +kernel, by decide +kernel⟩ tw_3_79 tw_3_81 ts_2_10 tw_1_6 tw_3_82 (by decide +kernel) rfl, ⟨s_iinc (by decide +kernel) rfl, ⟨s_goto (off := (-70)) (by decide +kernel) rfl, ⟨s_aload_n (k := 0) (by decide +kernel) rfl rfl, ⟨s_get (C := RX4) (T := TX4) (N := 8) rfl inT4 (by decide) tw_1_169 (by decide +kernel) rfl, ⟨s_iret rfl (by decide +kernel), trivial⟩⟩⟩⟩⟩⟩⟩⟩⟩⟩⟩⟩⟩⟩⟩⟩⟩⟩⟩⟩⟩⟩⟩⟩⟩⟩⟩⟩⟩⟩⟩⟩⟩⟩⟩⟩⟩⟩⟩⟩⟩⟩⟩⟩⟩⟩⟩⟩⟩⟩⟩⟩
theorem ct_X4_readFigures : Ctr yX4_readFigures cX4_readFigures 4 (some .int) 3 64 sp_X4_readFigures := by
  refine ctr_of (by decide +kernel) ao_X4_readFigures rfl ?_
  rintro av M Ret ⟨b, rfl, hp, hR⟩ hok hM
  exact ⟨Nat.le_of_ble_eq_true rfl, fun Z hZ => b_X4_readFigures  b (hok _ (List.mem_of_getElem? (i := 1) rfl)) M Ret hp hR hM Z hZ⟩
end
section
/-! Reader: all -/
theorem stp_fe {V : BV} {F : Int → Int} {m i fe : Int} (hi : i < m) (h1 : -1 ≤ fe) (h2 : fe ≤ m) (h0 : 0 ≤ i) : -1 ≤ (stp V F m i fe).2.2.2.1 ∧ (stp V F m i fe).2.2.2.1 ≤ m := by
  have hc := frF_spec F (m - (i + 1)).toNat (i + 1)
  unfold stp
  repeat' split
  all_goals (simp only; omega)
def sp_X4_readAt : SP := fun av M Ret => ∃ i : Int, av = [mr 20, mi i] ∧ (Rx M ∧ M 20 2 = 0 ∧ M 20 3 = -1 ∧ -1 ≤ M 20 7 ∧ M 20 7 ≤ 240 ∧ 0 ≤ i ∧ i < M 20 6 ∧ M 20 1 ≤ 4 * i) ∧ (∀ M2 : Mem, (RS (stp (bX M 1) (FX M) (M 20 6) i (M 20 7)).2.2.2.2 (stp (bX M 1) (FX M) (M 20 6) i (M 20 7)).1 (stp (bX M 1) (FX M) (M 20 6) i (M 20 7)).2.1 (stp (bX M 1) (FX M) (M 20 6) i (M 20 7)).2.2.2.1 M M2) → Ret (some (mi ((stp (bX M 1) (FX M) (M 20 6) i (M 20 7)).2.2.1))) M2)
theorem k_X4_readAt {code : List Sem} {Z : KZ} {Ret : KR} {ls : List (Option MV)} {M : Mem} {r : List MV} (hZ : Sim code Z Ret) (ip np : Nat) {i : Int} (hc : code[ip]? = some (I_callV 4 1 sp_X4_readAt)) (hn : ip + 1 = np) (h3 : catS r ≤ 8)  (hp : Rx M ∧ M 20 2 = 0 ∧ M 20 3 = -1 ∧ -1 ≤ M 20 7 ∧ M 20 7 ≤ 240 ∧ 0 ≤ i ∧ i < M 20 6 ∧ M 20 1 ≤ 4 * i) (kz : ∀ M2 : Mem, (RS (stp (bX M 1) (FX M) (M 20 6) i (M 20 7)).2.2.2.2 (stp (bX M 1) (FX M) (M 20 6) i (M 20 7)).1 (stp (bX M 1) (FX M) (M 20 6) i (M 20 7)).2.1 (stp (bX M 1) (FX M) (M 20 6) i (M 20 7)).2.2.2.1 M M2) → Z np ls (mi ((stp (bX M 1) (FX M) (M 20 6) i (M 20 7)).2.2.1) :: r) M2) : Z ip ls (mi i :: mr 20 :: r) M := w_callV1 hZ ip np hc hn rfl rfl h3 ⟨_, rfl, hp, fun M2 h => kz M2 h⟩
def cd_X4_readAt : List Sem := [I_aload 0, I_iload 1, I_callV 4 1 sp_X4_cellAt, I_istore 2, I_iload 2, I_tsw (60) [6, 25, 31] 38, I_aload 0, I_iload 1, I_const (1), I_add, I_callV 4 1 sp_X4_cellAt, I_const (60), I_cne 19, I_aload 0, I_iload 1, I_const (2), I_add, I_callV 4 1 sp_X4_readCapitals, I_goto 24, I_aload 0, I_iload 1, I_const (1), I_add, I_callV 4 1 sp_X4_readCapital, I_iret, I_aload 0, I_iload 1, I_const (1), I_add, I_callV 4 1 sp_X4_readFigures, I_iret, I_aload 0, I_iload 1, I_callV 4 1 sp_X4_checkLetters, I_iload 1, I_const (1), I_add, I_iret, I_aload 0, I_iload 1, I_iload 2, I_callV 4 2 sp_X4_readPlain, I_iload 1, I_const (1), I_add, I_iret]
def pc_X4_readAt : List Nat := [0, 1, 2, 5, 6, 7, 32, 33, 34, 35, 36, 39, 41, 44, 45, 46, 47, 48, 51, 54, 55, 56, 57, 58, 61, 62, 63, 64, 65, 66, 69, 70, 71, 72, 75, 76, 77, 78, 79, 80, 81, 82, 85, 86, 87, 88]
set_option maxRecDepth 100000 in
set_option maxHeartbeats 4000000 in
theorem b_X4_readAt (i : Int) (i_i : InR i) (M : Mem) (Ret : KR) (hp : Rx M ∧ M 20 2 = 0 ∧ M 20 3 = -1 ∧ -1 ≤ M 20 7 ∧ M 20 7 ≤ 240 ∧ 0 ≤ i ∧ i < M 20 6 ∧ M 20 1 ≤ 4 * i) (hR : ∀ M2 : Mem, (RS (stp (bX M 1) (FX M) (M 20 6) i (M 20 7)).2.2.2.2 (stp (bX M 1) (FX M) (M 20 6) i (M 20 7)).1 (stp (bX M 1) (FX M) (M 20 6) i (M 20 7)).2.1 (stp (bX M 1) (FX M) (M 20 6) i (M 20 7)).2.2.2.1 M M2) → Ret (some (mi ((stp (bX M 1) (FX M) (M 20 6) i (M 20 7)).2.2.1))) M2) (hM : MOk M) (Z : KZ) (hZ : Sim cd_X4_readAt Z Ret) : Z 0 [some (mr 20), some (mi i), none] [] M := by
  obtain ⟨hr, h2, h3, a3, a4, a5, a6, a7⟩ := hp
  have hx := hr.2.2.1
  have hx0 := hr.2.2.2
  have fin : ∀ r : RST, stp (bX M 1) (FX M) (M 20 6) i (M 20 7) = r → ∀ (x : Int) (M2 : Mem), x = r.2.2.1 → RS r.2.2.2.2 r.1 r.2.1 r.2.2.2.1 M M2 → Ret (some (mi x)) M2 := by
    intro r q x M2 e h; subst e; subst q; exact hR M2 h
  have hin : ∀ j, ¬ FX M j = -1 → j < M 20 6 := fun j h => (FX_in h).2
  refine w_aload hZ 0 1 rfl rfl rfl ?_
  refine w_iload hZ 1 2 rfl rfl rfl ?_
  refine k_X4_cellAt hZ 2 3 rfl rfl (Nat.le_of_ble_eq_true rfl) ⟨by omega, by omega⟩ ?_
  refine w_st3_2 hZ 3 4 rfl rfl rfl ?_
  refine w_iload hZ 4 5 rfl rfl rfl ?_
  refine w_tsw3 hZ 5 rfl (fun c5 => ?_) (fun c5 => ?_) (fun c5 => ?_) (fun c5 => ?_)
  · refine w_aload hZ 6 7 rfl rfl rfl ?_
    refine w_iload hZ 7 8 rfl rfl rfl ?_
    refine w_const hZ 8 9 rfl rfl  ?_
    refine w_add hZ 9 10 rfl rfl (by unfold InR; omega) ?_
    refine k_X4_cellAt hZ 10 11 rfl rfl (Nat.le_of_ble_eq_true rfl) ⟨by omega, by omega⟩ ?_
    refine w_const hZ 11 12 rfl rfl  ?_
    refine w_cne hZ 12 13 rfl rfl (fun c12 => ?_) (fun c12 => ?_)
    · refine w_aload hZ 19 20 rfl rfl rfl ?_
      refine w_iload hZ 20 21 rfl rfl rfl ?_
      refine w_const hZ 21 22 rfl rfl  ?_
      refine w_add hZ 22 23 rfl rfl (by unfold InR; omega) ?_
      refine k_X4_readCapital hZ 23 24 rfl rfl (Nat.le_of_ble_eq_true rfl) ⟨hr, by omega, by omega, by omega⟩ (fun M23 p23 => ?_)
      refine w_iret hZ 24 rfl ?_
      rw [h2, h3] at p23
      by_cases q : isLC (FX M (i + 1))
      · rw [if_pos q] at p23
        exact fin (0, -1, i + 2, M 20 7, [65 + FX M (i + 1) - 1]) (by unfold stp; rw [if_pos (by omega), if_neg (by omega), if_pos q]) _ _ (by show i + 1 + 1 = i + 2; omega) p23
      · rw [if_neg q] at p23
        subst p23
        exact fin (fk (bX M 1) (FX M (i + 1)), i + 1, i + 2, M 20 7, []) (by unfold stp; rw [if_pos (by omega), if_neg (by omega), if_neg q]) _ _ (by show i + 1 + 1 = i + 2; omega) (RS_fl M _ _)
    · refine w_aload hZ 13 14 rfl rfl rfl ?_
      refine w_iload hZ 14 15 rfl rfl rfl ?_
      refine w_const hZ 15 16 rfl rfl  ?_
      refine w_add hZ 16 17 rfl rfl (by unfold InR; omega) ?_
      refine k_X4_readCapitals hZ 17 18 rfl rfl (Nat.le_of_ble_eq_true rfl) ⟨hr, by omega, by omega, by have := hin (i + 1) (by omega); omega⟩ (fun M17 p17 => ?_)
      refine w_goto hZ 18 24 rfl ?_
      refine w_iret hZ 24 rfl ?_
      rw [h2, h3] at p17
      by_cases q : (crF (bX M 1) (FX M) (M 20 6 - (i + 2)).toNat (i + 2)).1 = i + 2
      · rw [if_pos q] at p17
        subst p17
        exact fin (fk (bX M 1) (FX M (i + 2)), i + 2, i + 2, M 20 7, []) (by unfold stp; rw [if_pos (by omega), if_pos (by omega), if_pos q]) _ _ q (RS_fl M _ _)
      · rw [if_neg q] at p17
        exact fin (0, -1, (crF (bX M 1) (FX M) (M 20 6 - (i + 2)).toNat (i + 2)).1, M 20 7, (crF (bX M 1) (FX M) (M 20 6 - (i + 2)).toNat (i + 2)).2) (by unfold stp; rw [if_pos (by omega), if_pos (by omega), if_neg q]) _ _ rfl p17
  · refine w_aload hZ 25 26 rfl rfl rfl ?_
    refine w_iload hZ 26 27 rfl rfl rfl ?_
    refine w_const hZ 27 28 rfl rfl  ?_
    refine w_add hZ 28 29 rfl rfl (by unfold InR; omega) ?_
    refine k_X4_readFigures hZ 29 30 rfl rfl (Nat.le_of_ble_eq_true rfl) ⟨hr, by omega, by omega, by omega⟩ (fun M29 p29 => ?_)
    refine w_iret hZ 30 rfl ?_
    rw [h2, h3] at p29
    by_cases q : isFC (FX M (i + 1))
    · rw [if_pos q] at p29
      exact fin (0, -1, (frF (FX M) (M 20 6 - (i + 1)).toNat (i + 1)).1, (frF (FX M) (M 20 6 - (i + 1)).toNat (i + 1)).1, (frF (FX M) (M 20 6 - (i + 1)).toNat (i + 1)).2) (by unfold stp; rw [if_neg (by omega), if_pos (by omega), if_pos q]) _ _ (by rw [if_pos q]) p29
    · rw [if_neg q] at p29
      subst p29
      exact fin (fk (bX M 1) (FX M (i + 1)), i + 1, i + 1, M 20 7, []) (by unfold stp; rw [if_neg (by omega), if_pos (by omega), if_neg q]) _ _ (by rw [if_neg q]) (RS_fl M _ _)
  · refine w_aload hZ 31 32 rfl rfl rfl ?_
    refine w_iload hZ 32 33 rfl rfl rfl ?_
    refine k_X4_checkLetters hZ 33 34 rfl rfl (Nat.le_of_ble_eq_true rfl) ⟨hr, a3, a4, a5, a6⟩ (fun M33 p33 => ?_)
    refine w_iload hZ 34 35 rfl rfl rfl ?_
    refine w_const hZ 35 36 rfl rfl  ?_
    refine w_add hZ 36 37 rfl rfl (by unfold InR; omega) ?_
    refine w_iret hZ 37 rfl ?_
    by_cases q : bhF (FX M) (M 20 7) i ∧ (isFC (FX M (i + 1)) ∨ isRl (bX M 1) (FX M (i + 1)))
    · rw [if_pos q] at p33
      rw [p33]
      refine fin (0, -1, i + 1, M 20 7, []) (by unfold stp; rw [if_neg (by omega), if_neg (by omega), if_pos (by omega), if_pos q]) _ _ rfl ?_
      have hz := RS_nil M
      rw [h2, h3] at hz
      exact hz
    · rw [if_neg q] at p33
      subst p33
      exact fin (2, i, i + 1, M 20 7, []) (by unfold stp; rw [if_neg (by omega), if_neg (by omega), if_pos (by omega), if_neg q]) _ _ rfl (RS_fl M _ _)
  · refine w_aload hZ 38 39 rfl rfl rfl ?_
    refine w_iload hZ 39 40 rfl rfl rfl ?_
    refine w_iload hZ 40 41 rfl rfl rfl ?_
    refine k_X4_readPlain hZ 41 42 rfl rfl (Nat.le_of_ble_eq_true rfl) ⟨hr, by omega⟩ (fun M41 p41 => ?_)
    refine w_iload hZ 42 43 rfl rfl rfl ?_
    refine w_const hZ 43 44 rfl rfl  ?_
    refine w_add hZ 44 45 rfl rfl (by unfold InR; omega) ?_
    refine w_iret hZ 45 rfl ?_
    rw [h2, h3] at p41
    by_cases q : noCl (bX M 1) (FX M i)
    · rw [if_pos q] at p41
      subst p41
      exact fin (1, i, i + 1, M 20 7, []) (by unfold stp; rw [if_neg (by omega), if_neg (by omega), if_neg (by omega), if_pos q]) _ _ rfl (RS_fl M _ _)
    · rw [if_neg q] at p41
      exact fin (0, -1, i + 1, M 20 7, if isLC (FX M i) ∨ isRC (FX M i) then ltrs (bX M 1) (FX M i) 97 else [mkS (FX M i)]) (by unfold stp; rw [if_neg (by omega), if_neg (by omega), if_neg (by omega), if_neg q]) _ _ rfl p41
set_option maxRecDepth 100000 in
set_option maxHeartbeats 4000000 in
theorem ao_X4_readAt : AllOk yX4_readAt.cls cX4_readAt 3 4 87 (some .int) none pc_X4_readAt 0 cd_X4_readAt := ⟨s_aload_n (k := 0) (by decide +kernel) rfl rfl, ⟨s_iload_n (k := 1) (by decide +kernel) rfl rfl, ⟨s_callV (C := RX4) (T := TX4) (N := 8) rfl ct_X4_cellAt (by decide) (by decide) ⟨rfl, by decide +kernel, by decide +kernel, by decide +kernel⟩ tw_3_58 tw_3_60 ts_2_6 tw_1_6 tw_3_61 (by decide +kernel) rfl, ⟨s_istore_n (k := 2) (by decide +kernel) rfl rfl, ⟨s_iload_n (k := 2) (by decide +kernel) rfl rfl, ⟨s_tsw (dfl := 72) (hi0 := 62) (offs := #[25, 55, 63]) (len := 25) (by decide +kernel) rfl rfl rfl, ⟨s_aload_n (k := 0) (by decide +kernel) rfl rfl, ⟨s_iload_n (k := 1) (by decide +kernel) rfl rfl, ⟨s_iconst (by decide +kernel) rfl ⟨by decide, by decide⟩, ⟨s_add (by decide +kernel) rfl, ⟨s_callV (C := RX4) (T := TX4) (N := 8) rfl ct_X4_cellAt (by decide) (by decide) ⟨rfl, by decide +kernel, by decide +kernel, by decide +kernel⟩ tw_3_58 tw_3_60 ts_2_6 tw_1_6 tw_3_61 (by decide +kernel) rfl, ⟨s_bipush (by decide +kernel) rfl ⟨by decide, by decide⟩ (by decide +kernel), ⟨s_cne (off := (13)) (by decide +kernel) rfl rfl, ⟨s_aload_n (k := 0) (by decide +kernel) rfl rfl, ⟨s_iload_n (k := 1) (by decide +kernel) rfl rfl, ⟨s_iconst (by decide +kernel) rfl ⟨by decide, by decide⟩, ⟨s_add (by decide +kernel) rfl, ⟨s_callV (C := RX4) (T := TX4) (N := 8) rfl ct_X4_readCapitals (by decide) (by decide) ⟨rfl, by decide +kernel, by decide +kernel, by decide +kernel⟩ tw_3_62 tw_3_64 ts_2_7 tw_1_6 tw_3_65 (by decide +kernel) rfl, ⟨s_goto (off := (10)) (by decide +kernel) rfl, ⟨s_aload_n (k := 0) (by decide +kernel) rfl rfl, ⟨s_iload_n (k := 1) (by decide +kernel) rfl rfl, ⟨s_iconst (by decide +kernel) rfl ⟨by decide, by decide⟩, ⟨s_add (by decide +kernel) rfl, ⟨s_callV (C := RX4) (T := TX4) (N := 8) rfl ct_X4_readCapital (by decide) (by decide) ⟨rfl, by decide +kernel, by decide +kernel, by decide +kernel⟩ tw_3_96 tw_3_98 ts_2_14 tw_1_6 tw_3_99 (by decide +kernel) rfl, ⟨s_iret rfl (by decide +kernel), ⟨s_aload_n (k := 0) (by decide +kernel) rfl rfl, ⟨s_iload_n (k := 1) (by decide +kernel) rfl rfl, ⟨s_iconst (by decide +kernel) rfl ⟨by decide, by decide⟩, ⟨s_add (by decide +kernel) rfl, ⟨s_callV (C := RX4) (T := TX4) (N := 8) rfl ct_X4_readFigures (by decide) (by decide) ⟨rfl, by decide +kernel, by decide +kernel, by decide +kernel⟩ tw_3_100 tw_3_102 ts_2_15 tw_1_6 tw_3_103 (by decide +kernel) rfl, ⟨s_iret rfl (by decide +kernel), ⟨s_aload_n (k := 0) (by decide +kernel) rfl rfl, ⟨s_iload_n (k := 1) (by decide +kernel) rfl rfl, ⟨s_callV (C := RX4) (T := TX4) (N := 8) rfl ct_X4_checkLetters (by decide) (by decide) ⟨rfl, by decide +kernel, by decide +kernel, by decide +kernel⟩ tw_3_116 tw_3_118 ts_3_0 tw_1_6 tw_3_119 (by decide +kernel) rfl, ⟨s_iload_n (k := 1) (by decide +kernel) rfl rfl, ⟨s_iconst (by decide +kernel) rfl ⟨by decide, by decide⟩, ⟨s_add (by decide +kernel) rfl, ⟨s_iret rfl (by decide +kernel), ⟨s_aload_n (k := 0) (by decide +kernel) rfl rfl, ⟨s_iload_n (k := 1) (by decide +kernel) rfl rfl, ⟨s_iload_n (k := 2) (by decide +kernel) rfl rfl, ⟨s_callV (C := RX4) (T := TX4) (N := 8) rfl ct_X4_readPlain (by decide) (by decide) ⟨rfl, by decide +kernel, by decide +kernel, by decide +kernel⟩ tw_3_124 tw_3_126 ts_3_2 tw_1_6 tw_3_127 (by decide +kernel) rfl, ⟨s_iload_n (k := 1) (by decide +kernel) rfl rfl, ⟨s_iconst (by decide +kernel) rfl ⟨by decide, by decide⟩, ⟨s_add (by decide +kernel) rfl, ⟨s_iret rfl (by decide +kernel), trivial⟩⟩⟩⟩⟩⟩⟩⟩⟩⟩⟩⟩⟩⟩⟩⟩⟩⟩⟩⟩⟩⟩⟩⟩⟩⟩⟩⟩⟩⟩⟩⟩⟩⟩⟩⟩⟩⟩⟩⟩⟩⟩⟩⟩⟩⟩
theorem ct_X4_readAt : Ctr yX4_readAt cX4_readAt 3 (some .int) 4 87 sp_X4_readAt := by
  refine ctr_of (by decide +kernel) ao_X4_readAt rfl ?_
  rintro av M Ret ⟨i, rfl, hp, hR⟩ hok hM
  exact ⟨Nat.le_of_ble_eq_true rfl, fun Z hZ => b_X4_readAt  i (hok _ (List.mem_of_getElem? (i := 1) rfl)) M Ret hp hR hM Z hZ⟩
/-- what a reading leaves -/
def RdP (r : Int × Int × List Int) (M M2 : Mem) : Prop := M2 20 2 = r.1 ∧ M2 20 3 = r.2.1 ∧ M2 20 1 = r.2.2.length ∧ (r.2.2.length : Int) ≤ 960 ∧ (∀ j : Nat, j < r.2.2.length → M2 21 j = r.2.2.getD j 0) ∧ ∀ o, ¬ o = 20 → ¬ o = 21 → M2 o = M o
theorem stp_nil {V : BV} {F : Int → Int} {m i fe : Int} (hk : ¬ (stp V F m i fe).1 = 0) : (stp V F m i fe).2.2.2.2 = [] := by
  revert hk
  unfold stp
  repeat' split
  all_goals (intro h; first | rfl | exact absurd rfl h)
def sp_X4_readBack : SP := fun av M Ret => ∃ n : Int, av = [mr 20, mi n] ∧ (vOk (bX M 1) ∧ 0 ≤ n ∧ n ≤ 240) ∧ (∀ M2 : Mem, (RdP (rd (bX M 1) (sgn n (M 19)) n 0 (-1)) M M2) → Ret none M2)
theorem k_X4_readBack {code : List Sem} {Z : KZ} {Ret : KR} {ls : List (Option MV)} {M : Mem} {r : List MV} (hZ : Sim code Z Ret) (ip np : Nat) {n : Int} (hc : code[ip]? = some (I_callV 4 1 sp_X4_readBack)) (hn : ip + 1 = np) (h3 : catS r ≤ 8)  (hp : vOk (bX M 1) ∧ 0 ≤ n ∧ n ≤ 240) (kz : ∀ M2 : Mem, (RdP (rd (bX M 1) (sgn n (M 19)) n 0 (-1)) M M2) → Z np ls r M2) : Z ip ls (mi n :: mr 20 :: r) M := w_callV1 hZ ip np hc hn rfl rfl h3 ⟨_, rfl, hp, fun M2 h => kz M2 h⟩
def cd_X4_readBack : List Sem := [I_aload 0, I_iload 1, I_aload 0, I_get 4 5, I_alen, I_min, I_puti 4 6, I_aload 0, I_const (0), I_puti 4 1, I_aload 0, I_const (0), I_puti 4 2, I_aload 0, I_const (-1), I_puti 4 3, I_aload 0, I_const (-1), I_puti 4 7, I_const (0), I_istore 2, I_const (0), I_istore 3, I_iload 3, I_aload 0, I_get 4 6, I_cge 39, I_aload 0, I_get 4 2, I_ifne 39, I_iload 3, I_iload 2, I_cne 37, I_aload 0, I_iload 3, I_callV 4 1 sp_X4_readAt, I_istore 2, I_iinc 3 (1), I_goto 23, I_vret]
def pc_X4_readBack : List Nat := [0, 1, 2, 3, 6, 7, 10, 13, 14, 15, 18, 19, 20, 23, 24, 25, 28, 29, 30, 33, 34, 35, 36, 37, 38, 39, 42, 45, 46, 49, 52, 53, 54, 57, 58, 59, 62, 63, 66, 69]
set_option maxRecDepth 100000 in
set_option maxHeartbeats 4000000 in
theorem b_X4_readBack (n : Int) (i_n : InR n) (M : Mem) (Ret : KR) (hp : vOk (bX M 1) ∧ 0 ≤ n ∧ n ≤ 240) (hR : ∀ M2 : Mem, (RdP (rd (bX M 1) (sgn n (M 19)) n 0 (-1)) M M2) → Ret none M2) (hM : MOk M) (Z : KZ) (hZ : Sim cd_X4_readBack Z Ret) : Z 0 [some (mr 20), some (mi n), none, none] [] M := by
  obtain ⟨hv, n0, n1⟩ := hp
  generalize hV : bX M 1 = V at *
  generalize hF : sgn n (M 19) = F at *
  have hFm : ∀ j, n ≤ j → F j = -1 := fun j h => by rw [← hF]; exact sgn_hi h
  have done : ∀ (x j : Int) (N : Mem), InR j → N 20 6 = n → ¬ N 20 2 = 0 → RdP (rd V F n 0 (-1)) M N → Z 23 [some (mr 20), some (mi n), some (mi x), some (mi j)] [] N := by
    intro x j N ij e6 hk h
    refine w_iload hZ 23 24 rfl rfl rfl ?_
    refine w_aload hZ 24 25 rfl rfl rfl ?_
    refine w_getiv hZ 25 26 rfl rfl rfl rfl rfl (v := n) e6 ?_
    refine w_cge hZ 26 27 rfl rfl (fun c26 => ?_) (fun c26 => ?_)
    · refine w_vret hZ 39 rfl ?_
      exact hR _ h
    · refine w_aload hZ 27 28 rfl rfl rfl ?_
      refine w_geti hZ 28 29 rfl rfl rfl rfl rfl ?_
      refine w_ifne hZ 29 30 rfl rfl (fun c29 => ?_) (fun c29 => absurd c29 (fun q => hk q))
      refine w_vret hZ 39 rfl ?_
      exact hR _ h
  have loop : ∀ (d : Nat) (i j fe : Int) (D : List Int) (N M0 : Mem), M0 20 1 = 0 → M0 20 6 = n → M0 19 = M 19 → (∀ o, ¬ o = 20 → ¬ o = 21 → M0 o = M o) → d = (n - j).toNat → 0 ≤ j → j ≤ i → i ≤ n → -1 ≤ fe → fe ≤ n → RS D 0 (-1) fe M0 N → (D.length : Int) ≤ 4 * i → rd V F n 0 (-1) = ((rd V F n i fe).1, (rd V F n i fe).2.1, D ++ (rd V F n i fe).2.2) → Z 23 [some (mr 20), some (mi n), some (mi i), some (mi j)] [] N := by
    intro d
    induction d using Nat.strongRecOn with
    | ind d ih =>
      intro i j fe D N M0 m1 m6 m19 mo hd j0 ji i1 fe0 fe1 hN hl hc
      have ho : ∀ o, ¬ o = 20 → ¬ o = 21 → N o = M o := fun o a b => (hN.2.2.2.2.2.2.2 o a b).trans (mo o a b)
      have hbN : bX N 1 = V := by rw [← hV]; exact bX_same 1 (fun q a b => ho q (by omega) (by omega))
      have e6 : N 20 6 = n := hN.2.2.2.2.2.1.trans m6
      have hFN : FX N = F := by rw [← hF]; show sgn (N 20 6) (N 19) = _; rw [e6, ho 19 (by omega) (by omega)]
      have hvN : vOk (bX N 1) := by rw [hbN]; exact hv
      have e2 : N 20 2 = 0 := hN.2.2.2.1
      have e3 : N 20 3 = -1 := hN.2.2.2.2.1
      have e7 : N 20 7 = fe := hN.2.2.2.2.2.2.1
      have e1 : N 20 1 = D.length := by rw [hN.1, m1]; omega
      refine w_iload hZ 23 24 rfl rfl rfl ?_
      refine w_aload hZ 24 25 rfl rfl rfl ?_
      refine w_getiv hZ 25 26 rfl rfl rfl rfl rfl (v := n) e6 ?_
      refine w_cge hZ 26 27 rfl rfl (fun c26 => ?_) (fun c26 => ?_)
      · refine w_vret hZ 39 rfl ?_
        have hi : i = n := by omega
        rw [rd_end (i := i) (by omega), List.append_nil] at hc
        refine hR _ ⟨?_, ?_, ?_, ?_, ?_, ho⟩
        · rw [hc, e2]
        · rw [hc, e3]
        · rw [hc, e1]
        · rw [hc]; show (D.length : Int) ≤ 960; omega
        · rw [hc]; intro q hq
          have := hN.2.2.1 q hq
          rw [m1] at this
          simpa using this
      · refine w_aload hZ 27 28 rfl rfl rfl ?_
        refine w_getiv hZ 28 29 rfl rfl rfl rfl rfl (v := 0) e2 ?_
        refine w_ifne hZ 29 30 rfl rfl (fun c29 => absurd c29 (by omega)) (fun c29 => ?_)
        refine w_iload hZ 30 31 rfl rfl rfl ?_
        refine w_iload hZ 31 32 rfl rfl rfl ?_
        refine w_cne hZ 32 33 rfl rfl (fun c32 => ?_) (fun c32 => ?_)
        · refine w_in4_3 hZ 37 38 rfl rfl rfl (by unfold InR; omega) ?_
          refine w_goto hZ 38 23 rfl ?_
          exact ih (n - (j + 1)).toNat (by omega) i (j + 1) fe D N M0 m1 m6 m19 mo rfl (by omega) (by omega) i1 fe0 fe1 hN hl hc
        · refine w_aload hZ 33 34 rfl rfl rfl ?_
          refine w_iload hZ 34 35 rfl rfl rfl ?_
          refine k_X4_readAt hZ 35 36 rfl rfl (Nat.le_of_ble_eq_true rfl) ⟨⟨hvN, by omega, by omega, by omega⟩, e2, e3, by omega, by omega, by omega, by omega, by omega⟩ (fun M35 p35 => ?_)
          rw [hbN, hFN, e6, e7] at p35 ⊢
          have hji : j = i := by omega
          subst hji
          refine w_st4_2 hZ 36 37 rfl rfl rfl ?_
          refine w_in4_3 hZ 37 38 rfl rfl rfl (by unfold InR; omega) ?_
          refine w_goto hZ 38 23 rfl ?_
          have hz := hN.trans p35 (by omega)
          by_cases hk : (stp V F n j fe).1 = 0
          · have hs := stp_next hFm (by omega : j < n) hk
            have hf := stp_fe (V := V) (F := F) (m := n) (i := j) (fe := fe) (by omega) fe0 fe1 j0
            rw [hk, hs.2.2.2] at hz
            refine ih (n - (j + 1)).toNat (by omega) _ (j + 1) (stp V F n j fe).2.2.2.1 (D ++ (stp V F n j fe).2.2.2.2) M35 M0 m1 m6 m19 mo rfl (by omega) (by omega) (by omega) (by omega) (by omega) hz (by rw [List.length_append]; omega) ?_
            rw [hc, rd_step hFm (by omega) hk, List.append_assoc]
          · rw [rd_fault (by omega) hk, List.append_nil] at hc
            have hnil : (stp V F n j fe).2.2.2.2 = [] := stp_nil hk
            rw [hnil, List.append_nil] at hz
            refine done _ _ M35 (by unfold InR; omega) (hz.2.2.2.2.2.1.trans m6) (by rw [hz.2.2.2.1]; exact hk) ?_
            rw [hc]
            refine ⟨hz.2.2.2.1, hz.2.2.2.2.1, ?_, ?_, ?_, fun o a b => (hz.2.2.2.2.2.2.2 o a b).trans (mo o a b)⟩
            · rw [hz.1, m1]; show (0 : Int) + D.length = D.length; omega
            · show (D.length : Int) ≤ 960; omega
            · intro q hq
              have := hz.2.2.1 q hq
              rw [m1] at this
              simpa using this
  refine w_aload hZ 0 1 rfl rfl rfl ?_
  refine w_iload hZ 1 2 rfl rfl rfl ?_
  refine w_aload hZ 2 3 rfl rfl rfl ?_
  refine w_getr hZ 3 4 rfl rfl rfl rfl rfl ?_
  refine w_alen hZ 4 5 rfl rfl rfl (by decide) ?_
  refine w_min hZ 5 6 rfl rfl (Nat.le_of_ble_eq_true rfl) ?_
  refine w_puti hZ 6 7 rfl rfl rfl rfl rfl ?_
  refine w_aload hZ 7 8 rfl rfl rfl ?_
  refine w_const hZ 8 9 rfl rfl  ?_
  refine w_puti hZ 9 10 rfl rfl rfl rfl rfl ?_
  refine w_aload hZ 10 11 rfl rfl rfl ?_
  refine w_const hZ 11 12 rfl rfl  ?_
  refine w_puti hZ 12 13 rfl rfl rfl rfl rfl ?_
  refine w_aload hZ 13 14 rfl rfl rfl ?_
  refine w_const hZ 14 15 rfl rfl  ?_
  refine w_puti hZ 15 16 rfl rfl rfl rfl rfl ?_
  refine w_aload hZ 16 17 rfl rfl rfl ?_
  refine w_const hZ 17 18 rfl rfl  ?_
  refine w_puti hZ 18 19 rfl rfl rfl rfl rfl ?_
  refine w_const hZ 19 20 rfl rfl  ?_
  refine w_st4_2 hZ 20 21 rfl rfl rfl ?_
  refine w_const hZ 21 22 rfl rfl  ?_
  refine w_st4_3 hZ 22 23 rfl rfl rfl ?_
  refine loop _ 0 0 (-1) [] _ _ ?_ ?_ ?_ ?_ rfl (Int.le_refl _) (Int.le_refl _) n0 (Int.le_refl _) (by omega) ⟨?_, fun _ _ => rfl, fun j h => by simp at h, ?_, ?_, rfl, ?_, fun _ _ _ => rfl⟩ (by simp) (by simp)
  all_goals first
    | (simp [mup_at]; done)
    | (simp [mup_at]; omega)
    | (funext j; simp [mup_at]; done)
    | (intro o a b; funext j; simp [mup_at, a])
set_option maxRecDepth 100000 in
set_option maxHeartbeats 4000000 in
theorem ao_X4_readBack : AllOk yX4_readBack.cls cX4_readBack 4 5 109 none none pc_X4_readBack 0 cd_X4_readBack := ⟨s_aload_n (k := 0) (by decide +kernel) rfl rfl, ⟨s_iload_n (k := 1) (by decide +kernel) rfl rfl, ⟨s_aload_n (k := 0) (by decide +kernel) rfl rfl, ⟨s_get (C := RX4) (T := TX4) (N := 8) rfl inT4 (by decide) tw_1_167 (by decide +kernel) rfl, ⟨s_alen (by decide +kernel) rfl, ⟨s_min tw_3_53 tw_2_29 tw_1_10 tw_2_30 (by decide) (by decide) (by decide +kernel) rfl, ⟨s_puti (C := RX4) (T := TX4) (N := 8) (tyf := tyX4) rfl inT4 tyX4_ok nmX4 (by decide) rfl rfl tw_1_168 (by decide +kernel) rfl, ⟨s_aload_n (k := 0) (by decide +kernel) rfl rfl, ⟨s_iconst (by decide +kernel) rfl ⟨by decide, by decide⟩, ⟨s_puti (C := RX4) (T := TX4) (N := 8) (tyf := tyX4) rfl inT4 tyX4_ok nmX4 (by decide) rfl rfl tw_1_160 (by decide +kernel) rfl, ⟨s_aload_n (k := 0) (by decide +kernel) rfl rfl, ⟨s_iconst (by decide +kernel) rfl ⟨by decide, by decide⟩, ⟨s_puti (C := RX4) (T := TX4) (N := 8) (tyf := tyX4) rfl inT4 tyX4_ok nmX4 (by decide) rfl rfl tw_1_162 (by decide +kernel) rfl, ⟨s_aload_n (k := 0) (by decide +kernel) rfl rfl, ⟨s_iconst (by decide +kernel) rfl ⟨by decide, by decide⟩, ⟨s_puti (C := RX4) (T := TX4) (N := 8) (tyf := tyX4) rfl inT4 tyX4_ok nmX4 (by decide) rfl rfl tw_1_164 (by decide +kernel) rfl, ⟨s_aload_n (k := 0) (by decide +kernel) rfl rfl, ⟨s_iconst (by decide +kernel) rfl ⟨by decide, by decide⟩, ⟨s_puti (C := RX4) (T := TX4) (N := 8) (tyf := tyX4) rfl inT4 tyX4_ok nmX4 (by decide) rfl rfl tw_1_169 (by decide +kernel) rfl, ⟨s_iconst (by decide +kernel) rfl ⟨by decide, by decide⟩, ⟨s_istore_n (k := 2) (by decide +kernel) rfl rfl, ⟨s_iconst (by decide +kernel) rfl ⟨by decide, by decide⟩, ⟨s_istore_n (k := 3) (by decide +kernel) rfl rfl, ⟨s_iload_n (k := 3) (by decide +kernel) rfl rfl, ⟨s_aload_n (k := 0) (by decide +kernel) rfl rfl, ⟨s_get (C := RX4) (T := TX4) (N := 8) rfl inT4 (by decide) tw_1_168 (by decide +kernel) rfl, ⟨s_cge (off := (27)) (by decide +kernel) rfl rfl, ⟨s_aload_n (k := 0) (by decide +kernel) rfl rfl, ⟨s_get (C := RX4) (T := TX4) (N := 8) rfl inT4 (by decide) tw_1_162 (by decide +kernel) rfl, ⟨s_ifne (off := (20)) (by decide +kernel) rfl rfl, ⟨s_iload_n (k := 3) (by decide +kernel) rfl rfl, ⟨s_iload_n (k := 2) (by decide +kernel) rfl rfl, ⟨s_cne (off := (9)) (by decide +kernel) rfl rfl, ⟨s_aload_n (k := 0) (by decide +kernel) rfl rfl, ⟨s_iload_n (k := 3) (by decide +kernel) rfl rfl, ⟨s_callV (C := RX4) (T := TX4) (N := 8) rfl ct_X4_readAt (by decide) (by decide) ⟨rfl, by decide +kernel, by decide +kernel, by decide +kernel⟩ tw_3_54 tw_3_56 ts_2_5 tw_1_6 tw_3_57 (by decide +kernel) rfl, ⟨s_istore_n (k := 2) (by decide +kernel) rfl rfl, ⟨s_iinc (by decide +kernel) rfl, ⟨s_goto (off := (-29)) (by decide +kernel) rfl, ⟨s_vret rfl (by decide +kernel), trivial⟩⟩⟩⟩⟩⟩⟩⟩⟩⟩⟩⟩⟩⟩⟩⟩⟩⟩⟩⟩⟩⟩⟩⟩⟩⟩⟩⟩⟩⟩⟩⟩⟩⟩⟩⟩⟩⟩⟩⟩
theorem ct_X4_readBack : Ctr yX4_readBack cX4_readBack 4 none 5 109 sp_X4_readBack := by
  refine ctr_of (by decide +kernel) ao_X4_readBack rfl ?_
  rintro av M Ret ⟨n, rfl, hp, hR⟩ hok hM
  exact ⟨Nat.le_of_ble_eq_true rfl, fun Z hZ => b_X4_readBack  n (hok _ (List.mem_of_getElem? (i := 1) rfl)) M Ret hp hR hM Z hZ⟩
end
section
/-! THE ABSTRACT STATE: the book, the past (newest first), the images, the felt CELLS -/
abbrev St : Type := BV × List BV × (Int → Option BV) × Int × (Int → Int)
abbrev sB (s : St) : BV := s.1
abbrev sH (s : St) : List BV := s.2.1
abbrev sI (s : St) : Int → Option BV := s.2.2.1
abbrev sC (s : St) : Int := s.2.2.2.1
abbrev sL (s : St) : Int → Int := s.2.2.2.2
def stOk (s : St) : Prop := vOk (sB s) ∧ (sH s).length ≤ 8 ∧ (∀ V ∈ sH s, vOk V) ∧ (∀ j V, sI s j = some V → vOk V) ∧ 0 ≤ sC s ∧ sC s ≤ 240 ∧ (∀ i, i < 0 ∨ sC s ≤ i → sL s i = -1)
/-- the class holds s -/
def XR (s : St) (M : Mem) : Prop := bX M 1 = (sB s) ∧ Hx M ∧ M 6 2 = (sH s).length ∧ (∀ j : Nat, j < (sH s).length → bX M (pb ((M 6 1 + 7 - j) % 8)) = (sH s).getD j (sB s)) ∧ (∀ j : Nat, j < 2 → (M 9 j = 0 ∧ sI s j = none) ∨ (M 9 j = 1 ∧ sI s j = some (bX M (63 + 5 * j)))) ∧ M 0 7 = sC s ∧ sgn (sC s) (M 19) = sL s
/-! what happens to a book -/
def aR (V : BV) (c e k : Int) : BV := (vN V, vS V, vR V + 1, (fun j => if j = (vR V).toNat then c else vC' V j), (fun j => if j = (vR V).toNat then e else vE V j), (fun j => if j = (vR V).toNat then k else vK V j), vW V, vP V)
def aS (V : BV) (g : Int) : BV := (vN V + 1, (fun i => if i = vN V then g else vS V i), vR V, vC' V, vE V, vK V, vW V, vP V)
def shf (f : Nat → Int) (k n : Int) : Nat → Int := cut (n - 1) (fun j => if k ≤ (j : Int) then f (j + 1) else f j)
def dR (V : BV) (k : Int) : BV := (vN V, vS V, vR V - 1, shf (vC' V) k (vR V), shf (vE V) k (vR V), shf (vK V) k (vR V), vW V, vP V)
def sW (V : BV) (w : Int) : BV := (vN V, vS V, vR V, vC' V, vE V, vK V, w, vP V)
def sP (V : BV) (p : Int) : BV := (vN V, vS V, vR V, vC' V, vE V, vK V, vW V, p)
def wp (V : BV) : BV := (0, (fun _ => -1), vR V, vC' V, vE V, vK V, vW V, vP V)
abbrev tkn (V : BV) (c e : Int) : Prop := ¬ fIx (vC' V) c (vR V) = -1 ∨ ¬ fIx (vE V) e (vR V) = -1
theorem fIx_no {f : Nat → Int} {c n : Int} (hn : 0 ≤ n) (h : fIx f c n = -1) (j : Nat) (hj : (j : Int) < n) : ¬ f j = c := by
  rcases fIx_is f c hn with ⟨_, q⟩ | ⟨q, _⟩
  · exact q j (by omega) hj
  · omega
theorem fIx_yes {f : Nat → Int} {c n : Int} (hn : 0 ≤ n) (h : ¬ fIx f c n = -1) : 0 ≤ fIx f c n ∧ fIx f c n < n ∧ f (fIx f c n).toNat = c := by
  rcases fIx_is f c hn with ⟨q, _⟩ | ⟨q, q2, q3, _⟩
  · exact absurd q h
  · exact ⟨q, q2, q3⟩
theorem aR_ok {V : BV} (h : vOk V) {c e k : Int} (hc : vC c) (he : isRC e) (k0 : 0 ≤ k) (k1 : k ≤ 4) (ht : ¬ tkn V c e) (hr : vR V < 12) : vOk (aR V c e k) := by
  obtain ⟨a1, a2, a3, a4, a5, a6, a7, a8, a9, a10⟩ := h
  have t1 : fIx (vC' V) c (vR V) = -1 := Decidable.byContradiction fun q => ht (Or.inl q)
  have t2 : fIx (vE V) e (vR V) = -1 := Decidable.byContradiction fun q => ht (Or.inr q)
  refine ⟨a1, a2, by show 0 ≤ vR V + 1; omega, by show vR V + 1 ≤ 12; omega, a5, a6, ?_, ?_, ?_, a10⟩
  · intro j hj
    replace hj : (j : Int) < vR V + 1 := hj
    show vC (if j = (vR V).toNat then c else vC' V j) ∧ isRC (if j = (vR V).toNat then e else vE V j) ∧ 0 ≤ (if j = (vR V).toNat then k else vK V j) ∧ (if j = (vR V).toNat then k else vK V j) ≤ 4
    by_cases q : j = (vR V).toNat
    · rw [if_pos q, if_pos q, if_pos q]; exact ⟨hc, he, k0, k1⟩
    · rw [if_neg q, if_neg q, if_neg q]; exact a7 j (by omega)
  · intro i j hi hj
    replace hi : (i : Int) < vR V + 1 := hi
    replace hj : (j : Int) < vR V + 1 := hj
    show (if i = (vR V).toNat then c else vC' V i) = (if j = (vR V).toNat then c else vC' V j) → i = j
    by_cases q : i = (vR V).toNat <;> by_cases p : j = (vR V).toNat
    · intro _; rw [q, p]
    · rw [if_pos q, if_neg p]; intro e'; exact absurd e'.symm (fIx_no a3 t1 j (by omega))
    · rw [if_neg q, if_pos p]; intro e'; exact absurd e' (fIx_no a3 t1 i (by omega))
    · rw [if_neg q, if_neg p]; exact a8 i j (by omega) (by omega)
  · intro i j hi hj
    replace hi : (i : Int) < vR V + 1 := hi
    replace hj : (j : Int) < vR V + 1 := hj
    show (if i = (vR V).toNat then e else vE V i) = (if j = (vR V).toNat then e else vE V j) → i = j
    by_cases q : i = (vR V).toNat <;> by_cases p : j = (vR V).toNat
    · intro _; rw [q, p]
    · rw [if_pos q, if_neg p]; intro e'; exact absurd e'.symm (fIx_no a3 t2 j (by omega))
    · rw [if_neg q, if_pos p]; intro e'; exact absurd e' (fIx_no a3 t2 i (by omega))
    · rw [if_neg q, if_neg p]; exact a9 i j (by omega) (by omega)
theorem aS_ok {V : BV} (h : vOk V) {g : Int} (hg : isSg g) (hn : vN V < 120) : vOk (aS V g) := by
  obtain ⟨a1, a2, a3, a4, a5, a6, a7⟩ := h
  refine ⟨by show 0 ≤ vN V + 1; omega, by show vN V + 1 ≤ 120; omega, a3, a4, ?_, ?_, a7⟩
  · intro i i0 i1
    replace i1 : i < vN V + 1 := i1
    show isSg (if i = vN V then g else vS V i)
    by_cases q : i = vN V
    · rw [if_pos q]; exact hg
    · rw [if_neg q]; exact a5 i i0 (by omega)
  · intro i hi
    replace hi : i < 0 ∨ vN V + 1 ≤ i := hi
    show (if i = vN V then g else vS V i) = -1
    rw [if_neg (by omega)]; exact a6 i (by omega)
theorem shf_in {f : Nat → Int} {k n : Int} {j : Nat} (h : (j : Int) < n - 1) : shf f k n j = if k ≤ (j : Int) then f (j + 1) else f j := cut_in h
theorem shf_inj {f : Nat → Int} {k n : Int} (hi : ∀ i j : Nat, (i : Int) < n → (j : Int) < n → f i = f j → i = j) (i j : Nat) (h1 : (i : Int) < n - 1) (h2 : (j : Int) < n - 1) (e : shf f k n i = shf f k n j) : i = j := by
  rw [shf_in h1, shf_in h2] at e
  by_cases q : k ≤ (i : Int) <;> by_cases p : k ≤ (j : Int)
  · rw [if_pos q, if_pos p] at e; have := hi _ _ (by omega) (by omega) e; omega
  · rw [if_pos q, if_neg p] at e; have := hi _ _ (by omega) (by omega) e; omega
  · rw [if_neg q, if_pos p] at e; have := hi _ _ (by omega) (by omega) e; omega
  · rw [if_neg q, if_neg p] at e; exact hi _ _ (by omega) (by omega) e
theorem dR_ok {V : BV} (h : vOk V) {k : Int} (k0 : 0 ≤ k) (k1 : k < vR V) : vOk (dR V k) := by
  obtain ⟨a1, a2, a3, a4, a5, a6, a7, a8, a9, a10⟩ := h
  refine ⟨a1, a2, by show 0 ≤ vR V - 1; omega, by show vR V - 1 ≤ 12; omega, a5, a6, ?_, fun i j hi hj e => shf_inj a8 i j hi hj e, fun i j hi hj e => shf_inj a9 i j hi hj e, a10⟩
  intro j hj
  replace hj : (j : Int) < vR V - 1 := hj
  show vC (shf (vC' V) k (vR V) j) ∧ isRC (shf (vE V) k (vR V) j) ∧ 0 ≤ shf (vK V) k (vR V) j ∧ shf (vK V) k (vR V) j ≤ 4
  rw [shf_in hj, shf_in hj, shf_in hj]
  by_cases q : k ≤ (j : Int)
  · rw [if_pos q, if_pos q, if_pos q]; exact a7 (j + 1) (by omega)
  · rw [if_neg q, if_neg q, if_neg q]; exact a7 j (by omega)
theorem sW_ok {V : BV} (h : vOk V) {w : Int} (h0 : 4 ≤ w) (h1 : w ≤ 40) : vOk (sW V w) := by
  obtain ⟨a1, a2, a3, a4, a5, a6, a7, a8, a9, a10, a11, a12⟩ := h
  exact ⟨a1, a2, a3, a4, a5, a6, a7, a8, a9, h0, h1, a12⟩
theorem sP_ok {V : BV} (h : vOk V) {p : Int} (h0 : 1 ≤ p) (h1 : p ≤ 20) : vOk (sP V p) := by
  obtain ⟨a1, a2, a3, a4, a5, a6, a7, a8, a9, a10, a11, a12⟩ := h
  exact ⟨a1, a2, a3, a4, a5, a6, a7, a8, a9, a10, a11, h0, h1⟩
theorem wp_ok {V : BV} (h : vOk V) : vOk (wp V) := by
  obtain ⟨a1, a2, a3, a4, a5, a6, a7⟩ := h
  exact ⟨Int.le_refl _, show (0 : Int) ≤ 120 by omega, a3, a4, fun i i0 i1 => absurd i1 (by show ¬ i < 0; omega), fun i _ => rfl, a7⟩
/-! the LOTS -/
def lt1 (x : Int) : Int := x * 16807 % 2147483647
def lotC : Nat → Int → Int → Int × Int
  | 0, c, x => (c, x)
  | k + 1, c, x => lotC k (c * 27 + 1 + lt1 x % 5) (lt1 x)
/-- one RULE by LOTS: the book, the next lot -/
def lotR (V : BV) (x : Int) : BV × Int :=
  let p := lotC (2 + lt1 x % 3).toNat 0 (lt1 x)
  (if tkn V p.1 (30 + lt1 p.2 % 30) ∨ 12 ≤ vR V then V else aR V p.1 (30 + lt1 p.2 % 30) (lt1 (lt1 p.2) % 5), lt1 (lt1 p.2))
def dft : Nat → BV → Int → BV
  | 0, V, _ => V
  | k + 1, V, x => dft k (lotR V x).1 (lotR V x).2
theorem lt1_ok {x : Int} (h0 : 0 < x) (h1 : x < 2147483647) : 0 < lt1 x ∧ lt1 x < 2147483647 := by
  unfold lt1
  have hp : ¬ x * 16807 % 2147483647 = 0 := by
    intro h
    have : (2147483647 : Int) ∣ x * 16807 := Int.dvd_of_emod_eq_zero h
    obtain ⟨q, hq⟩ := this
    have hc : (2147483647 : Int) ∣ x := ⟨q * 1407677000 - x * 11017, by omega⟩
    have := Int.le_of_dvd h0 hc
    omega
  omega
theorem lotC_ok : ∀ (k : Nat) (c x : Int), 0 < x → x < 2147483647 → 0 < (lotC k c x).2 ∧ (lotC k c x).2 < 2147483647
  | 0, c, x, h0, h1 => ⟨h0, h1⟩
  | k + 1, c, x, h0, h1 => by
    unfold lotC
    exact lotC_ok k _ _ (lt1_ok h0 h1).1 (lt1_ok h0 h1).2
theorem lotC_vC (n x : Int) (h0 : 0 ≤ n) (h1 : n ≤ 2) : vC (lotC (2 + n).toNat 0 x).1 := by
  have d : ∀ y : Int, 0 ≤ lt1 y % 5 ∧ lt1 y % 5 ≤ 4 := fun y => by omega
  have hn : n = 0 ∨ n = 1 ∨ n = 2 := by omega
  rcases hn with rfl | rfl | rfl
  · show vC ((0 * 27 + 1 + lt1 x % 5) * 27 + 1 + lt1 (lt1 x) % 5)
    have := d x; have := d (lt1 x)
    generalize lt1 x % 5 = a at *; generalize lt1 (lt1 x) % 5 = b at *
    unfold vC; omega
  · show vC (((0 * 27 + 1 + lt1 x % 5) * 27 + 1 + lt1 (lt1 x) % 5) * 27 + 1 + lt1 (lt1 (lt1 x)) % 5)
    have := d x; have := d (lt1 x); have := d (lt1 (lt1 x))
    generalize lt1 x % 5 = a at *; generalize lt1 (lt1 x) % 5 = b at *; generalize lt1 (lt1 (lt1 x)) % 5 = c at *
    unfold vC; omega
  · show vC ((((0 * 27 + 1 + lt1 x % 5) * 27 + 1 + lt1 (lt1 x) % 5) * 27 + 1 + lt1 (lt1 (lt1 x)) % 5) * 27 + 1 + lt1 (lt1 (lt1 (lt1 x))) % 5)
    have := d x; have := d (lt1 x); have := d (lt1 (lt1 x)); have := d (lt1 (lt1 (lt1 x)))
    generalize lt1 x % 5 = a at *; generalize lt1 (lt1 x) % 5 = b at *; generalize lt1 (lt1 (lt1 x)) % 5 = c at *; generalize lt1 (lt1 (lt1 (lt1 x))) % 5 = e at *
    unfold vC; omega
theorem lotR_ok {V : BV} (h : vOk V) {x : Int} (h0 : 0 < x) (h1 : x < 2147483647) : vOk (lotR V x).1 ∧ 0 < (lotR V x).2 ∧ (lotR V x).2 < 2147483647 := by
  have a := lt1_ok h0 h1
  have b := lotC_ok (2 + lt1 x % 3).toNat 0 (lt1 x) a.1 a.2
  have c := lt1_ok b.1 b.2
  have d := lt1_ok c.1 c.2
  have hv := lotC_vC (lt1 x % 3) (lt1 x) (by omega) (by omega)
  unfold lotR
  refine ⟨?_, d⟩
  show vOk (if _ then _ else _)
  split
  · exact h
  · rename_i q
    have q2 := fun z => q (Or.inl z)
    exact aR_ok h hv (by constructor <;> omega) (by omega) (by omega) q2 (Decidable.byContradiction fun z => q (Or.inr (by omega)))
theorem dft_ok : ∀ (k : Nat) {V : BV} {x : Int}, vOk V → 0 < x → x < 2147483647 → vOk (dft k V x)
  | 0, _, _, h, _, _ => h
  | k + 1, V, x, h, h0, h1 => by
    have := lotR_ok h h0 h1
    exact dft_ok k this.1 this.2.1 this.2.2
/-! the class holds s: what keeps it -/
theorem gD_in {α : Type} (l : List α) (d : α) {j : Nat} (h : j < l.length) : l.getD j d = l[j] := by
  rw [List.getD_eq_getElem?_getD, List.getElem?_eq_getElem h]; rfl
theorem cpB_bX {t o : Nat} {M N : Mem} (h : cpB t o M N) (h4 : M o 4 ≤ 12) (h5 : M o 5 ≤ 120) : bX N t = bX M o := by
  obtain ⟨a1, a2, a3, a4, a5, a6, a7, a8, _⟩ := h
  unfold bX
  rw [a1, a2, a3, a4, sgn_congr (f := N (t + 4)) (h := M (o + 4)) (fun i hi => a8 i (by omega)), cut_congr (f := N (t + 1)) (h := M (o + 1)) (fun i hi => a5 i (by omega)), cut_congr (f := N (t + 2)) (h := M (o + 2)) (fun i hi => a6 i (by omega)), cut_congr (f := N (t + 3)) (h := M (o + 3)) (fun i hi => a7 i (by omega))]
theorem vOk.lim {M : Mem} {k : Nat} (h : vOk (bX M k)) : M k 4 ≤ 12 ∧ M k 5 ≤ 120 := ⟨h.2.2.2.1, h.2.1⟩
theorem XR.same {s : St} {M M2 : Mem} (h : XR s M) (e : ∀ k, k < 10 ∨ k = 19 ∨ (23 ≤ k ∧ k < 73) → M2 k = M k) : XR s M2 := by
  obtain ⟨a1, a2, a3, a4, a5, a6, a7⟩ := h
  have e6 := e 6 (by omega)
  refine ⟨(bX_same 1 (fun j p q => e j (by omega))).trans a1, by unfold Hx; rw [e6]; exact a2, by rw [e6]; exact a3, fun j hj => ?_, fun j hj => ?_, by rw [e 0 (by omega)]; exact a6, by rw [e 19 (by omega)]; exact a7⟩
  · rw [e6, bX_same (M := M) _ (fun q p1 p2 => e q (by unfold pb at p1 p2; omega))]; exact a4 j hj
  · rw [e 9 (by omega), bX_same (M := M) (63 + 5 * j) (fun q p1 p2 => e q (by omega))]; exact a5 j hj
/-- only the book changed -/
theorem XR.book {s : St} {M M2 : Mem} (h : XR s M) (e : ∀ k, k = 0 ∨ 6 ≤ k → M2 k = M k) {V : BV} (hV : bX M2 1 = V) : XR (V, sH s, sI s, sC s, sL s) M2 := by
  obtain ⟨a1, a2, a3, a4, a5, a6, a7⟩ := h
  have e6 := e 6 (by omega)
  refine ⟨hV, by unfold Hx; rw [e6]; exact a2, by rw [e6]; exact a3, fun j hj => ?_, fun j hj => ?_, by rw [e 0 (by omega)]; exact a6, by rw [e 19 (by omega)]; exact a7⟩
  · rw [e6, bX_same (M := M) _ (fun q p1 p2 => e q (by unfold pb at p1 p2; omega)), a4 j hj]
    rw [gD_in _ _ hj, gD_in _ _ hj]
  · rw [e 9 (by omega), bX_same (M := M) (63 + 5 * j) (fun q p1 p2 => e q (by omega))]; exact a5 j hj
theorem XR.rem {s : St} {M M2 : Mem} (h : XR s M) (hv : stOk s) (hr : remB M M2) : XR (sB s, (sB s :: sH s).take 8, sI s, sC s, sL s) M2 := by
  obtain ⟨a1, a2, a3, a4, a5, a6, a7⟩ := h
  obtain ⟨N, hc, rfl⟩ := hr
  have hl : vOk (bX M 1) := by rw [a1]; exact hv.1
  have h8 := hv.2.1
  have hb := cpB_bX hc hl.lim.1 hl.lim.2
  have hx0 := a2.1
  have hx1 := a2.2.1
  have e := hc.2.2.2.2.2.2.2.2
  have p0 : pb (M 6 1) = 23 + 5 * (M 6 1).toNat := rfl
  have eN : ∀ k, ¬ k = 6 → mup (mup N 6 1 ((M 6 1 + 1) % 8)) 6 2 (if 8 < M 6 2 + 1 then 8 else M 6 2 + 1) k = N k := fun k hk => by funext j; simp [mup_at, hk]
  generalize hM2 : mup (mup N 6 1 ((M 6 1 + 1) % 8)) 6 2 (if 8 < M 6 2 + 1 then 8 else M 6 2 + 1) = M2 at *
  have m1 : M2 6 1 = (M 6 1 + 1) % 8 := by rw [← hM2]; simp [mup_at]
  have m2 : M2 6 2 = if 8 < M 6 2 + 1 then 8 else M 6 2 + 1 := by rw [← hM2]; simp [mup_at]
  have hlen : (((sB s :: sH s).take 8).length : Int) = if 8 < M 6 2 + 1 then 8 else M 6 2 + 1 := by
    rw [List.length_take, List.length_cons, a3]; split <;> omega
  refine ⟨?_, ⟨by omega, by omega, by omega, by rw [m2]; split <;> omega⟩, by rw [m2]; exact hlen.symm, fun j hj => ?_, fun j hj => ?_, ?_, ?_⟩
  · rw [bX_same (M := M) 1 (fun q p1 p2 => by rw [eN q (by omega), e q (by omega)])]; exact a1
  · have hj8 : j < 8 ∧ j < (sH s).length + 1 := by
      rw [List.length_take, List.length_cons] at hj; omega
    show bX M2 (pb ((M2 6 1 + 7 - j) % 8)) = ((sB s :: sH s).take 8).getD j (sB s)
    rw [gD_in _ _ hj, List.getElem_take, m1]
    cases j with
    | zero =>
      rw [show ((M 6 1 + 1) % 8 + 7 - ((0 : Nat) : Int)) % 8 = M 6 1 by omega, bX_same (M := N) _ (fun q p1 p2 => eN q (by unfold pb at p1 p2; omega)), hb]
      exact a1
    | succ i =>
      have hi : i < (sH s).length := by omega
      rw [show ((M 6 1 + 1) % 8 + 7 - ((i + 1 : Nat) : Int)) % 8 = (M 6 1 + 7 - i) % 8 by omega]
      have ne : ¬ (M 6 1 + 7 - i) % 8 = M 6 1 := by omega
      rw [bX_same (M := M) _ (fun q p1 p2 => by rw [eN q (by unfold pb at p1 p2; omega), e q (by rw [p0]; unfold pb at p1 p2; omega)]), a4 i hi, gD_in _ _ hi]
      rfl
  · rw [eN 9 (by omega), e 9 (by omega), bX_same (M := M) (63 + 5 * j) (fun q p1 p2 => by rw [eN q (by omega), e q (by omega)])]; exact a5 j hj
  · rw [eN 0 (by omega), e 0 (by omega)]; exact a6
  · rw [eN 19 (by omega), e 19 (by omega)]; exact a7
theorem XR.undo {s : St} {M M2 : Mem} (h : XR s M) (hv : stOk s) {V : BV} {t : List BV} (hh : sH s = V :: t) (ht : tkB M M2) : XR (V, t, sI s, sC s, sL s) M2 := by
  obtain ⟨a1, a2, a3, a4, a5, a6, a7⟩ := h
  have hx0 := a2.1
  have hx1 := a2.2.1
  have hlen : (sH s).length = t.length + 1 := by rw [hh]; rfl
  have h8 := hv.2.1
  unfold tkB at ht
  rw [if_neg (by omega)] at ht
  generalize hx : (M 6 1 + 8 - 1) % 8 = x at *
  have eN : ∀ k, ¬ k = 6 → mup (mup M 6 1 x) 6 2 (M 6 2 - 1) k = M k := fun k hk => by funext j; simp [mup_at, hk]
  have n1 : mup (mup M 6 1 x) 6 2 (M 6 2 - 1) 6 1 = x := by simp [mup_at]
  have n2 : mup (mup M 6 1 x) 6 2 (M 6 2 - 1) 6 2 = M 6 2 - 1 := by simp [mup_at]
  generalize mup (mup M 6 1 x) 6 2 (M 6 2 - 1) = N at *
  have hp : pb x = 23 + 5 * x.toNat := rfl
  have hV : bX N (pb x) = V := by
    rw [bX_same (M := M) _ (fun q p1 p2 => eN q (by omega))]
    have := a4 0 (by omega)
    rw [show (M 6 1 + 7 - ((0 : Nat) : Int)) % 8 = x by omega, hh] at this
    exact this
  have hl : vOk (bX N (pb x)) := by rw [hV]; exact hv.2.2.1 V (by rw [hh]; exact List.mem_cons_self)
  have hb := (cpB_bX ht hl.lim.1 hl.lim.2).trans hV
  have e := ht.2.2.2.2.2.2.2.2
  have e6 := e 6 (by omega)
  refine ⟨hb, ⟨by rw [e6, n1]; omega, by rw [e6, n1]; omega, by rw [e6, n2]; omega, by rw [e6, n2]; omega⟩, by rw [e6, n2]; show M 6 2 - 1 = (t.length : Int); omega, fun j hj => ?_, fun j hj => ?_, ?_, ?_⟩
  · replace hj : j < t.length := hj
    show bX M2 (pb ((M2 6 1 + 7 - j) % 8)) = t.getD j V
    rw [e6, n1, show (x + 7 - (j : Int)) % 8 = (M 6 1 + 7 - ((j + 1 : Nat) : Int)) % 8 by omega, bX_same (M := M) _ (fun q p1 p2 => by rw [e q (by unfold pb at p1 p2; omega), eN q (by unfold pb at p1 p2; omega)]), a4 (j + 1) (by omega), hh]
    rw [List.getD_cons_succ, gD_in _ _ hj, gD_in _ _ hj]
  · rw [e 9 (by omega), eN 9 (by omega), bX_same (M := M) (63 + 5 * j) (fun q p1 p2 => by rw [e q (by omega), eN q (by omega)])]; exact a5 j hj
  · rw [e 0 (by omega), eN 0 (by omega)]; exact a6
  · rw [e 19 (by omega), eN 19 (by omega)]; exact a7
theorem XR.forget {s : St} {M : Mem} (h : XR s M) : XR (sB s, [], sI s, sC s, sL s) (mup M 6 2 0) := by
  obtain ⟨a1, a2, a3, a4, a5, a6, a7⟩ := h
  have eN : ∀ k, ¬ k = 6 → mup M 6 2 0 k = M k := fun k hk => by funext j; simp [mup_at, hk]
  have n1 : mup M 6 2 0 6 1 = M 6 1 := by simp [mup_at]
  have n2 : mup M 6 2 0 6 2 = 0 := by simp [mup_at]
  generalize mup M 6 2 0 = N at *
  refine ⟨(bX_same 1 (fun j p q => eN j (by omega))).trans a1, ⟨by rw [n1]; exact a2.1, by rw [n1]; exact a2.2.1, by rw [n2]; omega, by rw [n2]; omega⟩, by rw [n2]; rfl, fun j hj => absurd hj (Nat.not_lt_zero j), fun j hj => ?_, ?_, ?_⟩
  · rw [eN 9 (by omega), bX_same (M := M) (63 + 5 * j) (fun q p1 p2 => eN q (by omega))]; exact a5 j hj
  · rw [eN 0 (by omega)]; exact a6
  · rw [eN 19 (by omega)]; exact a7
def upI (f : Int → Option BV) (k : Int) (V : BV) : Int → Option BV := fun j => if j = k then some V else f j
theorem XR.keep {s : St} {M N : Mem} (h : XR s M) (hv : stOk s) {k : Nat} (hk : k < 2) (hc : cpB (63 + 5 * k) 1 M N) : XR (sB s, sH s, upI (sI s) k (sB s), sC s, sL s) (mup N 9 k 1) := by
  obtain ⟨a1, a2, a3, a4, a5, a6, a7⟩ := h
  have hl : vOk (bX M 1) := by rw [a1]; exact hv.1
  have hb := (cpB_bX hc hl.lim.1 hl.lim.2).trans a1
  have e := hc.2.2.2.2.2.2.2.2
  have eN : ∀ q, ¬ q = 9 → mup N 9 k 1 q = N q := fun q hq => by funext j; simp [mup_at, hq]
  have n1 : mup N 9 k 1 9 k = 1 := by simp [mup_at]
  have n2 : ∀ j, ¬ j = k → mup N 9 k 1 9 j = M 9 j := fun j hj => by rw [← e 9 (by omega)]; simp [mup_at, hj]
  generalize mup N 9 k 1 = M2 at *
  have e2 : ∀ q, ¬ q = 9 → (q < 63 + 5 * k ∨ 63 + 5 * k + 5 ≤ q) → M2 q = M q := fun q h1 h2 => by rw [eN q h1, e q h2]
  have e6 := e2 6 (by omega) (by omega)
  refine ⟨(bX_same 1 (fun j p q => e2 j (by omega) (by omega))).trans a1, by unfold Hx; rw [e6]; exact a2, by rw [e6]; exact a3, fun j hj => ?_, fun j hj => ?_, by rw [e2 0 (by omega) (by omega)]; exact a6, by rw [e2 19 (by omega) (by omega)]; exact a7⟩
  · have hx0 := a2.1
    rw [e6, bX_same (M := M) _ (fun q p1 p2 => e2 q (by unfold pb at p1 p2; omega) (by unfold pb at p1 p2; omega))]; exact a4 j hj
  · by_cases q : j = k
    · subst q
      refine Or.inr ⟨n1, ?_⟩
      show upI (sI s) j (sB s) j = _
      unfold upI
      rw [if_pos rfl, bX_same (M := N) (63 + 5 * j) (fun q p1 p2 => eN q (by omega)), hb]
    · rw [n2 j q, bX_same (M := M) (63 + 5 * j) (fun q p1 p2 => e2 q (by omega) (by omega))]
      show (M 9 j = 0 ∧ upI (sI s) k (sB s) j = none) ∨ (M 9 j = 1 ∧ upI (sI s) k (sB s) j = _)
      unfold upI
      rw [if_neg (by omega)]
      exact a5 j hj
end
section
/-! WHAT EACH ACT GIVES AND LEAVES -/
def nx (s : St) (V : BV) : St := (V, (sB s :: sH s).take 8, sI s, sC s, sL s)
theorem nx_ok {s : St} (h : stOk s) {V : BV} (hV : vOk V) : stOk (nx s V) := by
  obtain ⟨a1, a2, a3, a4⟩ := h
  refine ⟨hV, ?_, ?_, a4⟩
  · show ((sB s :: sH s).take 8).length ≤ 8
    rw [List.length_take]; omega
  · intro U hU
    have := List.mem_of_mem_take hU
    rcases List.mem_cons.mp this with q | q
    · rw [q]; exact a1
    · exact a3 U q
def evF (D : List Ev) : Int → Int := sgn D.length (fun j => (D.map fun e => e.1).getD j 0)
theorem WSt.sg {D : List Ev} {N : Mem} (h : WSt D N) : sgn D.length (N 11) = evF D := sgn_congr (fun i hi => h.2.1 i (by omega))
abbrev evN (V : BV) (w : Int) : List Ev := aEv V w 0
def lyS (V : BV) : LST := ly (vW V) (evF (evN V (-1))) (evN V (-1)).length 0 none
def oRule (s : St) (c e k : Int) : Int × St := if ¬ (vC c ∧ isRC e ∧ 0 ≤ k ∧ k ≤ 4) then (-1000000002, s) else if tkn (sB s) c e then (-1000000003, s) else if 12 ≤ vR (sB s) then (-1000000004, s) else (vR (sB s), nx s (aR (sB s) c e k))
def oDrop (s : St) (k : Int) : Int × St := if ¬ (0 ≤ k ∧ k < vR (sB s)) then (-1000000001, s) else (vR (sB s) - 1, nx s (dR (sB s) k))
def oSetW (s : St) (v : Int) : Int × St := if v < 4 ∨ 40 < v then (-1000000002, s) else (vW (sB s), nx s (sW (sB s) v))
def oSetP (s : St) (v : Int) : Int × St := if v < 1 ∨ 20 < v then (-1000000002, s) else (vP (sB s), nx s (sP (sB s) v))
def oSet (s : St) (w v : Int) : Int × St := if w = 0 then oSetW s v else if w = 1 then oSetP s v else (-1000000002, s)
def oDrift (s : St) (n x : Int) : Int × St := if n < 1 ∨ 12 < n ∨ x < 1 ∨ 999999 < x then (-1000000002, s) else (vR (dft n.toNat (sB s) x) - vR (sB s), nx s (dft n.toNat (sB s) x))
def oText (s : St) (g : Int) : Int × St := if ¬ isSg g then (-1000000002, s) else if 120 ≤ vN (sB s) then (-1000000004, s) else (vN (sB s) + 1, nx s (aS (sB s) g))
def oWipe (s : St) : Int × St := (vN (sB s), nx s (wp (sB s)))
def oUndo (s : St) : Int × St := match sH s with
  | [] => (-1000000003, s)
  | V :: t => (t.length, (V, t, sI s, sC s, sL s))
def rTold (s : St) (w : Int) : Int :=
  if w = 0 then vR (sB s) else if w = 1 then vW (sB s) else if w = 2 then vP (sB s) else if w = 3 then vN (sB s) else if w = 4 then cntW (vS (sB s)) (vN (sB s)).toNat
  else if w = 5 then (evN (sB s) (-1)).length else if w = 6 then (evN (sB s) (-1)).length - wcE (evN (sB s) (-1)) + fwT (sB s) (-1) (vN (sB s)).toNat
  else if w = 7 then lyN (lyS (sB s)) else if w = 8 then (lyN (lyS (sB s)) + vP (sB s) - 1) / vP (sB s) else if w = 9 then sC s else if w = 10 then (sH s).length else -1000000002
def rCell (s : St) (i : Int) : Int := if i < 0 then -1000000002 else evF (evN (sB s) (-1)) i
def rLine (s : St) (l i : Int) : Int := if l < 0 ∨ i < 0 then -1000000002 else lyAt (lyS (sB s)) l.toNat i.toNat
def rRule (s : St) (k w : Int) : Int := if ¬ (0 ≤ k ∧ k < vR (sB s)) then -1000000001 else if w = 0 then vC' (sB s) k.toNat else if w = 1 then vE (sB s) k.toNat else if w = 2 then vK (sB s) k.toNat
  else if w = 3 then cntE (evN (sB s) (-1)) k else if w = 4 then (evN (sB s) k).length else if w = 5 then fstE (evN (sB s) (-1)) k else -1000000002
def rBy (s : St) (c : Int) : Int := if isCl c then rOf (sB s) c else -1000000002
def oFeel (s : St) (c : Int) : Int × St := if ¬ isCl c then (-1000000002, s) else if 240 ≤ sC s then (-1000000004, s) else (sC s + 1, (sB s, sH s, sI s, sC s + 1, fun i => if i = sC s then c else sL s i))
def oFeelAll (s : St) : Int × St := ((evN (sB s) (-1)).length, (sB s, sH s, sI s, ((evN (sB s) (-1)).length : Int), evF (evN (sB s) (-1))))
abbrev rdS (s : St) : Int × Int × List Int := rd (sB s) (sL s) (sC s) 0 (-1)
def rRead (s : St) : Int := if (rdS s).1 = 0 then (rdS s).2.2.length else -10 - (rdS s).1
def rFault (s : St) : Int := (rdS s).2.1
def rSign (s : St) (i : Int) : Int := if i < 0 then -1000000002 else if (rdS s).1 = 0 ∧ i < (rdS s).2.2.length then (rdS s).2.2.getD i.toNat 0 else -1
def oRest (s : St) : Int × St := (sC s, (sB s, sH s, sI s, 0, fun _ => -1))
def oKeep (s : St) (k : Int) : Int × St := if k < 0 ∨ 2 ≤ k then (-1000000001, s) else (vR (sB s), (sB s, [], upI (sI s) k (sB s), sC s, sL s))
def oBack (s : St) (k : Int) : Int × St := if k < 0 ∨ 2 ≤ k then (-1000000001, s) else match sI s k with
  | none => (-1000000003, s)
  | some V => (vR V, (V, [], sI s, sC s, sL s))
theorem oRule_ok {s : St} (h : stOk s) (c e k : Int) : stOk (oRule s c e k).2 := by
  unfold oRule
  split
  · exact h
  · rename_i q
    split
    · exact h
    · rename_i t
      split
      · exact h
      · rename_i r
        have q2 : vC c ∧ isRC e ∧ 0 ≤ k ∧ k ≤ 4 := Decidable.byContradiction q
        exact nx_ok h (aR_ok h.1 q2.1 q2.2.1 q2.2.2.1 q2.2.2.2 t (Int.not_le.mp r))
theorem oDrop_ok {s : St} (h : stOk s) (k : Int) : stOk (oDrop s k).2 := by
  unfold oDrop
  split
  · exact h
  · rename_i q
    have q2 : 0 ≤ k ∧ k < vR (sB s) := Decidable.byContradiction q
    exact nx_ok h (dR_ok h.1 q2.1 q2.2)
theorem oSetW_ok {s : St} (h : stOk s) (v : Int) : stOk (oSetW s v).2 := by
  unfold oSetW
  split
  · exact h
  · exact nx_ok h (sW_ok h.1 (by omega) (by omega))
theorem oSetP_ok {s : St} (h : stOk s) (v : Int) : stOk (oSetP s v).2 := by
  unfold oSetP
  split
  · exact h
  · exact nx_ok h (sP_ok h.1 (by omega) (by omega))
theorem oSet_ok {s : St} (h : stOk s) (w v : Int) : stOk (oSet s w v).2 := by
  unfold oSet
  split
  · exact oSetW_ok h v
  · split
    · exact oSetP_ok h v
    · exact h
theorem oDrift_ok {s : St} (h : stOk s) (n x : Int) : stOk (oDrift s n x).2 := by
  unfold oDrift
  split
  · exact h
  · exact nx_ok h (dft_ok _ h.1 (by omega) (by omega))
theorem oText_ok {s : St} (h : stOk s) (g : Int) : stOk (oText s g).2 := by
  unfold oText
  split
  · exact h
  · rename_i q
    split
    · exact h
    · rename_i r
      exact nx_ok h (aS_ok h.1 (Decidable.byContradiction q) (Int.not_le.mp r))
theorem oWipe_ok {s : St} (h : stOk s) : stOk (oWipe s).2 := nx_ok h (wp_ok h.1)
theorem oUndo_ok {s : St} (h : stOk s) : stOk (oUndo s).2 := by
  unfold oUndo
  split
  · exact h
  · rename_i V t q
    obtain ⟨a1, a2, a3, a4⟩ := h
    exact ⟨a3 V (by rw [q]; exact List.mem_cons_self), by rw [q] at a2; show t.length ≤ 8; simp at a2; omega, fun U hU => a3 U (by rw [q]; exact List.mem_cons_of_mem _ hU), a4⟩
theorem oFeel_ok {s : St} (h : stOk s) (c : Int) : stOk (oFeel s c).2 := by
  unfold oFeel
  split
  · exact h
  · split
    · exact h
    · rename_i r
      obtain ⟨a1, a2, a3, a4, a5, a6, a7⟩ := h
      refine ⟨a1, a2, a3, a4, by show 0 ≤ sC s + 1; omega, by show sC s + 1 ≤ 240; omega, fun i hi => ?_⟩
      replace hi : i < 0 ∨ sC s + 1 ≤ i := hi
      show (if i = sC s then c else sL s i) = -1
      rw [if_neg (by omega)]; exact a7 i (by omega)
theorem oFeelAll_ok {s : St} (h : stOk s) : stOk (oFeelAll s).2 := by
  obtain ⟨a1, a2, a3, a4, a5⟩ := h
  have : (evN (sB s) (-1)).length ≤ 240 := aEv_240 a1 (-1) (i := 0) (Int.le_refl _)
  refine ⟨a1, a2, a3, a4, by show (0 : Int) ≤ ((evN (sB s) (-1)).length : Int); omega, by show ((evN (sB s) (-1)).length : Int) ≤ 240; omega, fun i hi => ?_⟩
  replace hi : i < 0 ∨ ((evN (sB s) (-1)).length : Int) ≤ i := hi
  show evF (evN (sB s) (-1)) i = -1
  unfold evF
  rcases hi with q | q
  · exact sgn_lo q
  · exact sgn_hi q
theorem oRest_ok {s : St} (h : stOk s) : stOk (oRest s).2 := by
  obtain ⟨a1, a2, a3, a4, a5⟩ := h
  exact ⟨a1, a2, a3, a4, show (0 : Int) ≤ 0 by omega, show (0 : Int) ≤ 240 by omega, fun i _ => rfl⟩
theorem oKeep_ok {s : St} (h : stOk s) (k : Int) : stOk (oKeep s k).2 := by
  unfold oKeep
  split
  · exact h
  · obtain ⟨a1, a2, a3, a4, a5⟩ := h
    refine ⟨a1, Nat.zero_le _, fun V hV => absurd hV List.not_mem_nil, fun j V hV => ?_, a5⟩
    replace hV : upI (sI s) k (sB s) j = some V := hV
    unfold upI at hV
    split at hV
    · injection hV with hV; rw [← hV]; exact a1
    · exact a4 j V hV
theorem oBack_ok {s : St} (h : stOk s) (k : Int) : stOk (oBack s k).2 := by
  unfold oBack
  split
  · exact h
  · split
    · exact h
    · rename_i V q
      obtain ⟨a1, a2, a3, a4, a5⟩ := h
      exact ⟨a4 k V q, Nat.zero_le _, fun U hU => absurd hU List.not_mem_nil, a4, a5⟩
/-! the class's book -/
theorem bX_addR {M : Mem} (hb : Bx M) (c e k : Int) : bX (addR M c e k) 1 = aR (bX M 1) c e k := by
  obtain ⟨h0, _⟩ := hb
  have e4 : addR M c e k 1 4 = M 1 4 + 1 := by simp [addR, mup_at]
  have e5 : addR M c e k 1 5 = M 1 5 := by simp [addR, mup_at]
  have e6 : addR M c e k 1 6 = M 1 6 := by simp [addR, mup_at]
  have e7 : addR M c e k 1 7 = M 1 7 := by simp [addR, mup_at]
  have f5 : addR M c e k 5 = M 5 := by funext j; simp [addR, mup_at]
  have f2 : ∀ j, addR M c e k 2 j = if j = (M 1 4).toNat then c else M 2 j := fun j => by simp [addR, mup_at]
  have f3 : ∀ j, addR M c e k 3 j = if j = (M 1 4).toNat then e else M 3 j := fun j => by simp [addR, mup_at]
  have f4 : ∀ j, addR M c e k 4 j = if j = (M 1 4).toNat then k else M 4 j := fun j => by simp [addR, mup_at]
  have g : ∀ (f f2 : Nat → Int) (v : Int), (∀ j, f2 j = if j = (M 1 4).toNat then v else f j) → cut (M 1 4 + 1) f2 = fun j => if j = (M 1 4).toNat then v else cut (M 1 4) f j := by
    intro f f2 v hf
    funext j
    unfold cut
    rw [hf]
    by_cases q : j = (M 1 4).toNat
    · rw [if_pos q, if_pos q, if_pos (by omega)]
    · rw [if_neg q, if_neg q]
      by_cases p : (j : Int) < M 1 4
      · rw [if_pos p, if_pos (by omega)]
      · rw [if_neg p, if_neg (by omega)]
  show ((addR M c e k 1 5, sgn (addR M c e k 1 5) (addR M c e k 5), addR M c e k 1 4, cut (addR M c e k 1 4) (addR M c e k 2), cut (addR M c e k 1 4) (addR M c e k 3), cut (addR M c e k 1 4) (addR M c e k 4), addR M c e k 1 6, addR M c e k 1 7) : BV) = _
  rw [e4, e5, e6, e7, f5, g (M 2) _ c f2, g (M 3) _ e f3, g (M 4) _ k f4]
  rfl
theorem bX_addS {M : Mem} (hb : Bx M) (g : Int) : bX (addS M g) 1 = aS (bX M 1) g := by
  obtain ⟨_, _, h0, _⟩ := hb
  have e4 : addS M g 1 4 = M 1 4 := by simp [addS, mup_at]
  have e5 : addS M g 1 5 = M 1 5 + 1 := by simp [addS, mup_at]
  have e6 : addS M g 1 6 = M 1 6 := by simp [addS, mup_at]
  have e7 : addS M g 1 7 = M 1 7 := by simp [addS, mup_at]
  have f2 : addS M g 2 = M 2 := by funext j; simp [addS, mup_at]
  have f3 : addS M g 3 = M 3 := by funext j; simp [addS, mup_at]
  have f4 : addS M g 4 = M 4 := by funext j; simp [addS, mup_at]
  have f5 : ∀ j, addS M g 5 j = if j = (M 1 5).toNat then g else M 5 j := fun j => by simp [addS, mup_at]
  have hg : sgn (M 1 5 + 1) (addS M g 5) = fun i => if i = M 1 5 then g else sgn (M 1 5) (M 5) i := by
    funext i
    unfold sgn
    rw [f5]
    by_cases q : i = M 1 5
    · rw [if_pos q, if_pos (by omega), if_pos (by omega)]
    · rw [if_neg q]
      by_cases p : 0 ≤ i ∧ i < M 1 5
      · rw [if_pos p, if_pos (by omega), if_neg (by omega)]
      · rw [if_neg p, if_neg (by omega)]
  show ((addS M g 1 5, sgn (addS M g 1 5) (addS M g 5), addS M g 1 4, cut (addS M g 1 4) (addS M g 2), cut (addS M g 1 4) (addS M g 3), cut (addS M g 1 4) (addS M g 4), addS M g 1 6, addS M g 1 7) : BV) = _
  rw [e4, e5, e6, e7, f2, f3, f4, hg]
  rfl
theorem shf_cut {f f2 : Nat → Int} {k n : Int} (h : ∀ j : Nat, f2 j = if k ≤ j ∧ (j : Int) + 1 < n then f (j + 1) else f j) : cut (n - 1) f2 = shf (cut n f) k n := by
  unfold shf
  refine cut_congr fun i hi => ?_
  rw [h]
  by_cases q : k ≤ (i : Int)
  · rw [if_pos ⟨q, by omega⟩, if_pos q, cut_in (by omega)]
  · rw [if_neg (fun z => q z.1), if_neg q, cut_in (by omega)]
theorem bX_remR {M M2 : Mem} {k : Int} (h : remR k M M2) : bX M2 1 = dR (bX M 1) k := by
  obtain ⟨f2, f3, f4, e1, eo⟩ := h
  have e4 : M2 1 4 = M 1 4 - 1 := by rw [e1]; simp [rup]
  have e5 : M2 1 5 = M 1 5 := by rw [e1]; simp [rup]
  have e6 : M2 1 6 = M 1 6 := by rw [e1]; simp [rup]
  have e7 : M2 1 7 = M 1 7 := by rw [e1]; simp [rup]
  show ((M2 1 5, sgn (M2 1 5) (M2 5), M2 1 4, cut (M2 1 4) (M2 2), cut (M2 1 4) (M2 3), cut (M2 1 4) (M2 4), M2 1 6, M2 1 7) : BV) = _
  rw [e4, e5, e6, e7, eo 5 (by omega), shf_cut f2, shf_cut f3, shf_cut f4]
  rfl
end
