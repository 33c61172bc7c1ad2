section
-- ===== PART A: goes FIRST, ahead of the names: the tables' words, and 'selects' of the private methods out of them =====
/-- a private method of a class that the tables say can be made, by its rows of tables_1 -/
def lw_okq (q : MethodName × Nat) : Prop := (q.1.cls ≠ "java/lang/invoke/MethodHandle" ∧ q.1.cls ≠ "java/lang/invoke/VarHandle") ∧ Cond.instantiable q.1.cls q.2 ∈ tables_1 ∧ Cond.privateMethod q.1 ∈ tables_1 ∧ Cond.instanceMethod q.1 ∈ tables_1
theorem lw_p0 : lw_okq (⟨"CostChoices$Reader", "readItem", "()Z"⟩, 4) := ⟨⟨by decide +kernel, by decide +kernel⟩, List.mem_of_getElem? (i := 69) (by decide +kernel), List.mem_of_getElem? (i := 258) (by decide +kernel), List.mem_of_getElem? (i := 259) (by decide +kernel)⟩
theorem lw_p1 : lw_okq (⟨"CostChoices$Reader", "takes", "(C)Z"⟩, 4) := ⟨⟨by decide +kernel, by decide +kernel⟩, List.mem_of_getElem? (i := 69) (by decide +kernel), List.mem_of_getElem? (i := 262) (by decide +kernel), List.mem_of_getElem? (i := 263) (by decide +kernel)⟩
theorem lw_p2 : lw_okq (⟨"CostChoices$Reader", "readNode", "()Z"⟩, 4) := ⟨⟨by decide +kernel, by decide +kernel⟩, List.mem_of_getElem? (i := 69) (by decide +kernel), List.mem_of_getElem? (i := 266) (by decide +kernel), List.mem_of_getElem? (i := 267) (by decide +kernel)⟩
theorem lw_p3 : lw_okq (⟨"CostChoices$Reader", "readNumber", "()I"⟩, 4) := ⟨⟨by decide +kernel, by decide +kernel⟩, List.mem_of_getElem? (i := 69) (by decide +kernel), List.mem_of_getElem? (i := 270) (by decide +kernel), List.mem_of_getElem? (i := 271) (by decide +kernel)⟩
theorem lw_p4 : lw_okq (⟨"CostChoices$Reader", "readFigure", "()I"⟩, 4) := ⟨⟨by decide +kernel, by decide +kernel⟩, List.mem_of_getElem? (i := 69) (by decide +kernel), List.mem_of_getElem? (i := 274) (by decide +kernel), List.mem_of_getElem? (i := 275) (by decide +kernel)⟩
theorem lw_p5 : lw_okq (⟨"CostChoices$Reader", "readTie", "()Z"⟩, 4) := ⟨⟨by decide +kernel, by decide +kernel⟩, List.mem_of_getElem? (i := 69) (by decide +kernel), List.mem_of_getElem? (i := 286) (by decide +kernel), List.mem_of_getElem? (i := 287) (by decide +kernel)⟩
theorem lw_p6 : lw_okq (⟨"CostChoices$Reader", "readTable", "(II)Z"⟩, 4) := ⟨⟨by decide +kernel, by decide +kernel⟩, List.mem_of_getElem? (i := 69) (by decide +kernel), List.mem_of_getElem? (i := 313) (by decide +kernel), List.mem_of_getElem? (i := 314) (by decide +kernel)⟩
theorem lw_p7 : lw_okq (⟨"CostChoices", "forgetAnswers", "()V"⟩, 17) := ⟨⟨by decide +kernel, by decide +kernel⟩, List.mem_of_getElem? (i := 16) (by decide +kernel), List.mem_of_getElem? (i := 329) (by decide +kernel), List.mem_of_getElem? (i := 330) (by decide +kernel)⟩
theorem lw_p8 : lw_okq (⟨"CostChoices", "isNode", "(I)Z"⟩, 17) := ⟨⟨by decide +kernel, by decide +kernel⟩, List.mem_of_getElem? (i := 16) (by decide +kernel), List.mem_of_getElem? (i := 401) (by decide +kernel), List.mem_of_getElem? (i := 402) (by decide +kernel)⟩
theorem lw_p9 : lw_okq (⟨"CostChoices", "pinnedTo", "(I)I"⟩, 17) := ⟨⟨by decide +kernel, by decide +kernel⟩, List.mem_of_getElem? (i := 16) (by decide +kernel), List.mem_of_getElem? (i := 406) (by decide +kernel), List.mem_of_getElem? (i := 407) (by decide +kernel)⟩
theorem lw_p10 : lw_okq (⟨"CostChoices", "isChoice", "(II)Z"⟩, 17) := ⟨⟨by decide +kernel, by decide +kernel⟩, List.mem_of_getElem? (i := 16) (by decide +kernel), List.mem_of_getElem? (i := 414) (by decide +kernel), List.mem_of_getElem? (i := 415) (by decide +kernel)⟩
theorem lw_p11 : lw_okq (⟨"CostChoices", "beginAct", "()V"⟩, 17) := ⟨⟨by decide +kernel, by decide +kernel⟩, List.mem_of_getElem? (i := 16) (by decide +kernel), List.mem_of_getElem? (i := 443) (by decide +kernel), List.mem_of_getElem? (i := 444) (by decide +kernel)⟩
theorem lw_p12 : lw_okq (⟨"CostChoices", "dropOldest", "()V"⟩, 17) := ⟨⟨by decide +kernel, by decide +kernel⟩, List.mem_of_getElem? (i := 16) (by decide +kernel), List.mem_of_getElem? (i := 447) (by decide +kernel), List.mem_of_getElem? (i := 448) (by decide +kernel)⟩
theorem lw_p13 : lw_okq (⟨"CostChoices", "bringReduction", "()V"⟩, 17) := ⟨⟨by decide +kernel, by decide +kernel⟩, List.mem_of_getElem? (i := 16) (by decide +kernel), List.mem_of_getElem? (i := 480) (by decide +kernel), List.mem_of_getElem? (i := 481) (by decide +kernel)⟩
theorem lw_p14 : lw_okq (⟨"CostChoices", "bringWeights", "()V"⟩, 17) := ⟨⟨by decide +kernel, by decide +kernel⟩, List.mem_of_getElem? (i := 16) (by decide +kernel), List.mem_of_getElem? (i := 484) (by decide +kernel), List.mem_of_getElem? (i := 485) (by decide +kernel)⟩
theorem lw_p15 : lw_okq (⟨"CostChoices$Weights", "weighTable", "(LCostChoices$Graph;II)V"⟩, 5) := ⟨⟨by decide +kernel, by decide +kernel⟩, List.mem_of_getElem? (i := 89) (by decide +kernel), List.mem_of_getElem? (i := 500) (by decide +kernel), List.mem_of_getElem? (i := 501) (by decide +kernel)⟩
def lw_privs_1 : List (MethodName × Nat) := [(⟨"CostChoices$Reader", "readItem", "()Z"⟩, 4), (⟨"CostChoices$Reader", "takes", "(C)Z"⟩, 4), (⟨"CostChoices$Reader", "readNode", "()Z"⟩, 4), (⟨"CostChoices$Reader", "readNumber", "()I"⟩, 4), (⟨"CostChoices$Reader", "readFigure", "()I"⟩, 4), (⟨"CostChoices$Reader", "readTie", "()Z"⟩, 4), (⟨"CostChoices$Reader", "readTable", "(II)Z"⟩, 4), (⟨"CostChoices", "forgetAnswers", "()V"⟩, 17), (⟨"CostChoices", "isNode", "(I)Z"⟩, 17), (⟨"CostChoices", "pinnedTo", "(I)I"⟩, 17), (⟨"CostChoices", "isChoice", "(II)Z"⟩, 17), (⟨"CostChoices", "beginAct", "()V"⟩, 17), (⟨"CostChoices", "dropOldest", "()V"⟩, 17), (⟨"CostChoices", "bringReduction", "()V"⟩, 17), (⟨"CostChoices", "bringWeights", "()V"⟩, 17), (⟨"CostChoices$Weights", "weighTable", "(LCostChoices$Graph;II)V"⟩, 5)]
theorem lw_r1 : ∀ q ∈ lw_privs_1, lw_okq q := List.forall_mem_cons.mpr ⟨lw_p0, List.forall_mem_cons.mpr ⟨lw_p1, List.forall_mem_cons.mpr ⟨lw_p2, List.forall_mem_cons.mpr ⟨lw_p3, List.forall_mem_cons.mpr ⟨lw_p4, List.forall_mem_cons.mpr ⟨lw_p5, List.forall_mem_cons.mpr ⟨lw_p6, List.forall_mem_cons.mpr ⟨lw_p7, List.forall_mem_cons.mpr ⟨lw_p8, List.forall_mem_cons.mpr ⟨lw_p9, List.forall_mem_cons.mpr ⟨lw_p10, List.forall_mem_cons.mpr ⟨lw_p11, List.forall_mem_cons.mpr ⟨lw_p12, List.forall_mem_cons.mpr ⟨lw_p13, List.forall_mem_cons.mpr ⟨lw_p14, List.forall_mem_cons.mpr ⟨lw_p15, fun _ h => absurd h List.not_mem_nil⟩⟩⟩⟩⟩⟩⟩⟩⟩⟩⟩⟩⟩⟩⟩⟩
theorem lw_p16 : lw_okq (⟨"CostChoices$Reduction", "nextNode", "()I"⟩, 7) := ⟨⟨by decide +kernel, by decide +kernel⟩, List.mem_of_getElem? (i := 118) (by decide +kernel), List.mem_of_getElem? (i := 511) (by decide +kernel), List.mem_of_getElem? (i := 512) (by decide +kernel)⟩
theorem lw_p17 : lw_okq (⟨"CostChoices$Reduction", "comesAhead", "(II)Z"⟩, 7) := ⟨⟨by decide +kernel, by decide +kernel⟩, List.mem_of_getElem? (i := 118) (by decide +kernel), List.mem_of_getElem? (i := 516) (by decide +kernel), List.mem_of_getElem? (i := 517) (by decide +kernel)⟩
theorem lw_p18 : lw_okq (⟨"CostChoices$Reduction", "matesLeft", "(I)I"⟩, 7) := ⟨⟨by decide +kernel, by decide +kernel⟩, List.mem_of_getElem? (i := 118) (by decide +kernel), List.mem_of_getElem? (i := 520) (by decide +kernel), List.mem_of_getElem? (i := 521) (by decide +kernel)⟩
theorem lw_p19 : lw_okq (⟨"CostChoices$Reduction", "foldIntoOne", "(II)V"⟩, 7) := ⟨⟨by decide +kernel, by decide +kernel⟩, List.mem_of_getElem? (i := 118) (by decide +kernel), List.mem_of_getElem? (i := 530) (by decide +kernel), List.mem_of_getElem? (i := 531) (by decide +kernel)⟩
theorem lw_p20 : lw_okq (⟨"CostChoices$Reduction", "foldIntoTwo", "(III)V"⟩, 7) := ⟨⟨by decide +kernel, by decide +kernel⟩, List.mem_of_getElem? (i := 118) (by decide +kernel), List.mem_of_getElem? (i := 548) (by decide +kernel), List.mem_of_getElem? (i := 549) (by decide +kernel)⟩
theorem lw_p21 : lw_okq (⟨"CostChoices$Reduction", "guess", "(II)V"⟩, 7) := ⟨⟨by decide +kernel, by decide +kernel⟩, List.mem_of_getElem? (i := 118) (by decide +kernel), List.mem_of_getElem? (i := 558) (by decide +kernel), List.mem_of_getElem? (i := 559) (by decide +kernel)⟩
theorem lw_p22 : lw_okq (⟨"CostChoices$Reduction", "outlook", "(III)I"⟩, 7) := ⟨⟨by decide +kernel, by decide +kernel⟩, List.mem_of_getElem? (i := 118) (by decide +kernel), List.mem_of_getElem? (i := 562) (by decide +kernel), List.mem_of_getElem? (i := 563) (by decide +kernel)⟩
theorem lw_p23 : lw_okq (⟨"CostChoices$Reduction", "readOff", "()V"⟩, 7) := ⟨⟨by decide +kernel, by decide +kernel⟩, List.mem_of_getElem? (i := 118) (by decide +kernel), List.mem_of_getElem? (i := 573) (by decide +kernel), List.mem_of_getElem? (i := 574) (by decide +kernel)⟩
theorem lw_p24 : lw_okq (⟨"CostChoices$Reduction", "firstLeast", "(II)I"⟩, 7) := ⟨⟨by decide +kernel, by decide +kernel⟩, List.mem_of_getElem? (i := 118) (by decide +kernel), List.mem_of_getElem? (i := 577) (by decide +kernel), List.mem_of_getElem? (i := 578) (by decide +kernel)⟩
theorem lw_p25 : lw_okq (⟨"CostChoices", "bringSearch", "()V"⟩, 17) := ⟨⟨by decide +kernel, by decide +kernel⟩, List.mem_of_getElem? (i := 16) (by decide +kernel), List.mem_of_getElem? (i := 606) (by decide +kernel), List.mem_of_getElem? (i := 607) (by decide +kernel)⟩
theorem lw_p26 : lw_okq (⟨"CostChoices$Search", "tryFrom", "(II)V"⟩, 9) := ⟨⟨by decide +kernel, by decide +kernel⟩, List.mem_of_getElem? (i := 152) (by decide +kernel), List.mem_of_getElem? (i := 621) (by decide +kernel), List.mem_of_getElem? (i := 622) (by decide +kernel)⟩
theorem lw_p27 : lw_okq (⟨"CostChoices$Search", "takeIn", "(I)V"⟩, 9) := ⟨⟨by decide +kernel, by decide +kernel⟩, List.mem_of_getElem? (i := 152) (by decide +kernel), List.mem_of_getElem? (i := 625) (by decide +kernel), List.mem_of_getElem? (i := 626) (by decide +kernel)⟩
theorem lw_p28 : lw_okq (⟨"CostChoices$Search", "likeFirst", "()I"⟩, 9) := ⟨⟨by decide +kernel, by decide +kernel⟩, List.mem_of_getElem? (i := 152) (by decide +kernel), List.mem_of_getElem? (i := 630) (by decide +kernel), List.mem_of_getElem? (i := 631) (by decide +kernel)⟩
theorem lw_p29 : lw_okq (⟨"CostChoicesModel", "readNone", "()V"⟩, 27) := ⟨⟨by decide +kernel, by decide +kernel⟩, List.mem_of_getElem? (i := 678) (by decide +kernel), List.mem_of_getElem? (i := 684) (by decide +kernel), List.mem_of_getElem? (i := 685) (by decide +kernel)⟩
theorem lw_p30 : lw_okq (⟨"CostChoicesModel", "nodeIs", "(IIIII)V"⟩, 27) := ⟨⟨by decide +kernel, by decide +kernel⟩, List.mem_of_getElem? (i := 678) (by decide +kernel), List.mem_of_getElem? (i := 688) (by decide +kernel), List.mem_of_getElem? (i := 689) (by decide +kernel)⟩
theorem lw_p31 : lw_okq (⟨"CostChoicesModel", "tableIs", "(III)V"⟩, 27) := ⟨⟨by decide +kernel, by decide +kernel⟩, List.mem_of_getElem? (i := 678) (by decide +kernel), List.mem_of_getElem? (i := 692) (by decide +kernel), List.mem_of_getElem? (i := 693) (by decide +kernel)⟩
def lw_privs_2 : List (MethodName × Nat) := [(⟨"CostChoices$Reduction", "nextNode", "()I"⟩, 7), (⟨"CostChoices$Reduction", "comesAhead", "(II)Z"⟩, 7), (⟨"CostChoices$Reduction", "matesLeft", "(I)I"⟩, 7), (⟨"CostChoices$Reduction", "foldIntoOne", "(II)V"⟩, 7), (⟨"CostChoices$Reduction", "foldIntoTwo", "(III)V"⟩, 7), (⟨"CostChoices$Reduction", "guess", "(II)V"⟩, 7), (⟨"CostChoices$Reduction", "outlook", "(III)I"⟩, 7), (⟨"CostChoices$Reduction", "readOff", "()V"⟩, 7), (⟨"CostChoices$Reduction", "firstLeast", "(II)I"⟩, 7), (⟨"CostChoices", "bringSearch", "()V"⟩, 17), (⟨"CostChoices$Search", "tryFrom", "(II)V"⟩, 9), (⟨"CostChoices$Search", "takeIn", "(I)V"⟩, 9), (⟨"CostChoices$Search", "likeFirst", "()I"⟩, 9), (⟨"CostChoicesModel", "readNone", "()V"⟩, 27), (⟨"CostChoicesModel", "nodeIs", "(IIIII)V"⟩, 27), (⟨"CostChoicesModel", "tableIs", "(III)V"⟩, 27)]
theorem lw_r2 : ∀ q ∈ lw_privs_2, lw_okq q := List.forall_mem_cons.mpr ⟨lw_p16, List.forall_mem_cons.mpr ⟨lw_p17, List.forall_mem_cons.mpr ⟨lw_p18, List.forall_mem_cons.mpr ⟨lw_p19, List.forall_mem_cons.mpr ⟨lw_p20, List.forall_mem_cons.mpr ⟨lw_p21, List.forall_mem_cons.mpr ⟨lw_p22, List.forall_mem_cons.mpr ⟨lw_p23, List.forall_mem_cons.mpr ⟨lw_p24, List.forall_mem_cons.mpr ⟨lw_p25, List.forall_mem_cons.mpr ⟨lw_p26, List.forall_mem_cons.mpr ⟨lw_p27, List.forall_mem_cons.mpr ⟨lw_p28, List.forall_mem_cons.mpr ⟨lw_p29, List.forall_mem_cons.mpr ⟨lw_p30, List.forall_mem_cons.mpr ⟨lw_p31, fun _ h => absurd h List.not_mem_nil⟩⟩⟩⟩⟩⟩⟩⟩⟩⟩⟩⟩⟩⟩⟩⟩
theorem lw_p32 : lw_okq (⟨"CostChoicesModel", "begin", "()V"⟩, 27) := ⟨⟨by decide +kernel, by decide +kernel⟩, List.mem_of_getElem? (i := 678) (by decide +kernel), List.mem_of_getElem? (i := 701) (by decide +kernel), List.mem_of_getElem? (i := 702) (by decide +kernel)⟩
theorem lw_p33 : lw_okq (⟨"CostChoicesModel", "readAll", "()I"⟩, 27) := ⟨⟨by decide +kernel, by decide +kernel⟩, List.mem_of_getElem? (i := 678) (by decide +kernel), List.mem_of_getElem? (i := 804) (by decide +kernel), List.mem_of_getElem? (i := 805) (by decide +kernel)⟩
theorem lw_p34 : lw_okq (⟨"CostChoicesModel", "letterAt", "(I)I"⟩, 27) := ⟨⟨by decide +kernel, by decide +kernel⟩, List.mem_of_getElem? (i := 678) (by decide +kernel), List.mem_of_getElem? (i := 808) (by decide +kernel), List.mem_of_getElem? (i := 809) (by decide +kernel)⟩
theorem lw_p35 : lw_okq (⟨"CostChoicesModel", "nodeItem", "()Z"⟩, 27) := ⟨⟨by decide +kernel, by decide +kernel⟩, List.mem_of_getElem? (i := 678) (by decide +kernel), List.mem_of_getElem? (i := 812) (by decide +kernel), List.mem_of_getElem? (i := 813) (by decide +kernel)⟩
theorem lw_p36 : lw_okq (⟨"CostChoicesModel", "isNumber", "()Z"⟩, 27) := ⟨⟨by decide +kernel, by decide +kernel⟩, List.mem_of_getElem? (i := 678) (by decide +kernel), List.mem_of_getElem? (i := 816) (by decide +kernel), List.mem_of_getElem? (i := 817) (by decide +kernel)⟩
theorem lw_p37 : lw_okq (⟨"CostChoicesModel", "tieItem", "()Z"⟩, 27) := ⟨⟨by decide +kernel, by decide +kernel⟩, List.mem_of_getElem? (i := 678) (by decide +kernel), List.mem_of_getElem? (i := 823) (by decide +kernel), List.mem_of_getElem? (i := 824) (by decide +kernel)⟩
theorem lw_p38 : lw_okq (⟨"CostChoicesModel", "isNode", "(I)Z"⟩, 27) := ⟨⟨by decide +kernel, by decide +kernel⟩, List.mem_of_getElem? (i := 678) (by decide +kernel), List.mem_of_getElem? (i := 839) (by decide +kernel), List.mem_of_getElem? (i := 840) (by decide +kernel)⟩
theorem lw_p39 : lw_okq (⟨"CostChoicesModel", "tiedMany", "(I)I"⟩, 27) := ⟨⟨by decide +kernel, by decide +kernel⟩, List.mem_of_getElem? (i := 678) (by decide +kernel), List.mem_of_getElem? (i := 844) (by decide +kernel), List.mem_of_getElem? (i := 845) (by decide +kernel)⟩
theorem lw_p40 : lw_okq (⟨"CostChoicesModel", "isTied", "(II)Z"⟩, 27) := ⟨⟨by decide +kernel, by decide +kernel⟩, List.mem_of_getElem? (i := 678) (by decide +kernel), List.mem_of_getElem? (i := 848) (by decide +kernel), List.mem_of_getElem? (i := 849) (by decide +kernel)⟩
theorem lw_p41 : lw_okq (⟨"CostChoicesModel", "isChoice", "(II)Z"⟩, 27) := ⟨⟨by decide +kernel, by decide +kernel⟩, List.mem_of_getElem? (i := 678) (by decide +kernel), List.mem_of_getElem? (i := 856) (by decide +kernel), List.mem_of_getElem? (i := 857) (by decide +kernel)⟩
theorem lw_p42 : lw_okq (⟨"CostChoicesModel", "costOf", "(II)I"⟩, 27) := ⟨⟨by decide +kernel, by decide +kernel⟩, List.mem_of_getElem? (i := 678) (by decide +kernel), List.mem_of_getElem? (i := 860) (by decide +kernel), List.mem_of_getElem? (i := 861) (by decide +kernel)⟩
theorem lw_p43 : lw_okq (⟨"CostChoicesModel", "tieOf", "(IIII)I"⟩, 27) := ⟨⟨by decide +kernel, by decide +kernel⟩, List.mem_of_getElem? (i := 678) (by decide +kernel), List.mem_of_getElem? (i := 869) (by decide +kernel), List.mem_of_getElem? (i := 870) (by decide +kernel)⟩
theorem lw_p44 : lw_okq (⟨"CostChoicesModel", "note", "()V"⟩, 27) := ⟨⟨by decide +kernel, by decide +kernel⟩, List.mem_of_getElem? (i := 678) (by decide +kernel), List.mem_of_getElem? (i := 878) (by decide +kernel), List.mem_of_getElem? (i := 879) (by decide +kernel)⟩
theorem lw_p45 : lw_okq (⟨"CostChoicesModel", "isPair", "(II)Z"⟩, 27) := ⟨⟨by decide +kernel, by decide +kernel⟩, List.mem_of_getElem? (i := 678) (by decide +kernel), List.mem_of_getElem? (i := 890) (by decide +kernel), List.mem_of_getElem? (i := 891) (by decide +kernel)⟩
theorem lw_p46 : lw_okq (⟨"CostChoicesModel", "looseNow", "(II)V"⟩, 27) := ⟨⟨by decide +kernel, by decide +kernel⟩, List.mem_of_getElem? (i := 678) (by decide +kernel), List.mem_of_getElem? (i := 894) (by decide +kernel), List.mem_of_getElem? (i := 895) (by decide +kernel)⟩
theorem lw_p47 : lw_okq (⟨"CostChoicesModel", "reduceAll", "()V"⟩, 27) := ⟨⟨by decide +kernel, by decide +kernel⟩, List.mem_of_getElem? (i := 678) (by decide +kernel), List.mem_of_getElem? (i := 915) (by decide +kernel), List.mem_of_getElem? (i := 916) (by decide +kernel)⟩
def lw_privs_3 : List (MethodName × Nat) := [(⟨"CostChoicesModel", "begin", "()V"⟩, 27), (⟨"CostChoicesModel", "readAll", "()I"⟩, 27), (⟨"CostChoicesModel", "letterAt", "(I)I"⟩, 27), (⟨"CostChoicesModel", "nodeItem", "()Z"⟩, 27), (⟨"CostChoicesModel", "isNumber", "()Z"⟩, 27), (⟨"CostChoicesModel", "tieItem", "()Z"⟩, 27), (⟨"CostChoicesModel", "isNode", "(I)Z"⟩, 27), (⟨"CostChoicesModel", "tiedMany", "(I)I"⟩, 27), (⟨"CostChoicesModel", "isTied", "(II)Z"⟩, 27), (⟨"CostChoicesModel", "isChoice", "(II)Z"⟩, 27), (⟨"CostChoicesModel", "costOf", "(II)I"⟩, 27), (⟨"CostChoicesModel", "tieOf", "(IIII)I"⟩, 27), (⟨"CostChoicesModel", "note", "()V"⟩, 27), (⟨"CostChoicesModel", "isPair", "(II)Z"⟩, 27), (⟨"CostChoicesModel", "looseNow", "(II)V"⟩, 27), (⟨"CostChoicesModel", "reduceAll", "()V"⟩, 27)]
theorem lw_r3 : ∀ q ∈ lw_privs_3, lw_okq q := List.forall_mem_cons.mpr ⟨lw_p32, List.forall_mem_cons.mpr ⟨lw_p33, List.forall_mem_cons.mpr ⟨lw_p34, List.forall_mem_cons.mpr ⟨lw_p35, List.forall_mem_cons.mpr ⟨lw_p36, List.forall_mem_cons.mpr ⟨lw_p37, List.forall_mem_cons.mpr ⟨lw_p38, List.forall_mem_cons.mpr ⟨lw_p39, List.forall_mem_cons.mpr ⟨lw_p40, List.forall_mem_cons.mpr ⟨lw_p41, List.forall_mem_cons.mpr ⟨lw_p42, List.forall_mem_cons.mpr ⟨lw_p43, List.forall_mem_cons.mpr ⟨lw_p44, List.forall_mem_cons.mpr ⟨lw_p45, List.forall_mem_cons.mpr ⟨lw_p46, List.forall_mem_cons.mpr ⟨lw_p47, fun _ h => absurd h List.not_mem_nil⟩⟩⟩⟩⟩⟩⟩⟩⟩⟩⟩⟩⟩⟩⟩⟩
theorem lw_p48 : lw_okq (⟨"CostChoicesModel", "aside", "()V"⟩, 27) := ⟨⟨by decide +kernel, by decide +kernel⟩, List.mem_of_getElem? (i := 678) (by decide +kernel), List.mem_of_getElem? (i := 919) (by decide +kernel), List.mem_of_getElem? (i := 920) (by decide +kernel)⟩
theorem lw_p49 : lw_okq (⟨"CostChoicesModel", "nextOf", "(I)I"⟩, 27) := ⟨⟨by decide +kernel, by decide +kernel⟩, List.mem_of_getElem? (i := 678) (by decide +kernel), List.mem_of_getElem? (i := 926) (by decide +kernel), List.mem_of_getElem? (i := 927) (by decide +kernel)⟩
theorem lw_p50 : lw_okq (⟨"CostChoicesModel", "isAhead", "(II)Z"⟩, 27) := ⟨⟨by decide +kernel, by decide +kernel⟩, List.mem_of_getElem? (i := 678) (by decide +kernel), List.mem_of_getElem? (i := 933) (by decide +kernel), List.mem_of_getElem? (i := 934) (by decide +kernel)⟩
theorem lw_p51 : lw_okq (⟨"CostChoicesModel", "ruleOne", "(II)V"⟩, 27) := ⟨⟨by decide +kernel, by decide +kernel⟩, List.mem_of_getElem? (i := 678) (by decide +kernel), List.mem_of_getElem? (i := 943) (by decide +kernel), List.mem_of_getElem? (i := 944) (by decide +kernel)⟩
theorem lw_p52 : lw_okq (⟨"CostChoicesModel", "ruleTwo", "(III)V"⟩, 27) := ⟨⟨by decide +kernel, by decide +kernel⟩, List.mem_of_getElem? (i := 678) (by decide +kernel), List.mem_of_getElem? (i := 950) (by decide +kernel), List.mem_of_getElem? (i := 951) (by decide +kernel)⟩
theorem lw_p53 : lw_okq (⟨"CostChoicesModel", "ruleThree", "(I)V"⟩, 27) := ⟨⟨by decide +kernel, by decide +kernel⟩, List.mem_of_getElem? (i := 678) (by decide +kernel), List.mem_of_getElem? (i := 954) (by decide +kernel), List.mem_of_getElem? (i := 955) (by decide +kernel)⟩
theorem lw_p54 : lw_okq (⟨"CostChoicesModel", "leastBeside", "(III)I"⟩, 27) := ⟨⟨by decide +kernel, by decide +kernel⟩, List.mem_of_getElem? (i := 678) (by decide +kernel), List.mem_of_getElem? (i := 959) (by decide +kernel), List.mem_of_getElem? (i := 960) (by decide +kernel)⟩
theorem lw_p55 : lw_okq (⟨"CostChoicesModel", "takeBest", "(II)V"⟩, 27) := ⟨⟨by decide +kernel, by decide +kernel⟩, List.mem_of_getElem? (i := 678) (by decide +kernel), List.mem_of_getElem? (i := 963) (by decide +kernel), List.mem_of_getElem? (i := 964) (by decide +kernel)⟩
theorem lw_p56 : lw_okq (⟨"CostChoicesModel", "planCost", "()I"⟩, 27) := ⟨⟨by decide +kernel, by decide +kernel⟩, List.mem_of_getElem? (i := 678) (by decide +kernel), List.mem_of_getElem? (i := 975) (by decide +kernel), List.mem_of_getElem? (i := 976) (by decide +kernel)⟩
theorem lw_p57 : lw_okq (⟨"CostChoicesModel", "bound", "()I"⟩, 27) := ⟨⟨by decide +kernel, by decide +kernel⟩, List.mem_of_getElem? (i := 678) (by decide +kernel), List.mem_of_getElem? (i := 984) (by decide +kernel), List.mem_of_getElem? (i := 985) (by decide +kernel)⟩
theorem lw_p58 : lw_okq (⟨"CostChoicesModel", "goAll", "(II)V"⟩, 27) := ⟨⟨by decide +kernel, by decide +kernel⟩, List.mem_of_getElem? (i := 678) (by decide +kernel), List.mem_of_getElem? (i := 988) (by decide +kernel), List.mem_of_getElem? (i := 989) (by decide +kernel)⟩
theorem lw_p59 : lw_okq (⟨"CostChoicesModel", "meetPlan", "(I)V"⟩, 27) := ⟨⟨by decide +kernel, by decide +kernel⟩, List.mem_of_getElem? (i := 678) (by decide +kernel), List.mem_of_getElem? (i := 992) (by decide +kernel), List.mem_of_getElem? (i := 993) (by decide +kernel)⟩
theorem lw_p60 : lw_okq (⟨"CostChoicesModel", "sameSet", "()I"⟩, 27) := ⟨⟨by decide +kernel, by decide +kernel⟩, List.mem_of_getElem? (i := 678) (by decide +kernel), List.mem_of_getElem? (i := 996) (by decide +kernel), List.mem_of_getElem? (i := 997) (by decide +kernel)⟩
theorem lw_p61 : lw_okq (⟨"CostChoicesModel", "pinned", "()I"⟩, 27) := ⟨⟨by decide +kernel, by decide +kernel⟩, List.mem_of_getElem? (i := 678) (by decide +kernel), List.mem_of_getElem? (i := 1024) (by decide +kernel), List.mem_of_getElem? (i := 1025) (by decide +kernel)⟩
def lw_privs_4 : List (MethodName × Nat) := [(⟨"CostChoicesModel", "aside", "()V"⟩, 27), (⟨"CostChoicesModel", "nextOf", "(I)I"⟩, 27), (⟨"CostChoicesModel", "isAhead", "(II)Z"⟩, 27), (⟨"CostChoicesModel", "ruleOne", "(II)V"⟩, 27), (⟨"CostChoicesModel", "ruleTwo", "(III)V"⟩, 27), (⟨"CostChoicesModel", "ruleThree", "(I)V"⟩, 27), (⟨"CostChoicesModel", "leastBeside", "(III)I"⟩, 27), (⟨"CostChoicesModel", "takeBest", "(II)V"⟩, 27), (⟨"CostChoicesModel", "planCost", "()I"⟩, 27), (⟨"CostChoicesModel", "bound", "()I"⟩, 27), (⟨"CostChoicesModel", "goAll", "(II)V"⟩, 27), (⟨"CostChoicesModel", "meetPlan", "(I)V"⟩, 27), (⟨"CostChoicesModel", "sameSet", "()I"⟩, 27), (⟨"CostChoicesModel", "pinned", "()I"⟩, 27)]
theorem lw_r4 : ∀ q ∈ lw_privs_4, lw_okq q := List.forall_mem_cons.mpr ⟨lw_p48, List.forall_mem_cons.mpr ⟨lw_p49, List.forall_mem_cons.mpr ⟨lw_p50, List.forall_mem_cons.mpr ⟨lw_p51, List.forall_mem_cons.mpr ⟨lw_p52, List.forall_mem_cons.mpr ⟨lw_p53, List.forall_mem_cons.mpr ⟨lw_p54, List.forall_mem_cons.mpr ⟨lw_p55, List.forall_mem_cons.mpr ⟨lw_p56, List.forall_mem_cons.mpr ⟨lw_p57, List.forall_mem_cons.mpr ⟨lw_p58, List.forall_mem_cons.mpr ⟨lw_p59, List.forall_mem_cons.mpr ⟨lw_p60, List.forall_mem_cons.mpr ⟨lw_p61, fun _ h => absurd h List.not_mem_nil⟩⟩⟩⟩⟩⟩⟩⟩⟩⟩⟩⟩⟩⟩
def lw_privs : List (MethodName × Nat) := lw_privs_1 ++ (lw_privs_2 ++ (lw_privs_3 ++ (lw_privs_4)))
def lw_tbl : List Cond := k2_sels lw_privs ++ tables_1
theorem lw_privs_ok : ∀ q ∈ lw_privs, lw_okq q := by
  show ∀ q ∈ lw_privs_1 ++ (lw_privs_2 ++ (lw_privs_3 ++ (lw_privs_4))), lw_okq q
  exact List.forall_mem_append.mpr ⟨lw_r1, List.forall_mem_append.mpr ⟨lw_r2, List.forall_mem_append.mpr ⟨lw_r3, lw_r4⟩⟩⟩
/-! ===== BEGIN words of one list among another's, by their places ===== -/
theorem goodIn_r {big : List Cond} (ws : List Cond) (ps : List Nat) (hp : ws = ps.filterMap (fun i => big[i]?)) (h : ws.all goodWord = true) : GoodIn big ws := by
  intro w hw
  have h1 := List.all_eq_true.mp h w hw
  rw [hp] at hw
  obtain ⟨i, -, hi⟩ := List.mem_filterMap.mp hw
  have hm : w ∈ big := by first | exact List.mem_of_getElem? hi | exact List.getElem?_mem hi
  exact ⟨hm, good_of_word h1⟩
theorem goodIn_app {big a b : List Cond} (ha : GoodIn big a) (hb : GoodIn big b) : GoodIn big (a ++ b) := fun w h => (List.mem_append.mp h).elim (ha w) (hb w)
theorem goodIn_ca {big a b : List Cond} {c : Cond} (ha : GoodIn big (c :: a)) (hb : GoodIn big b) : GoodIn big (c :: (a ++ b)) := fun w h => (List.mem_cons.mp h).elim (fun e => ha w (List.mem_cons.mpr (Or.inl e))) (fun h => (List.mem_append.mp h).elim (fun h => ha w (List.mem_cons.mpr (Or.inr h))) (hb w))
theorem goodIn_sub {big ws : List Cond} (hm : ∀ w ∈ ws, w ∈ big) (h : ws.all goodWord = true) : GoodIn big ws := fun w hw => ⟨hm w hw, good_of_word (List.all_eq_true.mp h w hw)⟩
/-! ===== END ===== -/

/-! ===== BEGIN printed: names, fields, word lists, decode rows ===== -/
def RX0 : String := "CostChoices$Graph"
def TX0 : u_T := fun k => match k with
  | 0 => ("CostChoices$Graph", "nodes", "I", false)
  | 1 => ("CostChoices$Graph", "choices", "[I", true)
  | 2 => ("CostChoices$Graph", "kinds", "[I", true)
  | 3 => ("CostChoices$Graph", "pins", "[I", true)
  | 4 => ("CostChoices$Graph", "mates", "[I", true)
  | 5 => ("CostChoices$Graph", "own", "[I", true)
  | _ => ("CostChoices$Graph", "figures", "[I", true)
def tyX0 : Nat → FieldType := fun k => match k with
  | 0 => .int
  | 1 => .array .int
  | 2 => .array .int
  | 3 => .array .int
  | 4 => .array .int
  | 5 => .array .int
  | _ => .array .int
abbrev wsX00 : List Cond := u_ws RX0 TX0 7
theorem nmX0 : ∀ a, a < 7 → ∀ b, b < 7 → a ≠ b → (TX0 a).2.1 ≠ (TX0 b).2.1 := by decide +kernel
theorem tyX0_ok : ∀ k, k < 7 → parseFieldDescriptor (TX0 k).2.2.1 = some (tyX0 k) := by decide +kernel
abbrev cX0_init : ByteArray := prog_2_method_1_code
def yX0_init : MethodName := ⟨RX0, "<init>", "()V"⟩
abbrev cX0_copyFrom : ByteArray := prog_2_method_2_code
def yX0_copyFrom : MethodName := ⟨RX0, "copyFrom", "(LCostChoices$Graph;)V"⟩
abbrev cX0_addNode : ByteArray := prog_2_method_3_code
def yX0_addNode : MethodName := ⟨RX0, "addNode", "(II)V"⟩
abbrev cX0_areTied : ByteArray := prog_2_method_4_code
def yX0_areTied : MethodName := ⟨RX0, "areTied", "(II)Z"⟩
abbrev cX0_tieCount : ByteArray := prog_2_method_5_code
def yX0_tieCount : MethodName := ⟨RX0, "tieCount", "()I"⟩
abbrev cX0_pinCount : ByteArray := prog_2_method_6_code
def yX0_pinCount : MethodName := ⟨RX0, "pinCount", "()I"⟩
abbrev cX0_choiceCost : ByteArray := prog_2_method_7_code
def yX0_choiceCost : MethodName := ⟨RX0, "choiceCost", "(II)I"⟩
abbrev cX0_tieCost : ByteArray := prog_2_method_8_code
def yX0_tieCost : MethodName := ⟨RX0, "tieCost", "(IIII)I"⟩
def RX1 : String := "CostChoices$Reader"
def TX1 : u_T := fun k => match k with
  | 0 => ("CostChoices$Reader", "letters", "[C", true)
  | 1 => ("CostChoices$Reader", "into", "LCostChoices$Graph;", true)
  | 2 => ("CostChoices$Reader", "length", "I", false)
  | _ => ("CostChoices$Reader", "at", "I", false)
def tyX1 : Nat → FieldType := fun k => match k with
  | 0 => .array .char
  | 1 => .object "CostChoices$Graph"
  | 2 => .int
  | _ => .int
abbrev wsX10 : List Cond := u_ws RX1 TX1 4
theorem nmX1 : ∀ a, a < 4 → ∀ b, b < 4 → a ≠ b → (TX1 a).2.1 ≠ (TX1 b).2.1 := by decide +kernel
theorem tyX1_ok : ∀ k, k < 4 → parseFieldDescriptor (TX1 k).2.2.1 = some (tyX1 k) := by decide +kernel
abbrev cX1_init : ByteArray := prog_3_method_1_code
def yX1_init : MethodName := ⟨RX1, "<init>", "([CLCostChoices$Graph;)V"⟩
abbrev cX1_read : ByteArray := prog_3_method_2_code
def yX1_read : MethodName := ⟨RX1, "read", "(I)I"⟩
abbrev cX1_readItem : ByteArray := prog_3_method_3_code
def yX1_readItem : MethodName := ⟨RX1, "readItem", "()Z"⟩
abbrev cX1_readNode : ByteArray := prog_3_method_4_code
def yX1_readNode : MethodName := ⟨RX1, "readNode", "()Z"⟩
abbrev cX1_readTie : ByteArray := prog_3_method_5_code
def yX1_readTie : MethodName := ⟨RX1, "readTie", "()Z"⟩
abbrev cX1_readTable : ByteArray := prog_3_method_6_code
def yX1_readTable : MethodName := ⟨RX1, "readTable", "(II)Z"⟩
abbrev cX1_takes : ByteArray := prog_3_method_7_code
def yX1_takes : MethodName := ⟨RX1, "takes", "(C)Z"⟩
abbrev cX1_readNumber : ByteArray := prog_3_method_8_code
def yX1_readNumber : MethodName := ⟨RX1, "readNumber", "()I"⟩
abbrev cX1_readFigure : ByteArray := prog_3_method_9_code
def yX1_readFigure : MethodName := ⟨RX1, "readFigure", "()I"⟩
def RX2 : String := "CostChoices$Reduction"
def TX2 : u_T := fun k => match k with
  | 0 => ("CostChoices$Reduction", "order", "[I", true)
  | 1 => ("CostChoices$Reduction", "rules", "[I", true)
  | 2 => ("CostChoices$Reduction", "taken", "[I", true)
  | 3 => ("CostChoices$Reduction", "guessed", "Z", false)
  | 4 => ("CostChoices$Reduction", "besides", "[I", true)
  | 5 => ("CostChoices$Reduction", "weights", "LCostChoices$Weights;", true)
  | _ => ("CostChoices$Reduction", "left", "I", false)
def tyX2 : Nat → FieldType := fun k => match k with
  | 0 => .array .int
  | 1 => .array .int
  | 2 => .array .int
  | 3 => .boolean
  | 4 => .array .int
  | 5 => .object "CostChoices$Weights"
  | _ => .int
abbrev wsX20 : List Cond := u_ws RX2 TX2 7
theorem nmX2 : ∀ a, a < 7 → ∀ b, b < 7 → a ≠ b → (TX2 a).2.1 ≠ (TX2 b).2.1 := by decide +kernel
theorem tyX2_ok : ∀ k, k < 7 → parseFieldDescriptor (TX2 k).2.2.1 = some (tyX2 k) := by decide +kernel
abbrev cX2_init : ByteArray := prog_4_method_1_code
def yX2_init : MethodName := ⟨RX2, "<init>", "()V"⟩
abbrev cX2_run : ByteArray := prog_4_method_2_code
def yX2_run : MethodName := ⟨RX2, "run", "(LCostChoices$Graph;)V"⟩
abbrev cX2_matesLeft : ByteArray := prog_4_method_3_code
def yX2_matesLeft : MethodName := ⟨RX2, "matesLeft", "(I)I"⟩
abbrev cX2_nextNode : ByteArray := prog_4_method_4_code
def yX2_nextNode : MethodName := ⟨RX2, "nextNode", "()I"⟩
abbrev cX2_comesAhead : ByteArray := prog_4_method_5_code
def yX2_comesAhead : MethodName := ⟨RX2, "comesAhead", "(II)Z"⟩
abbrev cX2_foldIntoOne : ByteArray := prog_4_method_6_code
def yX2_foldIntoOne : MethodName := ⟨RX2, "foldIntoOne", "(II)V"⟩
abbrev cX2_foldIntoTwo : ByteArray := prog_4_method_7_code
def yX2_foldIntoTwo : MethodName := ⟨RX2, "foldIntoTwo", "(III)V"⟩
abbrev cX2_guess : ByteArray := prog_4_method_8_code
def yX2_guess : MethodName := ⟨RX2, "guess", "(II)V"⟩
abbrev cX2_outlook : ByteArray := prog_4_method_9_code
def yX2_outlook : MethodName := ⟨RX2, "outlook", "(III)I"⟩
abbrev cX2_readOff : ByteArray := prog_4_method_10_code
def yX2_readOff : MethodName := ⟨RX2, "readOff", "()V"⟩
abbrev cX2_firstLeast : ByteArray := prog_4_method_11_code
def yX2_firstLeast : MethodName := ⟨RX2, "firstLeast", "(II)I"⟩
def RX3 : String := "CostChoices$Search"
def TX3 : u_T := fun k => match k with
  | 0 => ("CostChoices$Search", "best", "I", false)
  | 1 => ("CostChoices$Search", "next", "I", false)
  | 2 => ("CostChoices$Search", "ways", "I", false)
  | 3 => ("CostChoices$Search", "same", "I", false)
  | 4 => ("CostChoices$Search", "firstPlan", "[I", true)
  | 5 => ("CostChoices$Search", "chosen", "[I", true)
  | 6 => ("CostChoices$Search", "rest", "[I", true)
  | 7 => ("CostChoices$Search", "weights", "LCostChoices$Weights;", true)
  | _ => ("CostChoices$Search", "bestAlone", "Z", true)
def tyX3 : Nat → FieldType := fun k => match k with
  | 0 => .int
  | 1 => .int
  | 2 => .int
  | 3 => .int
  | 4 => .array .int
  | 5 => .array .int
  | 6 => .array .int
  | 7 => .object "CostChoices$Weights"
  | _ => .boolean
abbrev wsX30 : List Cond := u_ws RX3 TX3 9
theorem nmX3 : ∀ a, a < 9 → ∀ b, b < 9 → a ≠ b → (TX3 a).2.1 ≠ (TX3 b).2.1 := by decide +kernel
theorem tyX3_ok : ∀ k, k < 9 → parseFieldDescriptor (TX3 k).2.2.1 = some (tyX3 k) := by decide +kernel
abbrev cX3_init : ByteArray := prog_5_method_1_code
def yX3_init : MethodName := ⟨RX3, "<init>", "(LCostChoices$Weights;Z)V"⟩
abbrev cX3_run : ByteArray := prog_5_method_2_code
def yX3_run : MethodName := ⟨RX3, "run", "()V"⟩
abbrev cX3_tryFrom : ByteArray := prog_5_method_3_code
def yX3_tryFrom : MethodName := ⟨RX3, "tryFrom", "(II)V"⟩
abbrev cX3_takeIn : ByteArray := prog_5_method_4_code
def yX3_takeIn : MethodName := ⟨RX3, "takeIn", "(I)V"⟩
abbrev cX3_likeFirst : ByteArray := prog_5_method_5_code
def yX3_likeFirst : MethodName := ⟨RX3, "likeFirst", "()I"⟩
def RX4 : String := "CostChoices$Weights"
def TX4 : u_T := fun k => match k with
  | 0 => ("CostChoices$Weights", "nodes", "I", false)
  | 1 => ("CostChoices$Weights", "choices", "[I", true)
  | 2 => ("CostChoices$Weights", "mates", "[I", true)
  | 3 => ("CostChoices$Weights", "costs", "[I", true)
  | _ => ("CostChoices$Weights", "entries", "[I", true)
def tyX4 : Nat → FieldType := fun k => match k with
  | 0 => .int
  | 1 => .array .int
  | 2 => .array .int
  | 3 => .array .int
  | _ => .array .int
abbrev wsX40 : List Cond := u_ws RX4 TX4 5
theorem nmX4 : ∀ a, a < 5 → ∀ b, b < 5 → a ≠ b → (TX4 a).2.1 ≠ (TX4 b).2.1 := by decide +kernel
theorem tyX4_ok : ∀ k, k < 5 → parseFieldDescriptor (TX4 k).2.2.1 = some (tyX4 k) := by decide +kernel
abbrev cX4_init : ByteArray := prog_6_method_1_code
def yX4_init : MethodName := ⟨RX4, "<init>", "()V"⟩
abbrev cX4_weigh : ByteArray := prog_6_method_2_code
def yX4_weigh : MethodName := ⟨RX4, "weigh", "(LCostChoices$Graph;)V"⟩
abbrev cX4_weighTable : ByteArray := prog_6_method_3_code
def yX4_weighTable : MethodName := ⟨RX4, "weighTable", "(LCostChoices$Graph;II)V"⟩
abbrev cX4_areTied : ByteArray := prog_6_method_4_code
def yX4_areTied : MethodName := ⟨RX4, "areTied", "(II)Z"⟩
abbrev cX4_costAt : ByteArray := prog_6_method_5_code
def yX4_costAt : MethodName := ⟨RX4, "costAt", "(II)I"⟩
abbrev cX4_entryAt : ByteArray := prog_6_method_6_code
def yX4_entryAt : MethodName := ⟨RX4, "entryAt", "(IIII)I"⟩
abbrev cX4_addCost : ByteArray := prog_6_method_7_code
def yX4_addCost : MethodName := ⟨RX4, "addCost", "(III)V"⟩
abbrev cX4_addEntry : ByteArray := prog_6_method_8_code
def yX4_addEntry : MethodName := ⟨RX4, "addEntry", "(IIIII)V"⟩
abbrev cX4_allowOnly : ByteArray := prog_6_method_9_code
def yX4_allowOnly : MethodName := ⟨RX4, "allowOnly", "(II)V"⟩
abbrev cX4_costBeside : ByteArray := prog_6_method_10_code
def yX4_costBeside : MethodName := ⟨RX4, "costBeside", "(III[I)I"⟩
abbrev cX4_planCost : ByteArray := prog_6_method_11_code
def yX4_planCost : MethodName := ⟨RX4, "planCost", "([I)I"⟩
abbrev cX4_matesBelow : ByteArray := prog_6_method_12_code
def yX4_matesBelow : MethodName := ⟨RX4, "matesBelow", "(I)I"⟩
abbrev cX4_leastAcross : ByteArray := prog_6_method_13_code
def yX4_leastAcross : MethodName := ⟨RX4, "leastAcross", "(III)I"⟩
abbrev cX4_leastCost : ByteArray := prog_6_method_14_code
def yX4_leastCost : MethodName := ⟨RX4, "leastCost", "(I)I"⟩
abbrev cX4_leastEntry : ByteArray := prog_6_method_15_code
def yX4_leastEntry : MethodName := ⟨RX4, "leastEntry", "(II)I"⟩
abbrev cX4_bound : ByteArray := prog_6_method_16_code
def yX4_bound : MethodName := ⟨RX4, "bound", "()I"⟩
def RX5 : String := "CostChoices"
def TX5 : u_T := fun k => match k with
  | 0 => ("CostChoices", "text", "[C", true)
  | 1 => ("CostChoices", "textLength", "I", false)
  | 2 => ("CostChoices", "graph", "LCostChoices$Graph;", true)
  | 3 => ("CostChoices", "draft", "LCostChoices$Graph;", true)
  | 4 => ("CostChoices", "reader", "LCostChoices$Reader;", true)
  | 5 => ("CostChoices", "past", "[LCostChoices$Graph;", true)
  | 6 => ("CostChoices", "pastCount", "I", false)
  | 7 => ("CostChoices", "kept", "[LCostChoices$Graph;", true)
  | 8 => ("CostChoices", "keptCount", "I", false)
  | 9 => ("CostChoices", "standing", "LCostChoices$Weights;", true)
  | 10 => ("CostChoices", "altered", "LCostChoices$Weights;", true)
  | 11 => ("CostChoices", "reduction", "LCostChoices$Reduction;", true)
  | 12 => ("CostChoices", "search", "LCostChoices$Search;", true)
  | 13 => ("CostChoices", "alteredSearch", "LCostChoices$Search;", true)
  | 14 => ("CostChoices", "weighed", "Z", false)
  | 15 => ("CostChoices", "reductionRun", "Z", false)
  | _ => ("CostChoices", "searchRun", "Z", false)
def tyX5 : Nat → FieldType := fun k => match k with
  | 0 => .array .char
  | 1 => .int
  | 2 => .object "CostChoices$Graph"
  | 3 => .object "CostChoices$Graph"
  | 4 => .object "CostChoices$Reader"
  | 5 => .array (.object "CostChoices$Graph")
  | 6 => .int
  | 7 => .array (.object "CostChoices$Graph")
  | 8 => .int
  | 9 => .object "CostChoices$Weights"
  | 10 => .object "CostChoices$Weights"
  | 11 => .object "CostChoices$Reduction"
  | 12 => .object "CostChoices$Search"
  | 13 => .object "CostChoices$Search"
  | 14 => .boolean
  | 15 => .boolean
  | _ => .boolean
abbrev wsX50 : List Cond := u_ws RX5 TX5 17
theorem nmX5 : ∀ a, a < 17 → ∀ b, b < 17 → a ≠ b → (TX5 a).2.1 ≠ (TX5 b).2.1 := by decide +kernel
theorem tyX5_ok : ∀ k, k < 17 → parseFieldDescriptor (TX5 k).2.2.1 = some (tyX5 k) := by decide +kernel
abbrev cX5_init : ByteArray := prog_1_method_1_code
def yX5_init : MethodName := ⟨RX5, "<init>", "()V"⟩
abbrev cX5_write : ByteArray := prog_1_method_2_code
def yX5_write : MethodName := ⟨RX5, "write", "(I)I"⟩
abbrev cX5_wipe : ByteArray := prog_1_method_3_code
def yX5_wipe : MethodName := ⟨RX5, "wipe", "()I"⟩
abbrev cX5_fault : ByteArray := prog_1_method_4_code
def yX5_fault : MethodName := ⟨RX5, "fault", "()I"⟩
abbrev cX5_lay : ByteArray := prog_1_method_5_code
def yX5_lay : MethodName := ⟨RX5, "lay", "()I"⟩
abbrev cX5_node : ByteArray := prog_1_method_6_code
def yX5_node : MethodName := ⟨RX5, "node", "(II)I"⟩
abbrev cX5_cost : ByteArray := prog_1_method_7_code
def yX5_cost : MethodName := ⟨RX5, "cost", "(II)I"⟩
abbrev cX5_tie : ByteArray := prog_1_method_8_code
def yX5_tie : MethodName := ⟨RX5, "tie", "(IIII)I"⟩
abbrev cX5_price : ByteArray := prog_1_method_9_code
def yX5_price : MethodName := ⟨RX5, "price", "(III)I"⟩
abbrev cX5_table : ByteArray := prog_1_method_10_code
def yX5_table : MethodName := ⟨RX5, "table", "(IIIII)I"⟩
abbrev cX5_loose : ByteArray := prog_1_method_11_code
def yX5_loose : MethodName := ⟨RX5, "loose", "(II)I"⟩
abbrev cX5_pin : ByteArray := prog_1_method_12_code
def yX5_pin : MethodName := ⟨RX5, "pin", "(II)I"⟩
abbrev cX5_rename : ByteArray := prog_1_method_13_code
def yX5_rename : MethodName := ⟨RX5, "rename", "(II)I"⟩
abbrev cX5_undo : ByteArray := prog_1_method_14_code
def yX5_undo : MethodName := ⟨RX5, "undo", "()I"⟩
abbrev cX5_turn : ByteArray := prog_1_method_15_code
def yX5_turn : MethodName := ⟨RX5, "turn", "(II)I"⟩
abbrev cX5_reduced : ByteArray := prog_1_method_16_code
def yX5_reduced : MethodName := ⟨RX5, "reduced", "(I)I"⟩
abbrev cX5_plan : ByteArray := prog_1_method_17_code
def yX5_plan : MethodName := ⟨RX5, "plan", "(I)I"⟩
abbrev cX5_least : ByteArray := prog_1_method_18_code
def yX5_least : MethodName := ⟨RX5, "least", "(I)I"⟩
abbrev cX5_first : ByteArray := prog_1_method_19_code
def yX5_first : MethodName := ⟨RX5, "first", "(I)I"⟩
abbrev cX5_with : ByteArray := prog_1_method_20_code
def yX5_with : MethodName := ⟨RX5, "with", "(II)I"⟩
abbrev cX5_without : ByteArray := prog_1_method_21_code
def yX5_without : MethodName := ⟨RX5, "without", "(II)I"⟩
abbrev cX5_keep : ByteArray := prog_1_method_22_code
def yX5_keep : MethodName := ⟨RX5, "keep", "()I"⟩
abbrev cX5_back : ByteArray := prog_1_method_23_code
def yX5_back : MethodName := ⟨RX5, "back", "()I"⟩
abbrev cX5_count : ByteArray := prog_1_method_24_code
def yX5_count : MethodName := ⟨RX5, "count", "(I)I"⟩
abbrev cX5_isNode : ByteArray := prog_1_method_25_code
def yX5_isNode : MethodName := ⟨RX5, "isNode", "(I)Z"⟩
abbrev cX5_isChoice : ByteArray := prog_1_method_26_code
def yX5_isChoice : MethodName := ⟨RX5, "isChoice", "(II)Z"⟩
abbrev cX5_pinnedTo : ByteArray := prog_1_method_27_code
def yX5_pinnedTo : MethodName := ⟨RX5, "pinnedTo", "(I)I"⟩
abbrev cX5_beginAct : ByteArray := prog_1_method_28_code
def yX5_beginAct : MethodName := ⟨RX5, "beginAct", "()V"⟩
abbrev cX5_dropOldest : ByteArray := prog_1_method_29_code
def yX5_dropOldest : MethodName := ⟨RX5, "dropOldest", "()V"⟩
abbrev cX5_forgetAnswers : ByteArray := prog_1_method_30_code
def yX5_forgetAnswers : MethodName := ⟨RX5, "forgetAnswers", "()V"⟩
abbrev cX5_bringWeights : ByteArray := prog_1_method_31_code
def yX5_bringWeights : MethodName := ⟨RX5, "bringWeights", "()V"⟩
abbrev cX5_bringReduction : ByteArray := prog_1_method_32_code
def yX5_bringReduction : MethodName := ⟨RX5, "bringReduction", "()V"⟩
abbrev cX5_bringSearch : ByteArray := prog_1_method_33_code
def yX5_bringSearch : MethodName := ⟨RX5, "bringSearch", "()V"⟩
abbrev cX5_isWithin : ByteArray := prog_1_method_34_code
def yX5_isWithin : MethodName := ⟨RX5, "isWithin", "(III)Z"⟩
abbrev cX5_capped : ByteArray := prog_1_method_35_code
def yX5_capped : MethodName := ⟨RX5, "capped", "(I)I"⟩
abbrev cX5_choicePlace : ByteArray := prog_1_method_36_code
def yX5_choicePlace : MethodName := ⟨RX5, "choicePlace", "(II)I"⟩
abbrev cX5_entryPlace : ByteArray := prog_1_method_37_code
def yX5_entryPlace : MethodName := ⟨RX5, "entryPlace", "(IIII)I"⟩
abbrev cX5_hasBit : ByteArray := prog_1_method_38_code
def yX5_hasBit : MethodName := ⟨RX5, "hasBit", "(II)Z"⟩
abbrev cX5_joinByNoughts : ByteArray := prog_1_method_39_code
def yX5_joinByNoughts : MethodName := ⟨RX5, "joinByNoughts", "([I[III)V"⟩
abbrev cX5_part : ByteArray := prog_1_method_40_code
def yX5_part : MethodName := ⟨RX5, "part", "([III)V"⟩
abbrev cX5_copyRow : ByteArray := prog_1_method_41_code
def yX5_copyRow : MethodName := ⟨RX5, "copyRow", "([I[I)V"⟩
def RX6 : String := "CostChoicesModel"
def TX6 : u_T := fun k => match k with
  | 0 => ("CostChoicesModel", "length", "I", false)
  | 1 => ("CostChoicesModel", "text", "[I", true)
  | 2 => ("CostChoicesModel", "nodes", "I", false)
  | 3 => ("CostChoicesModel", "many", "[I", true)
  | 4 => ("CostChoicesModel", "readNodes", "I", false)
  | 5 => ("CostChoicesModel", "readMany", "[I", true)
  | 6 => ("CostChoicesModel", "read", "[I", true)
  | 7 => ("CostChoicesModel", "now", "[I", true)
  | 8 => ("CostChoicesModel", "before", "[I", true)
  | 9 => ("CostChoicesModel", "undoMany", "I", false)
  | 10 => ("CostChoicesModel", "kept", "[I", true)
  | 11 => ("CostChoicesModel", "keptMany", "I", false)
  | 12 => ("CostChoicesModel", "spot", "I", false)
  | 13 => ("CostChoicesModel", "number", "I", false)
  | 14 => ("CostChoicesModel", "costs", "[I", true)
  | 15 => ("CostChoicesModel", "tables", "[I", true)
  | 16 => ("CostChoicesModel", "tied", "[I", true)
  | 17 => ("CostChoicesModel", "order", "[I", true)
  | 18 => ("CostChoicesModel", "rules", "[I", true)
  | 19 => ("CostChoicesModel", "with", "[I", true)
  | 20 => ("CostChoicesModel", "takes", "[I", true)
  | 21 => ("CostChoicesModel", "leastAll", "I", false)
  | 22 => ("CostChoicesModel", "ways", "I", false)
  | 23 => ("CostChoicesModel", "nextAll", "I", false)
  | 24 => ("CostChoicesModel", "firstTakes", "[I", true)
  | 25 => ("CostChoicesModel", "sameTakes", "[I", true)
  | _ => ("CostChoicesModel", "held", "[I", true)
def tyX6 : Nat → FieldType := fun k => match k with
  | 0 => .int
  | 1 => .array .int
  | 2 => .int
  | 3 => .array .int
  | 4 => .int
  | 5 => .array .int
  | 6 => .array .int
  | 7 => .array .int
  | 8 => .array .int
  | 9 => .int
  | 10 => .array .int
  | 11 => .int
  | 12 => .int
  | 13 => .int
  | 14 => .array .int
  | 15 => .array .int
  | 16 => .array .int
  | 17 => .array .int
  | 18 => .array .int
  | 19 => .array .int
  | 20 => .array .int
  | 21 => .int
  | 22 => .int
  | 23 => .int
  | 24 => .array .int
  | 25 => .array .int
  | _ => .array .int
abbrev wsX60 : List Cond := u_ws RX6 TX6 27
theorem nmX6 : ∀ a, a < 27 → ∀ b, b < 27 → a ≠ b → (TX6 a).2.1 ≠ (TX6 b).2.1 := by decide +kernel
theorem tyX6_ok : ∀ k, k < 27 → parseFieldDescriptor (TX6 k).2.2.1 = some (tyX6 k) := by decide +kernel
abbrev cX6_init : ByteArray := prog_8_method_1_code
def yX6_init : MethodName := ⟨RX6, "<init>", "()V"⟩
abbrev cX6_in : ByteArray := prog_8_method_2_code
def yX6_in : MethodName := ⟨RX6, "in", "(JJJ)Z"⟩
abbrev cX6_readNone : ByteArray := prog_8_method_3_code
def yX6_readNone : MethodName := ⟨RX6, "readNone", "()V"⟩
abbrev cX6_nodeIs : ByteArray := prog_8_method_4_code
def yX6_nodeIs : MethodName := ⟨RX6, "nodeIs", "(IIIII)V"⟩
abbrev cX6_entryAt : ByteArray := prog_8_method_5_code
def yX6_entryAt : MethodName := ⟨RX6, "entryAt", "(IIII)I"⟩
abbrev cX6_tableIs : ByteArray := prog_8_method_6_code
def yX6_tableIs : MethodName := ⟨RX6, "tableIs", "(III)V"⟩
abbrev cX6_write : ByteArray := prog_8_method_7_code
def yX6_write : MethodName := ⟨RX6, "write", "(I)I"⟩
abbrev cX6_wipe : ByteArray := prog_8_method_8_code
def yX6_wipe : MethodName := ⟨RX6, "wipe", "()I"⟩
abbrev cX6_letterAt : ByteArray := prog_8_method_9_code
def yX6_letterAt : MethodName := ⟨RX6, "letterAt", "(I)I"⟩
abbrev cX6_isNumber : ByteArray := prog_8_method_10_code
def yX6_isNumber : MethodName := ⟨RX6, "isNumber", "()Z"⟩
abbrev cX6_nodeItem : ByteArray := prog_8_method_11_code
def yX6_nodeItem : MethodName := ⟨RX6, "nodeItem", "()Z"⟩
abbrev cX6_tieItem : ByteArray := prog_8_method_12_code
def yX6_tieItem : MethodName := ⟨RX6, "tieItem", "()Z"⟩
abbrev cX6_tiesIn : ByteArray := prog_8_method_13_code
def yX6_tiesIn : MethodName := ⟨RX6, "tiesIn", "([I)I"⟩
abbrev cX6_readAll : ByteArray := prog_8_method_14_code
def yX6_readAll : MethodName := ⟨RX6, "readAll", "()I"⟩
abbrev cX6_fault : ByteArray := prog_8_method_15_code
def yX6_fault : MethodName := ⟨RX6, "fault", "()I"⟩
abbrev cX6_lay : ByteArray := prog_8_method_16_code
def yX6_lay : MethodName := ⟨RX6, "lay", "()I"⟩
abbrev cX6_begin : ByteArray := prog_8_method_17_code
def yX6_begin : MethodName := ⟨RX6, "begin", "()V"⟩
abbrev cX6_isNode : ByteArray := prog_8_method_18_code
def yX6_isNode : MethodName := ⟨RX6, "isNode", "(I)Z"⟩
abbrev cX6_isChoice : ByteArray := prog_8_method_19_code
def yX6_isChoice : MethodName := ⟨RX6, "isChoice", "(II)Z"⟩
abbrev cX6_isPair : ByteArray := prog_8_method_20_code
def yX6_isPair : MethodName := ⟨RX6, "isPair", "(II)Z"⟩
abbrev cX6_isTied : ByteArray := prog_8_method_21_code
def yX6_isTied : MethodName := ⟨RX6, "isTied", "(II)Z"⟩
abbrev cX6_atMost : ByteArray := prog_8_method_22_code
def yX6_atMost : MethodName := ⟨RX6, "atMost", "(I)I"⟩
abbrev cX6_costOf : ByteArray := prog_8_method_23_code
def yX6_costOf : MethodName := ⟨RX6, "costOf", "(II)I"⟩
abbrev cX6_tieOf : ByteArray := prog_8_method_24_code
def yX6_tieOf : MethodName := ⟨RX6, "tieOf", "(IIII)I"⟩
abbrev cX6_tiedMany : ByteArray := prog_8_method_25_code
def yX6_tiedMany : MethodName := ⟨RX6, "tiedMany", "(I)I"⟩
abbrev cX6_node : ByteArray := prog_8_method_26_code
def yX6_node : MethodName := ⟨RX6, "node", "(II)I"⟩
abbrev cX6_cost : ByteArray := prog_8_method_27_code
def yX6_cost : MethodName := ⟨RX6, "cost", "(II)I"⟩
abbrev cX6_tie : ByteArray := prog_8_method_28_code
def yX6_tie : MethodName := ⟨RX6, "tie", "(IIII)I"⟩
abbrev cX6_note : ByteArray := prog_8_method_29_code
def yX6_note : MethodName := ⟨RX6, "note", "()V"⟩
abbrev cX6_price : ByteArray := prog_8_method_30_code
def yX6_price : MethodName := ⟨RX6, "price", "(III)I"⟩
abbrev cX6_table : ByteArray := prog_8_method_31_code
def yX6_table : MethodName := ⟨RX6, "table", "(IIIII)I"⟩
abbrev cX6_loose : ByteArray := prog_8_method_32_code
def yX6_loose : MethodName := ⟨RX6, "loose", "(II)I"⟩
abbrev cX6_looseNow : ByteArray := prog_8_method_33_code
def yX6_looseNow : MethodName := ⟨RX6, "looseNow", "(II)V"⟩
abbrev cX6_pin : ByteArray := prog_8_method_34_code
def yX6_pin : MethodName := ⟨RX6, "pin", "(II)I"⟩
abbrev cX6_rename : ByteArray := prog_8_method_35_code
def yX6_rename : MethodName := ⟨RX6, "rename", "(II)I"⟩
abbrev cX6_undo : ByteArray := prog_8_method_36_code
def yX6_undo : MethodName := ⟨RX6, "undo", "()I"⟩
abbrev cX6_tableAt : ByteArray := prog_8_method_37_code
def yX6_tableAt : MethodName := ⟨RX6, "tableAt", "(IIII)I"⟩
abbrev cX6_aside : ByteArray := prog_8_method_38_code
def yX6_aside : MethodName := ⟨RX6, "aside", "()V"⟩
abbrev cX6_ones : ByteArray := prog_8_method_39_code
def yX6_ones : MethodName := ⟨RX6, "ones", "(I)I"⟩
abbrev cX6_has : ByteArray := prog_8_method_40_code
def yX6_has : MethodName := ⟨RX6, "has", "(II)Z"⟩
abbrev cX6_isAhead : ByteArray := prog_8_method_41_code
def yX6_isAhead : MethodName := ⟨RX6, "isAhead", "(II)Z"⟩
abbrev cX6_nextOf : ByteArray := prog_8_method_42_code
def yX6_nextOf : MethodName := ⟨RX6, "nextOf", "(I)I"⟩
abbrev cX6_nthOf : ByteArray := prog_8_method_43_code
def yX6_nthOf : MethodName := ⟨RX6, "nthOf", "(II)I"⟩
abbrev cX6_ruleOne : ByteArray := prog_8_method_44_code
def yX6_ruleOne : MethodName := ⟨RX6, "ruleOne", "(II)V"⟩
abbrev cX6_ruleTwo : ByteArray := prog_8_method_45_code
def yX6_ruleTwo : MethodName := ⟨RX6, "ruleTwo", "(III)V"⟩
abbrev cX6_leastBeside : ByteArray := prog_8_method_46_code
def yX6_leastBeside : MethodName := ⟨RX6, "leastBeside", "(III)I"⟩
abbrev cX6_ruleThree : ByteArray := prog_8_method_47_code
def yX6_ruleThree : MethodName := ⟨RX6, "ruleThree", "(I)V"⟩
abbrev cX6_reduceAll : ByteArray := prog_8_method_48_code
def yX6_reduceAll : MethodName := ⟨RX6, "reduceAll", "()V"⟩
abbrev cX6_takeBest : ByteArray := prog_8_method_49_code
def yX6_takeBest : MethodName := ⟨RX6, "takeBest", "(II)V"⟩
abbrev cX6_planCost : ByteArray := prog_8_method_50_code
def yX6_planCost : MethodName := ⟨RX6, "planCost", "()I"⟩
abbrev cX6_turn : ByteArray := prog_8_method_51_code
def yX6_turn : MethodName := ⟨RX6, "turn", "(II)I"⟩
abbrev cX6_reduced : ByteArray := prog_8_method_52_code
def yX6_reduced : MethodName := ⟨RX6, "reduced", "(I)I"⟩
abbrev cX6_plan : ByteArray := prog_8_method_53_code
def yX6_plan : MethodName := ⟨RX6, "plan", "(I)I"⟩
abbrev cX6_goAll : ByteArray := prog_8_method_54_code
def yX6_goAll : MethodName := ⟨RX6, "goAll", "(II)V"⟩
abbrev cX6_meetPlan : ByteArray := prog_8_method_55_code
def yX6_meetPlan : MethodName := ⟨RX6, "meetPlan", "(I)V"⟩
abbrev cX6_sameSet : ByteArray := prog_8_method_56_code
def yX6_sameSet : MethodName := ⟨RX6, "sameSet", "()I"⟩
abbrev cX6_bound : ByteArray := prog_8_method_57_code
def yX6_bound : MethodName := ⟨RX6, "bound", "()I"⟩
abbrev cX6_least : ByteArray := prog_8_method_58_code
def yX6_least : MethodName := ⟨RX6, "least", "(I)I"⟩
abbrev cX6_first : ByteArray := prog_8_method_59_code
def yX6_first : MethodName := ⟨RX6, "first", "(I)I"⟩
abbrev cX6_with : ByteArray := prog_8_method_60_code
def yX6_with : MethodName := ⟨RX6, "with", "(II)I"⟩
abbrev cX6_without : ByteArray := prog_8_method_61_code
def yX6_without : MethodName := ⟨RX6, "without", "(II)I"⟩
abbrev cX6_keep : ByteArray := prog_8_method_62_code
def yX6_keep : MethodName := ⟨RX6, "keep", "()I"⟩
abbrev cX6_back : ByteArray := prog_8_method_63_code
def yX6_back : MethodName := ⟨RX6, "back", "()I"⟩
abbrev cX6_pinned : ByteArray := prog_8_method_64_code
def yX6_pinned : MethodName := ⟨RX6, "pinned", "()I"⟩
abbrev cX6_count : ByteArray := prog_8_method_65_code
def yX6_count : MethodName := ⟨RX6, "count", "(I)I"⟩
def RJ6 : String := "java/lang/Integer"
def TJ6 : u_T := fun k => match k with
  | _ => ("", "", "", false)
def tyJ6 : Nat → FieldType := fun k => match k with
  | _ => .int
abbrev wsJ60 : List Cond := u_ws RJ6 TJ6 0
theorem nmJ6 : ∀ a, a < 0 → ∀ b, b < 0 → a ≠ b → (TJ6 a).2.1 ≠ (TJ6 b).2.1 := by decide +kernel
theorem tyJ6_ok : ∀ k, k < 0 → parseFieldDescriptor (TJ6 k).2.2.1 = some (tyJ6 k) := by decide +kernel
abbrev cJ6_numberOfTrailingZeros_0f7a4 : ByteArray := prog_9_method_48_code
def yJ6_numberOfTrailingZeros_0f7a4 : MethodName := ⟨RJ6, "numberOfTrailingZeros", "(I)I"⟩
abbrev cJ6_bitCount_0f7a4 : ByteArray := prog_9_method_49_code
def yJ6_bitCount_0f7a4 : MethodName := ⟨RJ6, "bitCount", "(I)I"⟩
def RJ9 : String := "java/lang/Math"
def TJ9 : u_T := fun k => match k with
  | _ => ("", "", "", false)
def tyJ9 : Nat → FieldType := fun k => match k with
  | _ => .int
abbrev wsJ90 : List Cond := u_ws RJ9 TJ9 0
theorem nmJ9 : ∀ a, a < 0 → ∀ b, b < 0 → a ≠ b → (TJ9 a).2.1 ≠ (TJ9 b).2.1 := by decide +kernel
theorem tyJ9_ok : ∀ k, k < 0 → parseFieldDescriptor (TJ9 k).2.2.1 = some (tyJ9 k) := by decide +kernel
abbrev cJ9_min_7cf53 : ByteArray := prog_10_method_69_code
def yJ9_min_7cf53 : MethodName := ⟨RJ9, "min", "(II)I"⟩
def RJ0 : String := "java/lang/String"
def TJ0 : u_T := fun k => match k with
  | _ => ("", "", "", false)
def tyJ0 : Nat → FieldType := fun k => match k with
  | _ => .int
abbrev wsJ00 : List Cond := u_ws RJ0 TJ0 0
theorem nmJ0 : ∀ a, a < 0 → ∀ b, b < 0 → a ≠ b → (TJ0 a).2.1 ≠ (TJ0 b).2.1 := by decide +kernel
theorem tyJ0_ok : ∀ k, k < 0 → parseFieldDescriptor (TJ0 k).2.2.1 = some (tyJ0 k) := by decide +kernel
abbrev cJ0_length_8abf5 : ByteArray := prog_11_method_54_code
def yJ0_length_8abf5 : MethodName := ⟨RJ0, "length", "()I"⟩
abbrev cJ0_charAt_5068e : ByteArray := prog_11_method_56_code
def yJ0_charAt_5068e : MethodName := ⟨RJ0, "charAt", "(I)C"⟩
abbrev cJ0_coder_7d493 : ByteArray := prog_11_method_152_code
def yJ0_coder_7d493 : MethodName := ⟨RJ0, "coder", "()B"⟩
abbrev cJ0_isLatin1_aae02 : ByteArray := prog_11_method_154_code
def yJ0_isLatin1_aae02 : MethodName := ⟨RJ0, "isLatin1", "()Z"⟩
abbrev cJ0_checkIndex_df160 : ByteArray := prog_11_method_155_code
def yJ0_checkIndex_df160 : MethodName := ⟨RJ0, "checkIndex", "(II)V"⟩
def RJ1 : String := "java/lang/StringLatin1"
def TJ1 : u_T := fun k => match k with
  | _ => ("", "", "", false)
def tyJ1 : Nat → FieldType := fun k => match k with
  | _ => .int
abbrev wsJ10 : List Cond := u_ws RJ1 TJ1 0
theorem nmJ1 : ∀ a, a < 0 → ∀ b, b < 0 → a ≠ b → (TJ1 a).2.1 ≠ (TJ1 b).2.1 := by decide +kernel
theorem tyJ1_ok : ∀ k, k < 0 → parseFieldDescriptor (TJ1 k).2.2.1 = some (tyJ1 k) := by decide +kernel
abbrev cJ1_charAt_3b067 : ByteArray := prog_12_method_2_code
def yJ1_charAt_3b067 : MethodName := ⟨RJ1, "charAt", "([BI)C"⟩
def RJ2 : String := "java/lang/StringUTF16"
def TJ2 : u_T := fun k => match k with
  | _ => ("", "", "", false)
def tyJ2 : Nat → FieldType := fun k => match k with
  | _ => .int
abbrev wsJ20 : List Cond := u_ws RJ2 TJ2 0
theorem nmJ2 : ∀ a, a < 0 → ∀ b, b < 0 → a ≠ b → (TJ2 a).2.1 ≠ (TJ2 b).2.1 := by decide +kernel
theorem tyJ2_ok : ∀ k, k < 0 → parseFieldDescriptor (TJ2 k).2.2.1 = some (tyJ2 k) := by decide +kernel
abbrev cJ2_getChar_3b067 : ByteArray := prog_13_method_5_code
def yJ2_getChar_3b067 : MethodName := ⟨RJ2, "getChar", "([BI)C"⟩
abbrev cJ2_length_9d52b : ByteArray := prog_13_method_6_code
def yJ2_length_9d52b : MethodName := ⟨RJ2, "length", "([B)I"⟩
abbrev cJ2_charAt_3b067 : ByteArray := prog_13_method_83_code
def yJ2_charAt_3b067 : MethodName := ⟨RJ2, "charAt", "([BI)C"⟩
abbrev cJ2_checkIndex_2214a : ByteArray := prog_13_method_91_code
def yJ2_checkIndex_2214a : MethodName := ⟨RJ2, "checkIndex", "(I[B)V"⟩
def RJ10 : String := "java/lang/System"
def TJ10 : u_T := fun k => match k with
  | _ => ("", "", "", false)
def tyJ10 : Nat → FieldType := fun k => match k with
  | _ => .int
abbrev wsJ100 : List Cond := u_ws RJ10 TJ10 0
theorem nmJ10 : ∀ a, a < 0 → ∀ b, b < 0 → a ≠ b → (TJ10 a).2.1 ≠ (TJ10 b).2.1 := by decide +kernel
theorem tyJ10_ok : ∀ k, k < 0 → parseFieldDescriptor (TJ10 k).2.2.1 = some (tyJ10 k) := by decide +kernel
def RJ3 : String := "jdk/internal/util/Preconditions"
def TJ3 : u_T := fun k => match k with
  | _ => ("", "", "", false)
def tyJ3 : Nat → FieldType := fun k => match k with
  | _ => .int
abbrev wsJ30 : List Cond := u_ws RJ3 TJ3 0
theorem nmJ3 : ∀ a, a < 0 → ∀ b, b < 0 → a ≠ b → (TJ3 a).2.1 ≠ (TJ3 b).2.1 := by decide +kernel
theorem tyJ3_ok : ∀ k, k < 0 → parseFieldDescriptor (TJ3 k).2.2.1 = some (tyJ3 k) := by decide +kernel
abbrev cJ3_checkIndex_8e157 : ByteArray := prog_15_method_11_code
def yJ3_checkIndex_8e157 : MethodName := ⟨RJ3, "checkIndex", "(IILjava/util/function/BiFunction;)I"⟩
def RL : String := "CostChoicesLaw"
abbrev cL_law : ByteArray := code
def yL_law : MethodName := ⟨RL, "law", "([I)Z"⟩
abbrev vwCl : List vw_C := [(RX0, TX0, 7), (RX1, TX1, 4), (RX2, TX2, 7), (RX3, TX3, 9), (RX4, TX4, 5), (RX5, TX5, 17), (RX6, TX6, 27)]
end
section
theorem dX0_init_0 : decode cX0_init 0 = .ok (.aload_n 0, 1) := by decide +kernel
theorem dX0_init_1 : decode cX0_init 1 = .ok (.invokespecial 3, 3) := by decide +kernel
theorem dX0_init_4 : decode cX0_init 4 = .ok (.aload_n 0, 1) := by decide +kernel
theorem dX0_init_5 : decode cX0_init 5 = .ok (.bipush 8, 2) := by decide +kernel
theorem dX0_init_7 : decode cX0_init 7 = .ok (.newarray .int, 2) := by decide +kernel
theorem dX0_init_9 : decode cX0_init 9 = .ok (.putfield 9, 3) := by decide +kernel
theorem dX0_init_12 : decode cX0_init 12 = .ok (.aload_n 0, 1) := by decide +kernel
theorem dX0_init_13 : decode cX0_init 13 = .ok (.bipush 8, 2) := by decide +kernel
theorem dX0_init_15 : decode cX0_init 15 = .ok (.newarray .int, 2) := by decide +kernel
theorem dX0_init_17 : decode cX0_init 17 = .ok (.putfield 15, 3) := by decide +kernel
theorem dX0_init_20 : decode cX0_init 20 = .ok (.aload_n 0, 1) := by decide +kernel
theorem dX0_init_21 : decode cX0_init 21 = .ok (.bipush 8, 2) := by decide +kernel
theorem dX0_init_23 : decode cX0_init 23 = .ok (.newarray .int, 2) := by decide +kernel
theorem dX0_init_25 : decode cX0_init 25 = .ok (.putfield 18, 3) := by decide +kernel
theorem dX0_init_28 : decode cX0_init 28 = .ok (.aload_n 0, 1) := by decide +kernel
theorem dX0_init_29 : decode cX0_init 29 = .ok (.bipush 8, 2) := by decide +kernel
theorem dX0_init_31 : decode cX0_init 31 = .ok (.newarray .int, 2) := by decide +kernel
theorem dX0_init_33 : decode cX0_init 33 = .ok (.putfield 21, 3) := by decide +kernel
theorem dX0_init_36 : decode cX0_init 36 = .ok (.aload_n 0, 1) := by decide +kernel
theorem dX0_init_37 : decode cX0_init 37 = .ok (.bipush 32, 2) := by decide +kernel
theorem dX0_init_39 : decode cX0_init 39 = .ok (.newarray .int, 2) := by decide +kernel
theorem dX0_init_41 : decode cX0_init 41 = .ok (.putfield 24, 3) := by decide +kernel
theorem dX0_init_44 : decode cX0_init 44 = .ok (.aload_n 0, 1) := by decide +kernel
theorem dX0_init_45 : decode cX0_init 45 = .ok (.sipush 448, 3) := by decide +kernel
theorem dX0_init_48 : decode cX0_init 48 = .ok (.newarray .int, 2) := by decide +kernel
theorem dX0_init_50 : decode cX0_init 50 = .ok (.putfield 27, 3) := by decide +kernel
theorem dX0_init_53 : decode cX0_init 53 = .ok (.return_, 1) := by decide +kernel
theorem dX0_copyFrom_0 : decode cX0_copyFrom 0 = .ok (.aload_n 0, 1) := by decide +kernel
theorem dX0_copyFrom_1 : decode cX0_copyFrom 1 = .ok (.aload_n 1, 1) := by decide +kernel
theorem dX0_copyFrom_2 : decode cX0_copyFrom 2 = .ok (.getfield 30, 3) := by decide +kernel
theorem dX0_copyFrom_5 : decode cX0_copyFrom 5 = .ok (.putfield 30, 3) := by decide +kernel
theorem dX0_copyFrom_8 : decode cX0_copyFrom 8 = .ok (.aload_n 1, 1) := by decide +kernel
theorem dX0_copyFrom_9 : decode cX0_copyFrom 9 = .ok (.getfield 9, 3) := by decide +kernel
theorem dX0_copyFrom_12 : decode cX0_copyFrom 12 = .ok (.aload_n 0, 1) := by decide +kernel
theorem dX0_copyFrom_13 : decode cX0_copyFrom 13 = .ok (.getfield 9, 3) := by decide +kernel
theorem dX0_copyFrom_16 : decode cX0_copyFrom 16 = .ok (.invokestatic 34, 3) := by decide +kernel
theorem dX0_copyFrom_19 : decode cX0_copyFrom 19 = .ok (.aload_n 1, 1) := by decide +kernel
theorem dX0_copyFrom_20 : decode cX0_copyFrom 20 = .ok (.getfield 15, 3) := by decide +kernel
theorem dX0_copyFrom_23 : decode cX0_copyFrom 23 = .ok (.aload_n 0, 1) := by decide +kernel
theorem dX0_copyFrom_24 : decode cX0_copyFrom 24 = .ok (.getfield 15, 3) := by decide +kernel
theorem dX0_copyFrom_27 : decode cX0_copyFrom 27 = .ok (.invokestatic 34, 3) := by decide +kernel
theorem dX0_copyFrom_30 : decode cX0_copyFrom 30 = .ok (.aload_n 1, 1) := by decide +kernel
theorem dX0_copyFrom_31 : decode cX0_copyFrom 31 = .ok (.getfield 18, 3) := by decide +kernel
theorem dX0_copyFrom_34 : decode cX0_copyFrom 34 = .ok (.aload_n 0, 1) := by decide +kernel
theorem dX0_copyFrom_35 : decode cX0_copyFrom 35 = .ok (.getfield 18, 3) := by decide +kernel
theorem dX0_copyFrom_38 : decode cX0_copyFrom 38 = .ok (.invokestatic 34, 3) := by decide +kernel
theorem dX0_copyFrom_41 : decode cX0_copyFrom 41 = .ok (.aload_n 1, 1) := by decide +kernel
theorem dX0_copyFrom_42 : decode cX0_copyFrom 42 = .ok (.getfield 21, 3) := by decide +kernel
theorem dX0_copyFrom_45 : decode cX0_copyFrom 45 = .ok (.aload_n 0, 1) := by decide +kernel
theorem dX0_copyFrom_46 : decode cX0_copyFrom 46 = .ok (.getfield 21, 3) := by decide +kernel
theorem dX0_copyFrom_49 : decode cX0_copyFrom 49 = .ok (.invokestatic 34, 3) := by decide +kernel
theorem dX0_copyFrom_52 : decode cX0_copyFrom 52 = .ok (.aload_n 1, 1) := by decide +kernel
theorem dX0_copyFrom_53 : decode cX0_copyFrom 53 = .ok (.getfield 24, 3) := by decide +kernel
theorem dX0_copyFrom_56 : decode cX0_copyFrom 56 = .ok (.aload_n 0, 1) := by decide +kernel
theorem dX0_copyFrom_57 : decode cX0_copyFrom 57 = .ok (.getfield 24, 3) := by decide +kernel
theorem dX0_copyFrom_60 : decode cX0_copyFrom 60 = .ok (.invokestatic 34, 3) := by decide +kernel
theorem dX0_copyFrom_63 : decode cX0_copyFrom 63 = .ok (.aload_n 1, 1) := by decide +kernel
theorem dX0_copyFrom_64 : decode cX0_copyFrom 64 = .ok (.getfield 27, 3) := by decide +kernel
theorem dX0_copyFrom_67 : decode cX0_copyFrom 67 = .ok (.aload_n 0, 1) := by decide +kernel
theorem dX0_copyFrom_68 : decode cX0_copyFrom 68 = .ok (.getfield 27, 3) := by decide +kernel
theorem dX0_copyFrom_71 : decode cX0_copyFrom 71 = .ok (.invokestatic 34, 3) := by decide +kernel
theorem dX0_copyFrom_74 : decode cX0_copyFrom 74 = .ok (.return_, 1) := by decide +kernel
theorem dX0_addNode_0 : decode cX0_addNode 0 = .ok (.aload_n 0, 1) := by decide +kernel
theorem dX0_addNode_1 : decode cX0_addNode 1 = .ok (.getfield 15, 3) := by decide +kernel
theorem dX0_addNode_4 : decode cX0_addNode 4 = .ok (.aload_n 0, 1) := by decide +kernel
theorem dX0_addNode_5 : decode cX0_addNode 5 = .ok (.getfield 30, 3) := by decide +kernel
theorem dX0_addNode_8 : decode cX0_addNode 8 = .ok (.iload_n 1, 1) := by decide +kernel
theorem dX0_addNode_9 : decode cX0_addNode 9 = .ok (.iastore, 1) := by decide +kernel
theorem dX0_addNode_10 : decode cX0_addNode 10 = .ok (.aload_n 0, 1) := by decide +kernel
theorem dX0_addNode_11 : decode cX0_addNode 11 = .ok (.getfield 9, 3) := by decide +kernel
theorem dX0_addNode_14 : decode cX0_addNode 14 = .ok (.aload_n 0, 1) := by decide +kernel
theorem dX0_addNode_15 : decode cX0_addNode 15 = .ok (.getfield 30, 3) := by decide +kernel
theorem dX0_addNode_18 : decode cX0_addNode 18 = .ok (.iload_n 2, 1) := by decide +kernel
theorem dX0_addNode_19 : decode cX0_addNode 19 = .ok (.iastore, 1) := by decide +kernel
theorem dX0_addNode_20 : decode cX0_addNode 20 = .ok (.aload_n 0, 1) := by decide +kernel
theorem dX0_addNode_21 : decode cX0_addNode 21 = .ok (.getfield 18, 3) := by decide +kernel
theorem dX0_addNode_24 : decode cX0_addNode 24 = .ok (.aload_n 0, 1) := by decide +kernel
theorem dX0_addNode_25 : decode cX0_addNode 25 = .ok (.getfield 30, 3) := by decide +kernel
theorem dX0_addNode_28 : decode cX0_addNode 28 = .ok (.iconst (-1), 1) := by decide +kernel
theorem dX0_addNode_29 : decode cX0_addNode 29 = .ok (.iastore, 1) := by decide +kernel
theorem dX0_addNode_30 : decode cX0_addNode 30 = .ok (.aload_n 0, 1) := by decide +kernel
theorem dX0_addNode_31 : decode cX0_addNode 31 = .ok (.getfield 21, 3) := by decide +kernel
theorem dX0_addNode_34 : decode cX0_addNode 34 = .ok (.aload_n 0, 1) := by decide +kernel
theorem dX0_addNode_35 : decode cX0_addNode 35 = .ok (.getfield 30, 3) := by decide +kernel
theorem dX0_addNode_38 : decode cX0_addNode 38 = .ok (.iconst 0, 1) := by decide +kernel
theorem dX0_addNode_39 : decode cX0_addNode 39 = .ok (.iastore, 1) := by decide +kernel
theorem dX0_addNode_40 : decode cX0_addNode 40 = .ok (.aload_n 0, 1) := by decide +kernel
theorem dX0_addNode_41 : decode cX0_addNode 41 = .ok (.dup, 1) := by decide +kernel
theorem dX0_addNode_42 : decode cX0_addNode 42 = .ok (.getfield 30, 3) := by decide +kernel
theorem dX0_addNode_45 : decode cX0_addNode 45 = .ok (.iconst 1, 1) := by decide +kernel
theorem dX0_addNode_46 : decode cX0_addNode 46 = .ok (.iadd, 1) := by decide +kernel
theorem dX0_addNode_47 : decode cX0_addNode 47 = .ok (.putfield 30, 3) := by decide +kernel
theorem dX0_addNode_50 : decode cX0_addNode 50 = .ok (.return_, 1) := by decide +kernel
theorem dX0_areTied_0 : decode cX0_areTied 0 = .ok (.aload_n 0, 1) := by decide +kernel
theorem dX0_areTied_1 : decode cX0_areTied 1 = .ok (.getfield 21, 3) := by decide +kernel
theorem dX0_areTied_4 : decode cX0_areTied 4 = .ok (.iload_n 1, 1) := by decide +kernel
theorem dX0_areTied_5 : decode cX0_areTied 5 = .ok (.iaload, 1) := by decide +kernel
theorem dX0_areTied_6 : decode cX0_areTied 6 = .ok (.iload_n 2, 1) := by decide +kernel
theorem dX0_areTied_7 : decode cX0_areTied 7 = .ok (.invokestatic 38, 3) := by decide +kernel
theorem dX0_areTied_10 : decode cX0_areTied 10 = .ok (.ireturn, 1) := by decide +kernel
theorem dX0_tieCount_0 : decode cX0_tieCount 0 = .ok (.iconst 0, 1) := by decide +kernel
theorem dX0_tieCount_1 : decode cX0_tieCount 1 = .ok (.istore_n 1, 1) := by decide +kernel
theorem dX0_tieCount_2 : decode cX0_tieCount 2 = .ok (.iconst 0, 1) := by decide +kernel
theorem dX0_tieCount_3 : decode cX0_tieCount 3 = .ok (.istore_n 2, 1) := by decide +kernel
theorem dX0_tieCount_4 : decode cX0_tieCount 4 = .ok (.iload_n 2, 1) := by decide +kernel
theorem dX0_tieCount_5 : decode cX0_tieCount 5 = .ok (.aload_n 0, 1) := by decide +kernel
theorem dX0_tieCount_6 : decode cX0_tieCount 6 = .ok (.getfield 30, 3) := by decide +kernel
theorem dX0_tieCount_9 : decode cX0_tieCount 9 = .ok (.if_icmp .ge 21, 3) := by decide +kernel
theorem dX0_tieCount_12 : decode cX0_tieCount 12 = .ok (.iload_n 1, 1) := by decide +kernel
theorem dX0_tieCount_13 : decode cX0_tieCount 13 = .ok (.aload_n 0, 1) := by decide +kernel
theorem dX0_tieCount_14 : decode cX0_tieCount 14 = .ok (.getfield 21, 3) := by decide +kernel
theorem dX0_tieCount_17 : decode cX0_tieCount 17 = .ok (.iload_n 2, 1) := by decide +kernel
theorem dX0_tieCount_18 : decode cX0_tieCount 18 = .ok (.iaload, 1) := by decide +kernel
theorem dX0_tieCount_19 : decode cX0_tieCount 19 = .ok (.invokestatic 42, 3) := by decide +kernel
theorem dX0_tieCount_22 : decode cX0_tieCount 22 = .ok (.iadd, 1) := by decide +kernel
theorem dX0_tieCount_23 : decode cX0_tieCount 23 = .ok (.istore_n 1, 1) := by decide +kernel
theorem dX0_tieCount_24 : decode cX0_tieCount 24 = .ok (.iinc 2 1, 3) := by decide +kernel
theorem dX0_tieCount_27 : decode cX0_tieCount 27 = .ok (.goto (-23), 3) := by decide +kernel
theorem dX0_tieCount_30 : decode cX0_tieCount 30 = .ok (.iload_n 1, 1) := by decide +kernel
theorem dX0_tieCount_31 : decode cX0_tieCount 31 = .ok (.iconst 2, 1) := by decide +kernel
theorem dX0_tieCount_32 : decode cX0_tieCount 32 = .ok (.idiv, 1) := by decide +kernel
theorem dX0_tieCount_33 : decode cX0_tieCount 33 = .ok (.ireturn, 1) := by decide +kernel
theorem dX0_pinCount_0 : decode cX0_pinCount 0 = .ok (.iconst 0, 1) := by decide +kernel
theorem dX0_pinCount_1 : decode cX0_pinCount 1 = .ok (.istore_n 1, 1) := by decide +kernel
theorem dX0_pinCount_2 : decode cX0_pinCount 2 = .ok (.iconst 0, 1) := by decide +kernel
theorem dX0_pinCount_3 : decode cX0_pinCount 3 = .ok (.istore_n 2, 1) := by decide +kernel
theorem dX0_pinCount_4 : decode cX0_pinCount 4 = .ok (.iload_n 2, 1) := by decide +kernel
theorem dX0_pinCount_5 : decode cX0_pinCount 5 = .ok (.aload_n 0, 1) := by decide +kernel
theorem dX0_pinCount_6 : decode cX0_pinCount 6 = .ok (.getfield 30, 3) := by decide +kernel
theorem dX0_pinCount_9 : decode cX0_pinCount 9 = .ok (.if_icmp .ge 22, 3) := by decide +kernel
theorem dX0_pinCount_12 : decode cX0_pinCount 12 = .ok (.aload_n 0, 1) := by decide +kernel
theorem dX0_pinCount_13 : decode cX0_pinCount 13 = .ok (.getfield 18, 3) := by decide +kernel
theorem dX0_pinCount_16 : decode cX0_pinCount 16 = .ok (.iload_n 2, 1) := by decide +kernel
theorem dX0_pinCount_17 : decode cX0_pinCount 17 = .ok (.iaload, 1) := by decide +kernel
theorem dX0_pinCount_18 : decode cX0_pinCount 18 = .ok (.iconst (-1), 1) := by decide +kernel
theorem dX0_pinCount_19 : decode cX0_pinCount 19 = .ok (.if_icmp .eq 6, 3) := by decide +kernel
theorem dX0_pinCount_22 : decode cX0_pinCount 22 = .ok (.iinc 1 1, 3) := by decide +kernel
theorem dX0_pinCount_25 : decode cX0_pinCount 25 = .ok (.iinc 2 1, 3) := by decide +kernel
theorem dX0_pinCount_28 : decode cX0_pinCount 28 = .ok (.goto (-24), 3) := by decide +kernel
theorem dX0_pinCount_31 : decode cX0_pinCount 31 = .ok (.iload_n 1, 1) := by decide +kernel
theorem dX0_pinCount_32 : decode cX0_pinCount 32 = .ok (.ireturn, 1) := by decide +kernel
theorem dX0_choiceCost_0 : decode cX0_choiceCost 0 = .ok (.aload_n 0, 1) := by decide +kernel
theorem dX0_choiceCost_1 : decode cX0_choiceCost 1 = .ok (.getfield 18, 3) := by decide +kernel
theorem dX0_choiceCost_4 : decode cX0_choiceCost 4 = .ok (.iload_n 1, 1) := by decide +kernel
theorem dX0_choiceCost_5 : decode cX0_choiceCost 5 = .ok (.iaload, 1) := by decide +kernel
theorem dX0_choiceCost_6 : decode cX0_choiceCost 6 = .ok (.iconst (-1), 1) := by decide +kernel
theorem dX0_choiceCost_7 : decode cX0_choiceCost 7 = .ok (.if_icmp .eq 16, 3) := by decide +kernel
theorem dX0_choiceCost_10 : decode cX0_choiceCost 10 = .ok (.aload_n 0, 1) := by decide +kernel
theorem dX0_choiceCost_11 : decode cX0_choiceCost 11 = .ok (.getfield 18, 3) := by decide +kernel
theorem dX0_choiceCost_14 : decode cX0_choiceCost 14 = .ok (.iload_n 1, 1) := by decide +kernel
theorem dX0_choiceCost_15 : decode cX0_choiceCost 15 = .ok (.iaload, 1) := by decide +kernel
theorem dX0_choiceCost_16 : decode cX0_choiceCost 16 = .ok (.iload_n 2, 1) := by decide +kernel
theorem dX0_choiceCost_17 : decode cX0_choiceCost 17 = .ok (.if_icmp .eq 6, 3) := by decide +kernel
theorem dX0_choiceCost_20 : decode cX0_choiceCost 20 = .ok (.ldc 48, 2) := by decide +kernel
theorem dX0_choiceCost_22 : decode cX0_choiceCost 22 = .ok (.ireturn, 1) := by decide +kernel
theorem dX0_choiceCost_23 : decode cX0_choiceCost 23 = .ok (.aload_n 0, 1) := by decide +kernel
theorem dX0_choiceCost_24 : decode cX0_choiceCost 24 = .ok (.getfield 24, 3) := by decide +kernel
theorem dX0_choiceCost_27 : decode cX0_choiceCost 27 = .ok (.iload_n 1, 1) := by decide +kernel
theorem dX0_choiceCost_28 : decode cX0_choiceCost 28 = .ok (.iload_n 2, 1) := by decide +kernel
theorem dX0_choiceCost_29 : decode cX0_choiceCost 29 = .ok (.invokestatic 49, 3) := by decide +kernel
theorem dX0_choiceCost_32 : decode cX0_choiceCost 32 = .ok (.iaload, 1) := by decide +kernel
theorem dX0_choiceCost_33 : decode cX0_choiceCost 33 = .ok (.istore_n 3, 1) := by decide +kernel
theorem dX0_choiceCost_34 : decode cX0_choiceCost 34 = .ok (.iload_n 3, 1) := by decide +kernel
theorem dX0_choiceCost_35 : decode cX0_choiceCost 35 = .ok (.bipush 99, 2) := by decide +kernel
theorem dX0_choiceCost_37 : decode cX0_choiceCost 37 = .ok (.if_icmp .ne 8, 3) := by decide +kernel
theorem dX0_choiceCost_40 : decode cX0_choiceCost 40 = .ok (.ldc 48, 2) := by decide +kernel
theorem dX0_choiceCost_42 : decode cX0_choiceCost 42 = .ok (.goto 4, 3) := by decide +kernel
theorem dX0_choiceCost_45 : decode cX0_choiceCost 45 = .ok (.iload_n 3, 1) := by decide +kernel
theorem dX0_choiceCost_46 : decode cX0_choiceCost 46 = .ok (.istore 4, 2) := by decide +kernel
theorem dX0_choiceCost_48 : decode cX0_choiceCost 48 = .ok (.aload_n 0, 1) := by decide +kernel
theorem dX0_choiceCost_49 : decode cX0_choiceCost 49 = .ok (.getfield 15, 3) := by decide +kernel
theorem dX0_choiceCost_52 : decode cX0_choiceCost 52 = .ok (.iload_n 1, 1) := by decide +kernel
theorem dX0_choiceCost_53 : decode cX0_choiceCost 53 = .ok (.iaload, 1) := by decide +kernel
theorem dX0_choiceCost_54 : decode cX0_choiceCost 54 = .ok (.tableswitch 61 1 3 #[26, 34, 42], 26) := by decide +kernel
theorem dX0_choiceCost_80 : decode cX0_choiceCost 80 = .ok (.iconst 2, 1) := by decide +kernel
theorem dX0_choiceCost_81 : decode cX0_choiceCost 81 = .ok (.iload 4, 2) := by decide +kernel
theorem dX0_choiceCost_83 : decode cX0_choiceCost 83 = .ok (.imul, 1) := by decide +kernel
theorem dX0_choiceCost_84 : decode cX0_choiceCost 84 = .ok (.invokestatic 53, 3) := by decide +kernel
theorem dX0_choiceCost_87 : decode cX0_choiceCost 87 = .ok (.ireturn, 1) := by decide +kernel
theorem dX0_choiceCost_88 : decode cX0_choiceCost 88 = .ok (.iload 4, 2) := by decide +kernel
theorem dX0_choiceCost_90 : decode cX0_choiceCost 90 = .ok (.iload_n 2, 1) := by decide +kernel
theorem dX0_choiceCost_91 : decode cX0_choiceCost 91 = .ok (.iadd, 1) := by decide +kernel
theorem dX0_choiceCost_92 : decode cX0_choiceCost 92 = .ok (.invokestatic 53, 3) := by decide +kernel
theorem dX0_choiceCost_95 : decode cX0_choiceCost 95 = .ok (.ireturn, 1) := by decide +kernel
theorem dX0_choiceCost_96 : decode cX0_choiceCost 96 = .ok (.iconst 2, 1) := by decide +kernel
theorem dX0_choiceCost_97 : decode cX0_choiceCost 97 = .ok (.iload 4, 2) := by decide +kernel
theorem dX0_choiceCost_99 : decode cX0_choiceCost 99 = .ok (.imul, 1) := by decide +kernel
theorem dX0_choiceCost_100 : decode cX0_choiceCost 100 = .ok (.bipush 20, 2) := by decide +kernel
theorem dX0_choiceCost_102 : decode cX0_choiceCost 102 = .ok (.if_icmp .le 8, 3) := by decide +kernel
theorem dX0_choiceCost_105 : decode cX0_choiceCost 105 = .ok (.ldc 48, 2) := by decide +kernel
theorem dX0_choiceCost_107 : decode cX0_choiceCost 107 = .ok (.goto 7, 3) := by decide +kernel
theorem dX0_choiceCost_110 : decode cX0_choiceCost 110 = .ok (.iconst 2, 1) := by decide +kernel
theorem dX0_choiceCost_111 : decode cX0_choiceCost 111 = .ok (.iload 4, 2) := by decide +kernel
theorem dX0_choiceCost_113 : decode cX0_choiceCost 113 = .ok (.imul, 1) := by decide +kernel
theorem dX0_choiceCost_114 : decode cX0_choiceCost 114 = .ok (.ireturn, 1) := by decide +kernel
theorem dX0_choiceCost_115 : decode cX0_choiceCost 115 = .ok (.iload 4, 2) := by decide +kernel
theorem dX0_choiceCost_117 : decode cX0_choiceCost 117 = .ok (.ireturn, 1) := by decide +kernel
theorem dX0_tieCost_0 : decode cX0_tieCost 0 = .ok (.aload_n 0, 1) := by decide +kernel
theorem dX0_tieCost_1 : decode cX0_tieCost 1 = .ok (.getfield 27, 3) := by decide +kernel
theorem dX0_tieCost_4 : decode cX0_tieCost 4 = .ok (.iload_n 1, 1) := by decide +kernel
theorem dX0_tieCost_5 : decode cX0_tieCost 5 = .ok (.iload_n 2, 1) := by decide +kernel
theorem dX0_tieCost_6 : decode cX0_tieCost 6 = .ok (.iload_n 3, 1) := by decide +kernel
theorem dX0_tieCost_7 : decode cX0_tieCost 7 = .ok (.iload 4, 2) := by decide +kernel
theorem dX0_tieCost_9 : decode cX0_tieCost 9 = .ok (.invokestatic 56, 3) := by decide +kernel
theorem dX0_tieCost_12 : decode cX0_tieCost 12 = .ok (.iaload, 1) := by decide +kernel
theorem dX0_tieCost_13 : decode cX0_tieCost 13 = .ok (.istore 5, 2) := by decide +kernel
theorem dX0_tieCost_15 : decode cX0_tieCost 15 = .ok (.iload 5, 2) := by decide +kernel
theorem dX0_tieCost_17 : decode cX0_tieCost 17 = .ok (.bipush 9, 2) := by decide +kernel
theorem dX0_tieCost_19 : decode cX0_tieCost 19 = .ok (.if_icmp .ne 8, 3) := by decide +kernel
theorem dX0_tieCost_22 : decode cX0_tieCost 22 = .ok (.ldc 48, 2) := by decide +kernel
theorem dX0_tieCost_24 : decode cX0_tieCost 24 = .ok (.goto 5, 3) := by decide +kernel
theorem dX0_tieCost_27 : decode cX0_tieCost 27 = .ok (.iload 5, 2) := by decide +kernel
theorem dX0_tieCost_29 : decode cX0_tieCost 29 = .ok (.ireturn, 1) := by decide +kernel
theorem dX1_init_0 : decode cX1_init 0 = .ok (.aload_n 0, 1) := by decide +kernel
theorem dX1_init_1 : decode cX1_init 1 = .ok (.invokespecial 3, 3) := by decide +kernel
theorem dX1_init_4 : decode cX1_init 4 = .ok (.aload_n 0, 1) := by decide +kernel
theorem dX1_init_5 : decode cX1_init 5 = .ok (.aload_n 1, 1) := by decide +kernel
theorem dX1_init_6 : decode cX1_init 6 = .ok (.putfield 9, 3) := by decide +kernel
theorem dX1_init_9 : decode cX1_init 9 = .ok (.aload_n 0, 1) := by decide +kernel
theorem dX1_init_10 : decode cX1_init 10 = .ok (.aload_n 2, 1) := by decide +kernel
theorem dX1_init_11 : decode cX1_init 11 = .ok (.putfield 15, 3) := by decide +kernel
theorem dX1_init_14 : decode cX1_init 14 = .ok (.return_, 1) := by decide +kernel
theorem dX1_read_0 : decode cX1_read 0 = .ok (.aload_n 0, 1) := by decide +kernel
theorem dX1_read_1 : decode cX1_read 1 = .ok (.iload_n 1, 1) := by decide +kernel
theorem dX1_read_2 : decode cX1_read 2 = .ok (.aload_n 0, 1) := by decide +kernel
theorem dX1_read_3 : decode cX1_read 3 = .ok (.getfield 9, 3) := by decide +kernel
theorem dX1_read_6 : decode cX1_read 6 = .ok (.arraylength, 1) := by decide +kernel
theorem dX1_read_7 : decode cX1_read 7 = .ok (.invokestatic 19, 3) := by decide +kernel
theorem dX1_read_10 : decode cX1_read 10 = .ok (.putfield 25, 3) := by decide +kernel
theorem dX1_read_13 : decode cX1_read 13 = .ok (.aload_n 0, 1) := by decide +kernel
theorem dX1_read_14 : decode cX1_read 14 = .ok (.iconst 0, 1) := by decide +kernel
theorem dX1_read_15 : decode cX1_read 15 = .ok (.putfield 29, 3) := by decide +kernel
theorem dX1_read_18 : decode cX1_read 18 = .ok (.aload_n 0, 1) := by decide +kernel
theorem dX1_read_19 : decode cX1_read 19 = .ok (.getfield 15, 3) := by decide +kernel
theorem dX1_read_22 : decode cX1_read 22 = .ok (.iconst 0, 1) := by decide +kernel
theorem dX1_read_23 : decode cX1_read 23 = .ok (.putfield 32, 3) := by decide +kernel
theorem dX1_read_26 : decode cX1_read 26 = .ok (.iconst 0, 1) := by decide +kernel
theorem dX1_read_27 : decode cX1_read 27 = .ok (.istore_n 2, 1) := by decide +kernel
theorem dX1_read_28 : decode cX1_read 28 = .ok (.iload_n 2, 1) := by decide +kernel
theorem dX1_read_29 : decode cX1_read 29 = .ok (.sipush 200, 3) := by decide +kernel
theorem dX1_read_32 : decode cX1_read 32 = .ok (.if_icmp .ge 34, 3) := by decide +kernel
theorem dX1_read_35 : decode cX1_read 35 = .ok (.aload_n 0, 1) := by decide +kernel
theorem dX1_read_36 : decode cX1_read 36 = .ok (.getfield 29, 3) := by decide +kernel
theorem dX1_read_39 : decode cX1_read 39 = .ok (.aload_n 0, 1) := by decide +kernel
theorem dX1_read_40 : decode cX1_read 40 = .ok (.getfield 25, 3) := by decide +kernel
theorem dX1_read_43 : decode cX1_read 43 = .ok (.if_icmp .ge 23, 3) := by decide +kernel
theorem dX1_read_46 : decode cX1_read 46 = .ok (.aload_n 0, 1) := by decide +kernel
theorem dX1_read_47 : decode cX1_read 47 = .ok (.getfield 29, 3) := by decide +kernel
theorem dX1_read_50 : decode cX1_read 50 = .ok (.istore_n 3, 1) := by decide +kernel
theorem dX1_read_51 : decode cX1_read 51 = .ok (.aload_n 0, 1) := by decide +kernel
theorem dX1_read_52 : decode cX1_read 52 = .ok (.invokevirtual 37, 3) := by decide +kernel
theorem dX1_read_55 : decode cX1_read 55 = .ok (.ifCond .ne 5, 3) := by decide +kernel
theorem dX1_read_58 : decode cX1_read 58 = .ok (.iload_n 3, 1) := by decide +kernel
theorem dX1_read_59 : decode cX1_read 59 = .ok (.ireturn, 1) := by decide +kernel
theorem dX1_read_60 : decode cX1_read 60 = .ok (.iinc 2 1, 3) := by decide +kernel
theorem dX1_read_63 : decode cX1_read 63 = .ok (.goto (-35), 3) := by decide +kernel
theorem dX1_read_66 : decode cX1_read 66 = .ok (.bipush (-4), 2) := by decide +kernel
theorem dX1_read_68 : decode cX1_read 68 = .ok (.ireturn, 1) := by decide +kernel
theorem dX1_readItem_0 : decode cX1_readItem 0 = .ok (.aload_n 0, 1) := by decide +kernel
theorem dX1_readItem_1 : decode cX1_readItem 1 = .ok (.bipush 110, 2) := by decide +kernel
theorem dX1_readItem_3 : decode cX1_readItem 3 = .ok (.invokevirtual 41, 3) := by decide +kernel
theorem dX1_readItem_6 : decode cX1_readItem 6 = .ok (.ifCond .eq 8, 3) := by decide +kernel
theorem dX1_readItem_9 : decode cX1_readItem 9 = .ok (.aload_n 0, 1) := by decide +kernel
theorem dX1_readItem_10 : decode cX1_readItem 10 = .ok (.invokevirtual 45, 3) := by decide +kernel
theorem dX1_readItem_13 : decode cX1_readItem 13 = .ok (.ireturn, 1) := by decide +kernel
theorem dX1_readItem_14 : decode cX1_readItem 14 = .ok (.aload_n 0, 1) := by decide +kernel
theorem dX1_readItem_15 : decode cX1_readItem 15 = .ok (.bipush 101, 2) := by decide +kernel
theorem dX1_readItem_17 : decode cX1_readItem 17 = .ok (.invokevirtual 41, 3) := by decide +kernel
theorem dX1_readItem_20 : decode cX1_readItem 20 = .ok (.ifCond .eq 14, 3) := by decide +kernel
theorem dX1_readItem_23 : decode cX1_readItem 23 = .ok (.aload_n 0, 1) := by decide +kernel
theorem dX1_readItem_24 : decode cX1_readItem 24 = .ok (.invokevirtual 48, 3) := by decide +kernel
theorem dX1_readItem_27 : decode cX1_readItem 27 = .ok (.ifCond .eq 7, 3) := by decide +kernel
theorem dX1_readItem_30 : decode cX1_readItem 30 = .ok (.iconst 1, 1) := by decide +kernel
theorem dX1_readItem_31 : decode cX1_readItem 31 = .ok (.goto 4, 3) := by decide +kernel
theorem dX1_readItem_34 : decode cX1_readItem 34 = .ok (.iconst 0, 1) := by decide +kernel
theorem dX1_readItem_35 : decode cX1_readItem 35 = .ok (.ireturn, 1) := by decide +kernel
theorem dX1_readNode_0 : decode cX1_readNode 0 = .ok (.aload_n 0, 1) := by decide +kernel
theorem dX1_readNode_1 : decode cX1_readNode 1 = .ok (.getfield 15, 3) := by decide +kernel
theorem dX1_readNode_4 : decode cX1_readNode 4 = .ok (.getfield 32, 3) := by decide +kernel
theorem dX1_readNode_7 : decode cX1_readNode 7 = .ok (.istore_n 1, 1) := by decide +kernel
theorem dX1_readNode_8 : decode cX1_readNode 8 = .ok (.aload_n 0, 1) := by decide +kernel
theorem dX1_readNode_9 : decode cX1_readNode 9 = .ok (.invokevirtual 51, 3) := by decide +kernel
theorem dX1_readNode_12 : decode cX1_readNode 12 = .ok (.istore_n 2, 1) := by decide +kernel
theorem dX1_readNode_13 : decode cX1_readNode 13 = .ok (.iload_n 1, 1) := by decide +kernel
theorem dX1_readNode_14 : decode cX1_readNode 14 = .ok (.bipush 8, 2) := by decide +kernel
theorem dX1_readNode_16 : decode cX1_readNode 16 = .ok (.if_icmp .ge 12, 3) := by decide +kernel
theorem dX1_readNode_19 : decode cX1_readNode 19 = .ok (.iload_n 2, 1) := by decide +kernel
theorem dX1_readNode_20 : decode cX1_readNode 20 = .ok (.iconst 0, 1) := by decide +kernel
theorem dX1_readNode_21 : decode cX1_readNode 21 = .ok (.iconst 3, 1) := by decide +kernel
theorem dX1_readNode_22 : decode cX1_readNode 22 = .ok (.invokestatic 55, 3) := by decide +kernel
theorem dX1_readNode_25 : decode cX1_readNode 25 = .ok (.ifCond .ne 5, 3) := by decide +kernel
theorem dX1_readNode_28 : decode cX1_readNode 28 = .ok (.iconst 0, 1) := by decide +kernel
theorem dX1_readNode_29 : decode cX1_readNode 29 = .ok (.ireturn, 1) := by decide +kernel
theorem dX1_readNode_30 : decode cX1_readNode 30 = .ok (.iconst 0, 1) := by decide +kernel
theorem dX1_readNode_31 : decode cX1_readNode 31 = .ok (.istore_n 3, 1) := by decide +kernel
theorem dX1_readNode_32 : decode cX1_readNode 32 = .ok (.iconst 0, 1) := by decide +kernel
theorem dX1_readNode_33 : decode cX1_readNode 33 = .ok (.istore 4, 2) := by decide +kernel
theorem dX1_readNode_35 : decode cX1_readNode 35 = .ok (.iload 4, 2) := by decide +kernel
theorem dX1_readNode_37 : decode cX1_readNode 37 = .ok (.iconst 4, 1) := by decide +kernel
theorem dX1_readNode_38 : decode cX1_readNode 38 = .ok (.if_icmp .ge 50, 3) := by decide +kernel
theorem dX1_readNode_41 : decode cX1_readNode 41 = .ok (.aload_n 0, 1) := by decide +kernel
theorem dX1_readNode_42 : decode cX1_readNode 42 = .ok (.bipush 44, 2) := by decide +kernel
theorem dX1_readNode_44 : decode cX1_readNode 44 = .ok (.invokevirtual 41, 3) := by decide +kernel
theorem dX1_readNode_47 : decode cX1_readNode 47 = .ok (.ifCond .eq 41, 3) := by decide +kernel
theorem dX1_readNode_50 : decode cX1_readNode 50 = .ok (.aload_n 0, 1) := by decide +kernel
theorem dX1_readNode_51 : decode cX1_readNode 51 = .ok (.invokevirtual 51, 3) := by decide +kernel
theorem dX1_readNode_54 : decode cX1_readNode 54 = .ok (.istore 5, 2) := by decide +kernel
theorem dX1_readNode_56 : decode cX1_readNode 56 = .ok (.iload 5, 2) := by decide +kernel
theorem dX1_readNode_58 : decode cX1_readNode 58 = .ok (.ifCond .ge 5, 3) := by decide +kernel
theorem dX1_readNode_61 : decode cX1_readNode 61 = .ok (.iconst 0, 1) := by decide +kernel
theorem dX1_readNode_62 : decode cX1_readNode 62 = .ok (.ireturn, 1) := by decide +kernel
theorem dX1_readNode_63 : decode cX1_readNode 63 = .ok (.aload_n 0, 1) := by decide +kernel
theorem dX1_readNode_64 : decode cX1_readNode 64 = .ok (.getfield 15, 3) := by decide +kernel
theorem dX1_readNode_67 : decode cX1_readNode 67 = .ok (.getfield 59, 3) := by decide +kernel
theorem dX1_readNode_70 : decode cX1_readNode 70 = .ok (.iload_n 1, 1) := by decide +kernel
theorem dX1_readNode_71 : decode cX1_readNode 71 = .ok (.iload 4, 2) := by decide +kernel
theorem dX1_readNode_73 : decode cX1_readNode 73 = .ok (.invokestatic 63, 3) := by decide +kernel
theorem dX1_readNode_76 : decode cX1_readNode 76 = .ok (.iload 5, 2) := by decide +kernel
theorem dX1_readNode_78 : decode cX1_readNode 78 = .ok (.iastore, 1) := by decide +kernel
theorem dX1_readNode_79 : decode cX1_readNode 79 = .ok (.iinc 3 1, 3) := by decide +kernel
theorem dX1_readNode_82 : decode cX1_readNode 82 = .ok (.iinc 4 1, 3) := by decide +kernel
theorem dX1_readNode_85 : decode cX1_readNode 85 = .ok (.goto (-50), 3) := by decide +kernel
theorem dX1_readNode_88 : decode cX1_readNode 88 = .ok (.iload_n 3, 1) := by decide +kernel
theorem dX1_readNode_89 : decode cX1_readNode 89 = .ok (.ifCond .eq 12, 3) := by decide +kernel
theorem dX1_readNode_92 : decode cX1_readNode 92 = .ok (.aload_n 0, 1) := by decide +kernel
theorem dX1_readNode_93 : decode cX1_readNode 93 = .ok (.bipush 59, 2) := by decide +kernel
theorem dX1_readNode_95 : decode cX1_readNode 95 = .ok (.invokevirtual 41, 3) := by decide +kernel
theorem dX1_readNode_98 : decode cX1_readNode 98 = .ok (.ifCond .ne 5, 3) := by decide +kernel
theorem dX1_readNode_101 : decode cX1_readNode 101 = .ok (.iconst 0, 1) := by decide +kernel
theorem dX1_readNode_102 : decode cX1_readNode 102 = .ok (.ireturn, 1) := by decide +kernel
theorem dX1_readNode_103 : decode cX1_readNode 103 = .ok (.aload_n 0, 1) := by decide +kernel
theorem dX1_readNode_104 : decode cX1_readNode 104 = .ok (.getfield 15, 3) := by decide +kernel
theorem dX1_readNode_107 : decode cX1_readNode 107 = .ok (.iload_n 2, 1) := by decide +kernel
theorem dX1_readNode_108 : decode cX1_readNode 108 = .ok (.iload_n 3, 1) := by decide +kernel
theorem dX1_readNode_109 : decode cX1_readNode 109 = .ok (.invokevirtual 66, 3) := by decide +kernel
theorem dX1_readNode_112 : decode cX1_readNode 112 = .ok (.iconst 1, 1) := by decide +kernel
theorem dX1_readNode_113 : decode cX1_readNode 113 = .ok (.ireturn, 1) := by decide +kernel
theorem dX1_readTie_0 : decode cX1_readTie 0 = .ok (.aload_n 0, 1) := by decide +kernel
theorem dX1_readTie_1 : decode cX1_readTie 1 = .ok (.invokevirtual 51, 3) := by decide +kernel
theorem dX1_readTie_4 : decode cX1_readTie 4 = .ok (.istore_n 1, 1) := by decide +kernel
theorem dX1_readTie_5 : decode cX1_readTie 5 = .ok (.iload_n 1, 1) := by decide +kernel
theorem dX1_readTie_6 : decode cX1_readTie 6 = .ok (.ifCond .lt 12, 3) := by decide +kernel
theorem dX1_readTie_9 : decode cX1_readTie 9 = .ok (.aload_n 0, 1) := by decide +kernel
theorem dX1_readTie_10 : decode cX1_readTie 10 = .ok (.bipush 44, 2) := by decide +kernel
theorem dX1_readTie_12 : decode cX1_readTie 12 = .ok (.invokevirtual 41, 3) := by decide +kernel
theorem dX1_readTie_15 : decode cX1_readTie 15 = .ok (.ifCond .ne 5, 3) := by decide +kernel
theorem dX1_readTie_18 : decode cX1_readTie 18 = .ok (.iconst 0, 1) := by decide +kernel
theorem dX1_readTie_19 : decode cX1_readTie 19 = .ok (.ireturn, 1) := by decide +kernel
theorem dX1_readTie_20 : decode cX1_readTie 20 = .ok (.aload_n 0, 1) := by decide +kernel
theorem dX1_readTie_21 : decode cX1_readTie 21 = .ok (.invokevirtual 51, 3) := by decide +kernel
theorem dX1_readTie_24 : decode cX1_readTie 24 = .ok (.istore_n 2, 1) := by decide +kernel
theorem dX1_readTie_25 : decode cX1_readTie 25 = .ok (.iload_n 2, 1) := by decide +kernel
theorem dX1_readTie_26 : decode cX1_readTie 26 = .ok (.iload_n 1, 1) := by decide +kernel
theorem dX1_readTie_27 : decode cX1_readTie 27 = .ok (.if_icmp .le 23, 3) := by decide +kernel
theorem dX1_readTie_30 : decode cX1_readTie 30 = .ok (.iload_n 2, 1) := by decide +kernel
theorem dX1_readTie_31 : decode cX1_readTie 31 = .ok (.aload_n 0, 1) := by decide +kernel
theorem dX1_readTie_32 : decode cX1_readTie 32 = .ok (.getfield 15, 3) := by decide +kernel
theorem dX1_readTie_35 : decode cX1_readTie 35 = .ok (.getfield 32, 3) := by decide +kernel
theorem dX1_readTie_38 : decode cX1_readTie 38 = .ok (.if_icmp .ge 12, 3) := by decide +kernel
theorem dX1_readTie_41 : decode cX1_readTie 41 = .ok (.aload_n 0, 1) := by decide +kernel
theorem dX1_readTie_42 : decode cX1_readTie 42 = .ok (.bipush 44, 2) := by decide +kernel
theorem dX1_readTie_44 : decode cX1_readTie 44 = .ok (.invokevirtual 41, 3) := by decide +kernel
theorem dX1_readTie_47 : decode cX1_readTie 47 = .ok (.ifCond .ne 5, 3) := by decide +kernel
theorem dX1_readTie_50 : decode cX1_readTie 50 = .ok (.iconst 0, 1) := by decide +kernel
theorem dX1_readTie_51 : decode cX1_readTie 51 = .ok (.ireturn, 1) := by decide +kernel
theorem dX1_readTie_52 : decode cX1_readTie 52 = .ok (.aload_n 0, 1) := by decide +kernel
theorem dX1_readTie_53 : decode cX1_readTie 53 = .ok (.getfield 15, 3) := by decide +kernel
theorem dX1_readTie_56 : decode cX1_readTie 56 = .ok (.iload_n 1, 1) := by decide +kernel
theorem dX1_readTie_57 : decode cX1_readTie 57 = .ok (.iload_n 2, 1) := by decide +kernel
theorem dX1_readTie_58 : decode cX1_readTie 58 = .ok (.invokevirtual 70, 3) := by decide +kernel
theorem dX1_readTie_61 : decode cX1_readTie 61 = .ok (.ifCond .ne 15, 3) := by decide +kernel
theorem dX1_readTie_64 : decode cX1_readTie 64 = .ok (.aload_n 0, 1) := by decide +kernel
theorem dX1_readTie_65 : decode cX1_readTie 65 = .ok (.getfield 15, 3) := by decide +kernel
theorem dX1_readTie_68 : decode cX1_readTie 68 = .ok (.invokevirtual 74, 3) := by decide +kernel
theorem dX1_readTie_71 : decode cX1_readTie 71 = .ok (.bipush 12, 2) := by decide +kernel
theorem dX1_readTie_73 : decode cX1_readTie 73 = .ok (.if_icmp .lt 5, 3) := by decide +kernel
theorem dX1_readTie_76 : decode cX1_readTie 76 = .ok (.iconst 0, 1) := by decide +kernel
theorem dX1_readTie_77 : decode cX1_readTie 77 = .ok (.ireturn, 1) := by decide +kernel
theorem dX1_readTie_78 : decode cX1_readTie 78 = .ok (.aload_n 0, 1) := by decide +kernel
theorem dX1_readTie_79 : decode cX1_readTie 79 = .ok (.getfield 15, 3) := by decide +kernel
theorem dX1_readTie_82 : decode cX1_readTie 82 = .ok (.getfield 77, 3) := by decide +kernel
theorem dX1_readTie_85 : decode cX1_readTie 85 = .ok (.aload_n 0, 1) := by decide +kernel
theorem dX1_readTie_86 : decode cX1_readTie 86 = .ok (.getfield 15, 3) := by decide +kernel
theorem dX1_readTie_89 : decode cX1_readTie 89 = .ok (.getfield 80, 3) := by decide +kernel
theorem dX1_readTie_92 : decode cX1_readTie 92 = .ok (.iload_n 1, 1) := by decide +kernel
theorem dX1_readTie_93 : decode cX1_readTie 93 = .ok (.iload_n 2, 1) := by decide +kernel
theorem dX1_readTie_94 : decode cX1_readTie 94 = .ok (.invokestatic 83, 3) := by decide +kernel
theorem dX1_readTie_97 : decode cX1_readTie 97 = .ok (.aload_n 0, 1) := by decide +kernel
theorem dX1_readTie_98 : decode cX1_readTie 98 = .ok (.iload_n 1, 1) := by decide +kernel
theorem dX1_readTie_99 : decode cX1_readTie 99 = .ok (.iload_n 2, 1) := by decide +kernel
theorem dX1_readTie_100 : decode cX1_readTie 100 = .ok (.invokevirtual 87, 3) := by decide +kernel
theorem dX1_readTie_103 : decode cX1_readTie 103 = .ok (.ifCond .eq 16, 3) := by decide +kernel
theorem dX1_readTie_106 : decode cX1_readTie 106 = .ok (.aload_n 0, 1) := by decide +kernel
theorem dX1_readTie_107 : decode cX1_readTie 107 = .ok (.bipush 59, 2) := by decide +kernel
theorem dX1_readTie_109 : decode cX1_readTie 109 = .ok (.invokevirtual 41, 3) := by decide +kernel
theorem dX1_readTie_112 : decode cX1_readTie 112 = .ok (.ifCond .eq 7, 3) := by decide +kernel
theorem dX1_readTie_115 : decode cX1_readTie 115 = .ok (.iconst 1, 1) := by decide +kernel
theorem dX1_readTie_116 : decode cX1_readTie 116 = .ok (.goto 4, 3) := by decide +kernel
theorem dX1_readTie_119 : decode cX1_readTie 119 = .ok (.iconst 0, 1) := by decide +kernel
theorem dX1_readTie_120 : decode cX1_readTie 120 = .ok (.ireturn, 1) := by decide +kernel
theorem dX1_readTable_0 : decode cX1_readTable 0 = .ok (.iconst 0, 1) := by decide +kernel
theorem dX1_readTable_1 : decode cX1_readTable 1 = .ok (.istore_n 3, 1) := by decide +kernel
theorem dX1_readTable_2 : decode cX1_readTable 2 = .ok (.iload_n 3, 1) := by decide +kernel
theorem dX1_readTable_3 : decode cX1_readTable 3 = .ok (.aload_n 0, 1) := by decide +kernel
theorem dX1_readTable_4 : decode cX1_readTable 4 = .ok (.getfield 15, 3) := by decide +kernel
theorem dX1_readTable_7 : decode cX1_readTable 7 = .ok (.getfield 90, 3) := by decide +kernel
theorem dX1_readTable_10 : decode cX1_readTable 10 = .ok (.iload_n 1, 1) := by decide +kernel
theorem dX1_readTable_11 : decode cX1_readTable 11 = .ok (.iaload, 1) := by decide +kernel
theorem dX1_readTable_12 : decode cX1_readTable 12 = .ok (.if_icmp .ge 63, 3) := by decide +kernel
theorem dX1_readTable_15 : decode cX1_readTable 15 = .ok (.iconst 0, 1) := by decide +kernel
theorem dX1_readTable_16 : decode cX1_readTable 16 = .ok (.istore 4, 2) := by decide +kernel
theorem dX1_readTable_18 : decode cX1_readTable 18 = .ok (.iload 4, 2) := by decide +kernel
theorem dX1_readTable_20 : decode cX1_readTable 20 = .ok (.aload_n 0, 1) := by decide +kernel
theorem dX1_readTable_21 : decode cX1_readTable 21 = .ok (.getfield 15, 3) := by decide +kernel
theorem dX1_readTable_24 : decode cX1_readTable 24 = .ok (.getfield 90, 3) := by decide +kernel
theorem dX1_readTable_27 : decode cX1_readTable 27 = .ok (.iload_n 2, 1) := by decide +kernel
theorem dX1_readTable_28 : decode cX1_readTable 28 = .ok (.iaload, 1) := by decide +kernel
theorem dX1_readTable_29 : decode cX1_readTable 29 = .ok (.if_icmp .ge 40, 3) := by decide +kernel
theorem dX1_readTable_32 : decode cX1_readTable 32 = .ok (.aload_n 0, 1) := by decide +kernel
theorem dX1_readTable_33 : decode cX1_readTable 33 = .ok (.invokevirtual 93, 3) := by decide +kernel
theorem dX1_readTable_36 : decode cX1_readTable 36 = .ok (.istore 5, 2) := by decide +kernel
theorem dX1_readTable_38 : decode cX1_readTable 38 = .ok (.iload 5, 2) := by decide +kernel
theorem dX1_readTable_40 : decode cX1_readTable 40 = .ok (.ifCond .ge 5, 3) := by decide +kernel
theorem dX1_readTable_43 : decode cX1_readTable 43 = .ok (.iconst 0, 1) := by decide +kernel
theorem dX1_readTable_44 : decode cX1_readTable 44 = .ok (.ireturn, 1) := by decide +kernel
theorem dX1_readTable_45 : decode cX1_readTable 45 = .ok (.aload_n 0, 1) := by decide +kernel
theorem dX1_readTable_46 : decode cX1_readTable 46 = .ok (.getfield 15, 3) := by decide +kernel
theorem dX1_readTable_49 : decode cX1_readTable 49 = .ok (.getfield 80, 3) := by decide +kernel
theorem dX1_readTable_52 : decode cX1_readTable 52 = .ok (.iload_n 1, 1) := by decide +kernel
theorem dX1_readTable_53 : decode cX1_readTable 53 = .ok (.iload_n 2, 1) := by decide +kernel
theorem dX1_readTable_54 : decode cX1_readTable 54 = .ok (.iload_n 3, 1) := by decide +kernel
theorem dX1_readTable_55 : decode cX1_readTable 55 = .ok (.iload 4, 2) := by decide +kernel
theorem dX1_readTable_57 : decode cX1_readTable 57 = .ok (.invokestatic 96, 3) := by decide +kernel
theorem dX1_readTable_60 : decode cX1_readTable 60 = .ok (.iload 5, 2) := by decide +kernel
theorem dX1_readTable_62 : decode cX1_readTable 62 = .ok (.iastore, 1) := by decide +kernel
theorem dX1_readTable_63 : decode cX1_readTable 63 = .ok (.iinc 4 1, 3) := by decide +kernel
theorem dX1_readTable_66 : decode cX1_readTable 66 = .ok (.goto (-48), 3) := by decide +kernel
theorem dX1_readTable_69 : decode cX1_readTable 69 = .ok (.iinc 3 1, 3) := by decide +kernel
theorem dX1_readTable_72 : decode cX1_readTable 72 = .ok (.goto (-70), 3) := by decide +kernel
theorem dX1_readTable_75 : decode cX1_readTable 75 = .ok (.iconst 1, 1) := by decide +kernel
theorem dX1_readTable_76 : decode cX1_readTable 76 = .ok (.ireturn, 1) := by decide +kernel
theorem dX1_takes_0 : decode cX1_takes 0 = .ok (.aload_n 0, 1) := by decide +kernel
theorem dX1_takes_1 : decode cX1_takes 1 = .ok (.getfield 29, 3) := by decide +kernel
theorem dX1_takes_4 : decode cX1_takes 4 = .ok (.aload_n 0, 1) := by decide +kernel
theorem dX1_takes_5 : decode cX1_takes 5 = .ok (.getfield 25, 3) := by decide +kernel
theorem dX1_takes_8 : decode cX1_takes 8 = .ok (.if_icmp .ge 16, 3) := by decide +kernel
theorem dX1_takes_11 : decode cX1_takes 11 = .ok (.aload_n 0, 1) := by decide +kernel
theorem dX1_takes_12 : decode cX1_takes 12 = .ok (.getfield 9, 3) := by decide +kernel
theorem dX1_takes_15 : decode cX1_takes 15 = .ok (.aload_n 0, 1) := by decide +kernel
theorem dX1_takes_16 : decode cX1_takes 16 = .ok (.getfield 29, 3) := by decide +kernel
theorem dX1_takes_19 : decode cX1_takes 19 = .ok (.caload, 1) := by decide +kernel
theorem dX1_takes_20 : decode cX1_takes 20 = .ok (.iload_n 1, 1) := by decide +kernel
theorem dX1_takes_21 : decode cX1_takes 21 = .ok (.if_icmp .eq 5, 3) := by decide +kernel
theorem dX1_takes_24 : decode cX1_takes 24 = .ok (.iconst 0, 1) := by decide +kernel
theorem dX1_takes_25 : decode cX1_takes 25 = .ok (.ireturn, 1) := by decide +kernel
theorem dX1_takes_26 : decode cX1_takes 26 = .ok (.aload_n 0, 1) := by decide +kernel
theorem dX1_takes_27 : decode cX1_takes 27 = .ok (.dup, 1) := by decide +kernel
theorem dX1_takes_28 : decode cX1_takes 28 = .ok (.getfield 29, 3) := by decide +kernel
theorem dX1_takes_31 : decode cX1_takes 31 = .ok (.iconst 1, 1) := by decide +kernel
theorem dX1_takes_32 : decode cX1_takes 32 = .ok (.iadd, 1) := by decide +kernel
theorem dX1_takes_33 : decode cX1_takes 33 = .ok (.putfield 29, 3) := by decide +kernel
theorem dX1_takes_36 : decode cX1_takes 36 = .ok (.iconst 1, 1) := by decide +kernel
theorem dX1_takes_37 : decode cX1_takes 37 = .ok (.ireturn, 1) := by decide +kernel
theorem dX1_readNumber_0 : decode cX1_readNumber 0 = .ok (.aload_n 0, 1) := by decide +kernel
theorem dX1_readNumber_1 : decode cX1_readNumber 1 = .ok (.invokevirtual 93, 3) := by decide +kernel
theorem dX1_readNumber_4 : decode cX1_readNumber 4 = .ok (.istore_n 1, 1) := by decide +kernel
theorem dX1_readNumber_5 : decode cX1_readNumber 5 = .ok (.iload_n 1, 1) := by decide +kernel
theorem dX1_readNumber_6 : decode cX1_readNumber 6 = .ok (.ifCond .ge 5, 3) := by decide +kernel
theorem dX1_readNumber_9 : decode cX1_readNumber 9 = .ok (.iconst (-1), 1) := by decide +kernel
theorem dX1_readNumber_10 : decode cX1_readNumber 10 = .ok (.ireturn, 1) := by decide +kernel
theorem dX1_readNumber_11 : decode cX1_readNumber 11 = .ok (.aload_n 0, 1) := by decide +kernel
theorem dX1_readNumber_12 : decode cX1_readNumber 12 = .ok (.invokevirtual 93, 3) := by decide +kernel
theorem dX1_readNumber_15 : decode cX1_readNumber 15 = .ok (.istore_n 2, 1) := by decide +kernel
theorem dX1_readNumber_16 : decode cX1_readNumber 16 = .ok (.iload_n 2, 1) := by decide +kernel
theorem dX1_readNumber_17 : decode cX1_readNumber 17 = .ok (.ifCond .ge 7, 3) := by decide +kernel
theorem dX1_readNumber_20 : decode cX1_readNumber 20 = .ok (.iload_n 1, 1) := by decide +kernel
theorem dX1_readNumber_21 : decode cX1_readNumber 21 = .ok (.goto 9, 3) := by decide +kernel
theorem dX1_readNumber_24 : decode cX1_readNumber 24 = .ok (.iload_n 1, 1) := by decide +kernel
theorem dX1_readNumber_25 : decode cX1_readNumber 25 = .ok (.bipush 10, 2) := by decide +kernel
theorem dX1_readNumber_27 : decode cX1_readNumber 27 = .ok (.imul, 1) := by decide +kernel
theorem dX1_readNumber_28 : decode cX1_readNumber 28 = .ok (.iload_n 2, 1) := by decide +kernel
theorem dX1_readNumber_29 : decode cX1_readNumber 29 = .ok (.iadd, 1) := by decide +kernel
theorem dX1_readNumber_30 : decode cX1_readNumber 30 = .ok (.ireturn, 1) := by decide +kernel
theorem dX1_readFigure_0 : decode cX1_readFigure 0 = .ok (.aload_n 0, 1) := by decide +kernel
theorem dX1_readFigure_1 : decode cX1_readFigure 1 = .ok (.getfield 29, 3) := by decide +kernel
theorem dX1_readFigure_4 : decode cX1_readFigure 4 = .ok (.aload_n 0, 1) := by decide +kernel
theorem dX1_readFigure_5 : decode cX1_readFigure 5 = .ok (.getfield 25, 3) := by decide +kernel
theorem dX1_readFigure_8 : decode cX1_readFigure 8 = .ok (.if_icmp .ge 31, 3) := by decide +kernel
theorem dX1_readFigure_11 : decode cX1_readFigure 11 = .ok (.aload_n 0, 1) := by decide +kernel
theorem dX1_readFigure_12 : decode cX1_readFigure 12 = .ok (.getfield 9, 3) := by decide +kernel
theorem dX1_readFigure_15 : decode cX1_readFigure 15 = .ok (.aload_n 0, 1) := by decide +kernel
theorem dX1_readFigure_16 : decode cX1_readFigure 16 = .ok (.getfield 29, 3) := by decide +kernel
theorem dX1_readFigure_19 : decode cX1_readFigure 19 = .ok (.caload, 1) := by decide +kernel
theorem dX1_readFigure_20 : decode cX1_readFigure 20 = .ok (.bipush 48, 2) := by decide +kernel
theorem dX1_readFigure_22 : decode cX1_readFigure 22 = .ok (.if_icmp .lt 17, 3) := by decide +kernel
theorem dX1_readFigure_25 : decode cX1_readFigure 25 = .ok (.aload_n 0, 1) := by decide +kernel
theorem dX1_readFigure_26 : decode cX1_readFigure 26 = .ok (.getfield 9, 3) := by decide +kernel
theorem dX1_readFigure_29 : decode cX1_readFigure 29 = .ok (.aload_n 0, 1) := by decide +kernel
theorem dX1_readFigure_30 : decode cX1_readFigure 30 = .ok (.getfield 29, 3) := by decide +kernel
theorem dX1_readFigure_33 : decode cX1_readFigure 33 = .ok (.caload, 1) := by decide +kernel
theorem dX1_readFigure_34 : decode cX1_readFigure 34 = .ok (.bipush 57, 2) := by decide +kernel
theorem dX1_readFigure_36 : decode cX1_readFigure 36 = .ok (.if_icmp .le 5, 3) := by decide +kernel
theorem dX1_readFigure_39 : decode cX1_readFigure 39 = .ok (.iconst (-1), 1) := by decide +kernel
theorem dX1_readFigure_40 : decode cX1_readFigure 40 = .ok (.ireturn, 1) := by decide +kernel
theorem dX1_readFigure_41 : decode cX1_readFigure 41 = .ok (.aload_n 0, 1) := by decide +kernel
theorem dX1_readFigure_42 : decode cX1_readFigure 42 = .ok (.getfield 9, 3) := by decide +kernel
theorem dX1_readFigure_45 : decode cX1_readFigure 45 = .ok (.aload_n 0, 1) := by decide +kernel
theorem dX1_readFigure_46 : decode cX1_readFigure 46 = .ok (.getfield 29, 3) := by decide +kernel
theorem dX1_readFigure_49 : decode cX1_readFigure 49 = .ok (.caload, 1) := by decide +kernel
theorem dX1_readFigure_50 : decode cX1_readFigure 50 = .ok (.bipush 48, 2) := by decide +kernel
theorem dX1_readFigure_52 : decode cX1_readFigure 52 = .ok (.isub, 1) := by decide +kernel
theorem dX1_readFigure_53 : decode cX1_readFigure 53 = .ok (.istore_n 1, 1) := by decide +kernel
theorem dX1_readFigure_54 : decode cX1_readFigure 54 = .ok (.aload_n 0, 1) := by decide +kernel
theorem dX1_readFigure_55 : decode cX1_readFigure 55 = .ok (.dup, 1) := by decide +kernel
theorem dX1_readFigure_56 : decode cX1_readFigure 56 = .ok (.getfield 29, 3) := by decide +kernel
theorem dX1_readFigure_59 : decode cX1_readFigure 59 = .ok (.iconst 1, 1) := by decide +kernel
theorem dX1_readFigure_60 : decode cX1_readFigure 60 = .ok (.iadd, 1) := by decide +kernel
theorem dX1_readFigure_61 : decode cX1_readFigure 61 = .ok (.putfield 29, 3) := by decide +kernel
theorem dX1_readFigure_64 : decode cX1_readFigure 64 = .ok (.iload_n 1, 1) := by decide +kernel
theorem dX1_readFigure_65 : decode cX1_readFigure 65 = .ok (.ireturn, 1) := by decide +kernel
theorem dX2_init_0 : decode cX2_init 0 = .ok (.aload_n 0, 1) := by decide +kernel
theorem dX2_init_1 : decode cX2_init 1 = .ok (.invokespecial 3, 3) := by decide +kernel
theorem dX2_init_4 : decode cX2_init 4 = .ok (.aload_n 0, 1) := by decide +kernel
theorem dX2_init_5 : decode cX2_init 5 = .ok (.bipush 8, 2) := by decide +kernel
theorem dX2_init_7 : decode cX2_init 7 = .ok (.newarray .int, 2) := by decide +kernel
theorem dX2_init_9 : decode cX2_init 9 = .ok (.putfield 9, 3) := by decide +kernel
theorem dX2_init_12 : decode cX2_init 12 = .ok (.aload_n 0, 1) := by decide +kernel
theorem dX2_init_13 : decode cX2_init 13 = .ok (.bipush 8, 2) := by decide +kernel
theorem dX2_init_15 : decode cX2_init 15 = .ok (.newarray .int, 2) := by decide +kernel
theorem dX2_init_17 : decode cX2_init 17 = .ok (.putfield 15, 3) := by decide +kernel
theorem dX2_init_20 : decode cX2_init 20 = .ok (.aload_n 0, 1) := by decide +kernel
theorem dX2_init_21 : decode cX2_init 21 = .ok (.bipush 8, 2) := by decide +kernel
theorem dX2_init_23 : decode cX2_init 23 = .ok (.newarray .int, 2) := by decide +kernel
theorem dX2_init_25 : decode cX2_init 25 = .ok (.putfield 18, 3) := by decide +kernel
theorem dX2_init_28 : decode cX2_init 28 = .ok (.aload_n 0, 1) := by decide +kernel
theorem dX2_init_29 : decode cX2_init 29 = .ok (.bipush 8, 2) := by decide +kernel
theorem dX2_init_31 : decode cX2_init 31 = .ok (.newarray .int, 2) := by decide +kernel
theorem dX2_init_33 : decode cX2_init 33 = .ok (.putfield 21, 3) := by decide +kernel
theorem dX2_init_36 : decode cX2_init 36 = .ok (.aload_n 0, 1) := by decide +kernel
theorem dX2_init_37 : decode cX2_init 37 = .ok (.new 24, 3) := by decide +kernel
theorem dX2_init_40 : decode cX2_init 40 = .ok (.dup, 1) := by decide +kernel
theorem dX2_init_41 : decode cX2_init 41 = .ok (.invokespecial 26, 3) := by decide +kernel
theorem dX2_init_44 : decode cX2_init 44 = .ok (.putfield 27, 3) := by decide +kernel
theorem dX2_init_47 : decode cX2_init 47 = .ok (.return_, 1) := by decide +kernel
theorem dX2_run_0 : decode cX2_run 0 = .ok (.aload_n 0, 1) := by decide +kernel
theorem dX2_run_1 : decode cX2_run 1 = .ok (.getfield 27, 3) := by decide +kernel
theorem dX2_run_4 : decode cX2_run 4 = .ok (.aload_n 1, 1) := by decide +kernel
theorem dX2_run_5 : decode cX2_run 5 = .ok (.invokevirtual 31, 3) := by decide +kernel
theorem dX2_run_8 : decode cX2_run 8 = .ok (.aload_n 0, 1) := by decide +kernel
theorem dX2_run_9 : decode cX2_run 9 = .ok (.iconst 0, 1) := by decide +kernel
theorem dX2_run_10 : decode cX2_run 10 = .ok (.putfield 35, 3) := by decide +kernel
theorem dX2_run_13 : decode cX2_run 13 = .ok (.aload_n 0, 1) := by decide +kernel
theorem dX2_run_14 : decode cX2_run 14 = .ok (.iconst 1, 1) := by decide +kernel
theorem dX2_run_15 : decode cX2_run 15 = .ok (.aload_n 0, 1) := by decide +kernel
theorem dX2_run_16 : decode cX2_run 16 = .ok (.getfield 27, 3) := by decide +kernel
theorem dX2_run_19 : decode cX2_run 19 = .ok (.getfield 39, 3) := by decide +kernel
theorem dX2_run_22 : decode cX2_run 22 = .ok (.ishl, 1) := by decide +kernel
theorem dX2_run_23 : decode cX2_run 23 = .ok (.iconst 1, 1) := by decide +kernel
theorem dX2_run_24 : decode cX2_run 24 = .ok (.isub, 1) := by decide +kernel
theorem dX2_run_25 : decode cX2_run 25 = .ok (.putfield 43, 3) := by decide +kernel
theorem dX2_run_28 : decode cX2_run 28 = .ok (.iconst 0, 1) := by decide +kernel
theorem dX2_run_29 : decode cX2_run 29 = .ok (.istore_n 2, 1) := by decide +kernel
theorem dX2_run_30 : decode cX2_run 30 = .ok (.iload_n 2, 1) := by decide +kernel
theorem dX2_run_31 : decode cX2_run 31 = .ok (.aload_n 0, 1) := by decide +kernel
theorem dX2_run_32 : decode cX2_run 32 = .ok (.getfield 27, 3) := by decide +kernel
theorem dX2_run_35 : decode cX2_run 35 = .ok (.getfield 39, 3) := by decide +kernel
theorem dX2_run_38 : decode cX2_run 38 = .ok (.if_icmp .ge 153, 3) := by decide +kernel
theorem dX2_run_41 : decode cX2_run 41 = .ok (.aload_n 0, 1) := by decide +kernel
theorem dX2_run_42 : decode cX2_run 42 = .ok (.invokevirtual 46, 3) := by decide +kernel
theorem dX2_run_45 : decode cX2_run 45 = .ok (.istore_n 3, 1) := by decide +kernel
theorem dX2_run_46 : decode cX2_run 46 = .ok (.aload_n 0, 1) := by decide +kernel
theorem dX2_run_47 : decode cX2_run 47 = .ok (.dup, 1) := by decide +kernel
theorem dX2_run_48 : decode cX2_run 48 = .ok (.getfield 43, 3) := by decide +kernel
theorem dX2_run_51 : decode cX2_run 51 = .ok (.iconst 1, 1) := by decide +kernel
theorem dX2_run_52 : decode cX2_run 52 = .ok (.iload_n 3, 1) := by decide +kernel
theorem dX2_run_53 : decode cX2_run 53 = .ok (.ishl, 1) := by decide +kernel
theorem dX2_run_54 : decode cX2_run 54 = .ok (.iconst (-1), 1) := by decide +kernel
theorem dX2_run_55 : decode cX2_run 55 = .ok (.ixor, 1) := by decide +kernel
theorem dX2_run_56 : decode cX2_run 56 = .ok (.iand, 1) := by decide +kernel
theorem dX2_run_57 : decode cX2_run 57 = .ok (.putfield 43, 3) := by decide +kernel
theorem dX2_run_60 : decode cX2_run 60 = .ok (.aload_n 0, 1) := by decide +kernel
theorem dX2_run_61 : decode cX2_run 61 = .ok (.getfield 9, 3) := by decide +kernel
theorem dX2_run_64 : decode cX2_run 64 = .ok (.iload_n 2, 1) := by decide +kernel
theorem dX2_run_65 : decode cX2_run 65 = .ok (.iload_n 3, 1) := by decide +kernel
theorem dX2_run_66 : decode cX2_run 66 = .ok (.iastore, 1) := by decide +kernel
theorem dX2_run_67 : decode cX2_run 67 = .ok (.aload_n 0, 1) := by decide +kernel
theorem dX2_run_68 : decode cX2_run 68 = .ok (.getfield 21, 3) := by decide +kernel
theorem dX2_run_71 : decode cX2_run 71 = .ok (.iload_n 2, 1) := by decide +kernel
theorem dX2_run_72 : decode cX2_run 72 = .ok (.aload_n 0, 1) := by decide +kernel
theorem dX2_run_73 : decode cX2_run 73 = .ok (.iload_n 3, 1) := by decide +kernel
theorem dX2_run_74 : decode cX2_run 74 = .ok (.invokevirtual 50, 3) := by decide +kernel
theorem dX2_run_77 : decode cX2_run 77 = .ok (.iastore, 1) := by decide +kernel
theorem dX2_run_78 : decode cX2_run 78 = .ok (.aload_n 0, 1) := by decide +kernel
theorem dX2_run_79 : decode cX2_run 79 = .ok (.getfield 15, 3) := by decide +kernel
theorem dX2_run_82 : decode cX2_run 82 = .ok (.iload_n 2, 1) := by decide +kernel
theorem dX2_run_83 : decode cX2_run 83 = .ok (.aload_n 0, 1) := by decide +kernel
theorem dX2_run_84 : decode cX2_run 84 = .ok (.getfield 21, 3) := by decide +kernel
theorem dX2_run_87 : decode cX2_run 87 = .ok (.iload_n 2, 1) := by decide +kernel
theorem dX2_run_88 : decode cX2_run 88 = .ok (.iaload, 1) := by decide +kernel
theorem dX2_run_89 : decode cX2_run 89 = .ok (.invokestatic 54, 3) := by decide +kernel
theorem dX2_run_92 : decode cX2_run 92 = .ok (.iconst 3, 1) := by decide +kernel
theorem dX2_run_93 : decode cX2_run 93 = .ok (.invokestatic 59, 3) := by decide +kernel
theorem dX2_run_96 : decode cX2_run 96 = .ok (.iastore, 1) := by decide +kernel
theorem dX2_run_97 : decode cX2_run 97 = .ok (.aload_n 0, 1) := by decide +kernel
theorem dX2_run_98 : decode cX2_run 98 = .ok (.getfield 21, 3) := by decide +kernel
theorem dX2_run_101 : decode cX2_run 101 = .ok (.iload_n 2, 1) := by decide +kernel
theorem dX2_run_102 : decode cX2_run 102 = .ok (.iaload, 1) := by decide +kernel
theorem dX2_run_103 : decode cX2_run 103 = .ok (.invokestatic 65, 3) := by decide +kernel
theorem dX2_run_106 : decode cX2_run 106 = .ok (.istore 4, 2) := by decide +kernel
theorem dX2_run_108 : decode cX2_run 108 = .ok (.aload_n 0, 1) := by decide +kernel
theorem dX2_run_109 : decode cX2_run 109 = .ok (.getfield 15, 3) := by decide +kernel
theorem dX2_run_112 : decode cX2_run 112 = .ok (.iload_n 2, 1) := by decide +kernel
theorem dX2_run_113 : decode cX2_run 113 = .ok (.iaload, 1) := by decide +kernel
theorem dX2_run_114 : decode cX2_run 114 = .ok (.iconst 1, 1) := by decide +kernel
theorem dX2_run_115 : decode cX2_run 115 = .ok (.if_icmp .ne 13, 3) := by decide +kernel
theorem dX2_run_118 : decode cX2_run 118 = .ok (.aload_n 0, 1) := by decide +kernel
theorem dX2_run_119 : decode cX2_run 119 = .ok (.iload_n 3, 1) := by decide +kernel
theorem dX2_run_120 : decode cX2_run 120 = .ok (.iload 4, 2) := by decide +kernel
theorem dX2_run_122 : decode cX2_run 122 = .ok (.invokevirtual 68, 3) := by decide +kernel
theorem dX2_run_125 : decode cX2_run 125 = .ok (.goto 60, 3) := by decide +kernel
theorem dX2_run_128 : decode cX2_run 128 = .ok (.aload_n 0, 1) := by decide +kernel
theorem dX2_run_129 : decode cX2_run 129 = .ok (.getfield 15, 3) := by decide +kernel
theorem dX2_run_132 : decode cX2_run 132 = .ok (.iload_n 2, 1) := by decide +kernel
theorem dX2_run_133 : decode cX2_run 133 = .ok (.iaload, 1) := by decide +kernel
theorem dX2_run_134 : decode cX2_run 134 = .ok (.iconst 2, 1) := by decide +kernel
theorem dX2_run_135 : decode cX2_run 135 = .ok (.if_icmp .ne 29, 3) := by decide +kernel
theorem dX2_run_138 : decode cX2_run 138 = .ok (.aload_n 0, 1) := by decide +kernel
theorem dX2_run_139 : decode cX2_run 139 = .ok (.iload_n 3, 1) := by decide +kernel
theorem dX2_run_140 : decode cX2_run 140 = .ok (.iload 4, 2) := by decide +kernel
theorem dX2_run_142 : decode cX2_run 142 = .ok (.aload_n 0, 1) := by decide +kernel
theorem dX2_run_143 : decode cX2_run 143 = .ok (.getfield 21, 3) := by decide +kernel
theorem dX2_run_146 : decode cX2_run 146 = .ok (.iload_n 2, 1) := by decide +kernel
theorem dX2_run_147 : decode cX2_run 147 = .ok (.iaload, 1) := by decide +kernel
theorem dX2_run_148 : decode cX2_run 148 = .ok (.iconst 1, 1) := by decide +kernel
theorem dX2_run_149 : decode cX2_run 149 = .ok (.iload 4, 2) := by decide +kernel
theorem dX2_run_151 : decode cX2_run 151 = .ok (.ishl, 1) := by decide +kernel
theorem dX2_run_152 : decode cX2_run 152 = .ok (.iconst (-1), 1) := by decide +kernel
theorem dX2_run_153 : decode cX2_run 153 = .ok (.ixor, 1) := by decide +kernel
theorem dX2_run_154 : decode cX2_run 154 = .ok (.iand, 1) := by decide +kernel
theorem dX2_run_155 : decode cX2_run 155 = .ok (.invokestatic 65, 3) := by decide +kernel
theorem dX2_run_158 : decode cX2_run 158 = .ok (.invokevirtual 72, 3) := by decide +kernel
theorem dX2_run_161 : decode cX2_run 161 = .ok (.goto 24, 3) := by decide +kernel
theorem dX2_run_164 : decode cX2_run 164 = .ok (.aload_n 0, 1) := by decide +kernel
theorem dX2_run_165 : decode cX2_run 165 = .ok (.getfield 15, 3) := by decide +kernel
theorem dX2_run_168 : decode cX2_run 168 = .ok (.iload_n 2, 1) := by decide +kernel
theorem dX2_run_169 : decode cX2_run 169 = .ok (.iaload, 1) := by decide +kernel
theorem dX2_run_170 : decode cX2_run 170 = .ok (.iconst 3, 1) := by decide +kernel
theorem dX2_run_171 : decode cX2_run 171 = .ok (.if_icmp .ne 14, 3) := by decide +kernel
theorem dX2_run_174 : decode cX2_run 174 = .ok (.aload_n 0, 1) := by decide +kernel
theorem dX2_run_175 : decode cX2_run 175 = .ok (.iload_n 3, 1) := by decide +kernel
theorem dX2_run_176 : decode cX2_run 176 = .ok (.aload_n 0, 1) := by decide +kernel
theorem dX2_run_177 : decode cX2_run 177 = .ok (.getfield 21, 3) := by decide +kernel
theorem dX2_run_180 : decode cX2_run 180 = .ok (.iload_n 2, 1) := by decide +kernel
theorem dX2_run_181 : decode cX2_run 181 = .ok (.iaload, 1) := by decide +kernel
theorem dX2_run_182 : decode cX2_run 182 = .ok (.invokevirtual 76, 3) := by decide +kernel
theorem dX2_run_185 : decode cX2_run 185 = .ok (.iinc 2 1, 3) := by decide +kernel
theorem dX2_run_188 : decode cX2_run 188 = .ok (.goto (-158), 3) := by decide +kernel
theorem dX2_run_191 : decode cX2_run 191 = .ok (.aload_n 0, 1) := by decide +kernel
theorem dX2_run_192 : decode cX2_run 192 = .ok (.invokevirtual 79, 3) := by decide +kernel
theorem dX2_run_195 : decode cX2_run 195 = .ok (.return_, 1) := by decide +kernel
theorem dX2_matesLeft_0 : decode cX2_matesLeft 0 = .ok (.aload_n 0, 1) := by decide +kernel
theorem dX2_matesLeft_1 : decode cX2_matesLeft 1 = .ok (.getfield 27, 3) := by decide +kernel
theorem dX2_matesLeft_4 : decode cX2_matesLeft 4 = .ok (.getfield 82, 3) := by decide +kernel
theorem dX2_matesLeft_7 : decode cX2_matesLeft 7 = .ok (.iload_n 1, 1) := by decide +kernel
theorem dX2_matesLeft_8 : decode cX2_matesLeft 8 = .ok (.iaload, 1) := by decide +kernel
theorem dX2_matesLeft_9 : decode cX2_matesLeft 9 = .ok (.aload_n 0, 1) := by decide +kernel
theorem dX2_matesLeft_10 : decode cX2_matesLeft 10 = .ok (.getfield 43, 3) := by decide +kernel
theorem dX2_matesLeft_13 : decode cX2_matesLeft 13 = .ok (.iand, 1) := by decide +kernel
theorem dX2_matesLeft_14 : decode cX2_matesLeft 14 = .ok (.ireturn, 1) := by decide +kernel
theorem dX2_nextNode_0 : decode cX2_nextNode 0 = .ok (.iconst (-1), 1) := by decide +kernel
theorem dX2_nextNode_1 : decode cX2_nextNode 1 = .ok (.istore_n 1, 1) := by decide +kernel
theorem dX2_nextNode_2 : decode cX2_nextNode 2 = .ok (.iconst (-1), 1) := by decide +kernel
theorem dX2_nextNode_3 : decode cX2_nextNode 3 = .ok (.istore_n 2, 1) := by decide +kernel
theorem dX2_nextNode_4 : decode cX2_nextNode 4 = .ok (.iconst 0, 1) := by decide +kernel
theorem dX2_nextNode_5 : decode cX2_nextNode 5 = .ok (.istore_n 3, 1) := by decide +kernel
theorem dX2_nextNode_6 : decode cX2_nextNode 6 = .ok (.iload_n 3, 1) := by decide +kernel
theorem dX2_nextNode_7 : decode cX2_nextNode 7 = .ok (.aload_n 0, 1) := by decide +kernel
theorem dX2_nextNode_8 : decode cX2_nextNode 8 = .ok (.getfield 27, 3) := by decide +kernel
theorem dX2_nextNode_11 : decode cX2_nextNode 11 = .ok (.getfield 39, 3) := by decide +kernel
theorem dX2_nextNode_14 : decode cX2_nextNode 14 = .ok (.if_icmp .ge 58, 3) := by decide +kernel
theorem dX2_nextNode_17 : decode cX2_nextNode 17 = .ok (.aload_n 0, 1) := by decide +kernel
theorem dX2_nextNode_18 : decode cX2_nextNode 18 = .ok (.getfield 43, 3) := by decide +kernel
theorem dX2_nextNode_21 : decode cX2_nextNode 21 = .ok (.iload_n 3, 1) := by decide +kernel
theorem dX2_nextNode_22 : decode cX2_nextNode 22 = .ok (.invokestatic 85, 3) := by decide +kernel
theorem dX2_nextNode_25 : decode cX2_nextNode 25 = .ok (.ifCond .eq 41, 3) := by decide +kernel
theorem dX2_nextNode_28 : decode cX2_nextNode 28 = .ok (.iload_n 1, 1) := by decide +kernel
theorem dX2_nextNode_29 : decode cX2_nextNode 29 = .ok (.ifCond .lt 12, 3) := by decide +kernel
theorem dX2_nextNode_32 : decode cX2_nextNode 32 = .ok (.aload_n 0, 1) := by decide +kernel
theorem dX2_nextNode_33 : decode cX2_nextNode 33 = .ok (.iload_n 3, 1) := by decide +kernel
theorem dX2_nextNode_34 : decode cX2_nextNode 34 = .ok (.iload_n 1, 1) := by decide +kernel
theorem dX2_nextNode_35 : decode cX2_nextNode 35 = .ok (.invokevirtual 89, 3) := by decide +kernel
theorem dX2_nextNode_38 : decode cX2_nextNode 38 = .ok (.ifCond .eq 7, 3) := by decide +kernel
theorem dX2_nextNode_41 : decode cX2_nextNode 41 = .ok (.iload_n 3, 1) := by decide +kernel
theorem dX2_nextNode_42 : decode cX2_nextNode 42 = .ok (.goto 4, 3) := by decide +kernel
theorem dX2_nextNode_45 : decode cX2_nextNode 45 = .ok (.iload_n 1, 1) := by decide +kernel
theorem dX2_nextNode_46 : decode cX2_nextNode 46 = .ok (.istore_n 1, 1) := by decide +kernel
theorem dX2_nextNode_47 : decode cX2_nextNode 47 = .ok (.iload_n 2, 1) := by decide +kernel
theorem dX2_nextNode_48 : decode cX2_nextNode 48 = .ok (.ifCond .lt 12, 3) := by decide +kernel
theorem dX2_nextNode_51 : decode cX2_nextNode 51 = .ok (.aload_n 0, 1) := by decide +kernel
theorem dX2_nextNode_52 : decode cX2_nextNode 52 = .ok (.iload_n 2, 1) := by decide +kernel
theorem dX2_nextNode_53 : decode cX2_nextNode 53 = .ok (.iload_n 3, 1) := by decide +kernel
theorem dX2_nextNode_54 : decode cX2_nextNode 54 = .ok (.invokevirtual 89, 3) := by decide +kernel
theorem dX2_nextNode_57 : decode cX2_nextNode 57 = .ok (.ifCond .eq 7, 3) := by decide +kernel
theorem dX2_nextNode_60 : decode cX2_nextNode 60 = .ok (.iload_n 3, 1) := by decide +kernel
theorem dX2_nextNode_61 : decode cX2_nextNode 61 = .ok (.goto 4, 3) := by decide +kernel
theorem dX2_nextNode_64 : decode cX2_nextNode 64 = .ok (.iload_n 2, 1) := by decide +kernel
theorem dX2_nextNode_65 : decode cX2_nextNode 65 = .ok (.istore_n 2, 1) := by decide +kernel
theorem dX2_nextNode_66 : decode cX2_nextNode 66 = .ok (.iinc 3 1, 3) := by decide +kernel
theorem dX2_nextNode_69 : decode cX2_nextNode 69 = .ok (.goto (-63), 3) := by decide +kernel
theorem dX2_nextNode_72 : decode cX2_nextNode 72 = .ok (.iload_n 1, 1) := by decide +kernel
theorem dX2_nextNode_73 : decode cX2_nextNode 73 = .ok (.ifCond .lt 7, 3) := by decide +kernel
theorem dX2_nextNode_76 : decode cX2_nextNode 76 = .ok (.iload_n 2, 1) := by decide +kernel
theorem dX2_nextNode_77 : decode cX2_nextNode 77 = .ok (.ifCond .ge 5, 3) := by decide +kernel
theorem dX2_nextNode_80 : decode cX2_nextNode 80 = .ok (.iconst 0, 1) := by decide +kernel
theorem dX2_nextNode_81 : decode cX2_nextNode 81 = .ok (.ireturn, 1) := by decide +kernel
theorem dX2_nextNode_82 : decode cX2_nextNode 82 = .ok (.aload_n 0, 1) := by decide +kernel
theorem dX2_nextNode_83 : decode cX2_nextNode 83 = .ok (.iload_n 1, 1) := by decide +kernel
theorem dX2_nextNode_84 : decode cX2_nextNode 84 = .ok (.invokevirtual 50, 3) := by decide +kernel
theorem dX2_nextNode_87 : decode cX2_nextNode 87 = .ok (.invokestatic 54, 3) := by decide +kernel
theorem dX2_nextNode_90 : decode cX2_nextNode 90 = .ok (.iconst 2, 1) := by decide +kernel
theorem dX2_nextNode_91 : decode cX2_nextNode 91 = .ok (.if_icmp .gt 7, 3) := by decide +kernel
theorem dX2_nextNode_94 : decode cX2_nextNode 94 = .ok (.iload_n 1, 1) := by decide +kernel
theorem dX2_nextNode_95 : decode cX2_nextNode 95 = .ok (.goto 4, 3) := by decide +kernel
theorem dX2_nextNode_98 : decode cX2_nextNode 98 = .ok (.iload_n 2, 1) := by decide +kernel
theorem dX2_nextNode_99 : decode cX2_nextNode 99 = .ok (.ireturn, 1) := by decide +kernel
theorem dX2_comesAhead_0 : decode cX2_comesAhead 0 = .ok (.aload_n 0, 1) := by decide +kernel
theorem dX2_comesAhead_1 : decode cX2_comesAhead 1 = .ok (.iload_n 1, 1) := by decide +kernel
theorem dX2_comesAhead_2 : decode cX2_comesAhead 2 = .ok (.invokevirtual 50, 3) := by decide +kernel
theorem dX2_comesAhead_5 : decode cX2_comesAhead 5 = .ok (.invokestatic 54, 3) := by decide +kernel
theorem dX2_comesAhead_8 : decode cX2_comesAhead 8 = .ok (.istore_n 3, 1) := by decide +kernel
theorem dX2_comesAhead_9 : decode cX2_comesAhead 9 = .ok (.aload_n 0, 1) := by decide +kernel
theorem dX2_comesAhead_10 : decode cX2_comesAhead 10 = .ok (.iload_n 2, 1) := by decide +kernel
theorem dX2_comesAhead_11 : decode cX2_comesAhead 11 = .ok (.invokevirtual 50, 3) := by decide +kernel
theorem dX2_comesAhead_14 : decode cX2_comesAhead 14 = .ok (.invokestatic 54, 3) := by decide +kernel
theorem dX2_comesAhead_17 : decode cX2_comesAhead 17 = .ok (.istore 4, 2) := by decide +kernel
theorem dX2_comesAhead_19 : decode cX2_comesAhead 19 = .ok (.iload_n 3, 1) := by decide +kernel
theorem dX2_comesAhead_20 : decode cX2_comesAhead 20 = .ok (.iload 4, 2) := by decide +kernel
theorem dX2_comesAhead_22 : decode cX2_comesAhead 22 = .ok (.if_icmp .eq 15, 3) := by decide +kernel
theorem dX2_comesAhead_25 : decode cX2_comesAhead 25 = .ok (.iload_n 3, 1) := by decide +kernel
theorem dX2_comesAhead_26 : decode cX2_comesAhead 26 = .ok (.iload 4, 2) := by decide +kernel
theorem dX2_comesAhead_28 : decode cX2_comesAhead 28 = .ok (.if_icmp .ge 7, 3) := by decide +kernel
theorem dX2_comesAhead_31 : decode cX2_comesAhead 31 = .ok (.iconst 1, 1) := by decide +kernel
theorem dX2_comesAhead_32 : decode cX2_comesAhead 32 = .ok (.goto 4, 3) := by decide +kernel
theorem dX2_comesAhead_35 : decode cX2_comesAhead 35 = .ok (.iconst 0, 1) := by decide +kernel
theorem dX2_comesAhead_36 : decode cX2_comesAhead 36 = .ok (.ireturn, 1) := by decide +kernel
theorem dX2_comesAhead_37 : decode cX2_comesAhead 37 = .ok (.aload_n 0, 1) := by decide +kernel
theorem dX2_comesAhead_38 : decode cX2_comesAhead 38 = .ok (.getfield 27, 3) := by decide +kernel
theorem dX2_comesAhead_41 : decode cX2_comesAhead 41 = .ok (.getfield 92, 3) := by decide +kernel
theorem dX2_comesAhead_44 : decode cX2_comesAhead 44 = .ok (.iload_n 1, 1) := by decide +kernel
theorem dX2_comesAhead_45 : decode cX2_comesAhead 45 = .ok (.iaload, 1) := by decide +kernel
theorem dX2_comesAhead_46 : decode cX2_comesAhead 46 = .ok (.aload_n 0, 1) := by decide +kernel
theorem dX2_comesAhead_47 : decode cX2_comesAhead 47 = .ok (.getfield 27, 3) := by decide +kernel
theorem dX2_comesAhead_50 : decode cX2_comesAhead 50 = .ok (.getfield 92, 3) := by decide +kernel
theorem dX2_comesAhead_53 : decode cX2_comesAhead 53 = .ok (.iload_n 2, 1) := by decide +kernel
theorem dX2_comesAhead_54 : decode cX2_comesAhead 54 = .ok (.iaload, 1) := by decide +kernel
theorem dX2_comesAhead_55 : decode cX2_comesAhead 55 = .ok (.if_icmp .eq 30, 3) := by decide +kernel
theorem dX2_comesAhead_58 : decode cX2_comesAhead 58 = .ok (.aload_n 0, 1) := by decide +kernel
theorem dX2_comesAhead_59 : decode cX2_comesAhead 59 = .ok (.getfield 27, 3) := by decide +kernel
theorem dX2_comesAhead_62 : decode cX2_comesAhead 62 = .ok (.getfield 92, 3) := by decide +kernel
theorem dX2_comesAhead_65 : decode cX2_comesAhead 65 = .ok (.iload_n 1, 1) := by decide +kernel
theorem dX2_comesAhead_66 : decode cX2_comesAhead 66 = .ok (.iaload, 1) := by decide +kernel
theorem dX2_comesAhead_67 : decode cX2_comesAhead 67 = .ok (.aload_n 0, 1) := by decide +kernel
theorem dX2_comesAhead_68 : decode cX2_comesAhead 68 = .ok (.getfield 27, 3) := by decide +kernel
theorem dX2_comesAhead_71 : decode cX2_comesAhead 71 = .ok (.getfield 92, 3) := by decide +kernel
theorem dX2_comesAhead_74 : decode cX2_comesAhead 74 = .ok (.iload_n 2, 1) := by decide +kernel
theorem dX2_comesAhead_75 : decode cX2_comesAhead 75 = .ok (.iaload, 1) := by decide +kernel
theorem dX2_comesAhead_76 : decode cX2_comesAhead 76 = .ok (.if_icmp .ge 7, 3) := by decide +kernel
theorem dX2_comesAhead_79 : decode cX2_comesAhead 79 = .ok (.iconst 1, 1) := by decide +kernel
theorem dX2_comesAhead_80 : decode cX2_comesAhead 80 = .ok (.goto 4, 3) := by decide +kernel
theorem dX2_comesAhead_83 : decode cX2_comesAhead 83 = .ok (.iconst 0, 1) := by decide +kernel
theorem dX2_comesAhead_84 : decode cX2_comesAhead 84 = .ok (.ireturn, 1) := by decide +kernel
theorem dX2_comesAhead_85 : decode cX2_comesAhead 85 = .ok (.iload_n 1, 1) := by decide +kernel
theorem dX2_comesAhead_86 : decode cX2_comesAhead 86 = .ok (.iload_n 2, 1) := by decide +kernel
theorem dX2_comesAhead_87 : decode cX2_comesAhead 87 = .ok (.if_icmp .ge 7, 3) := by decide +kernel
theorem dX2_comesAhead_90 : decode cX2_comesAhead 90 = .ok (.iconst 1, 1) := by decide +kernel
theorem dX2_comesAhead_91 : decode cX2_comesAhead 91 = .ok (.goto 4, 3) := by decide +kernel
theorem dX2_comesAhead_94 : decode cX2_comesAhead 94 = .ok (.iconst 0, 1) := by decide +kernel
theorem dX2_comesAhead_95 : decode cX2_comesAhead 95 = .ok (.ireturn, 1) := by decide +kernel
theorem dX2_foldIntoOne_0 : decode cX2_foldIntoOne 0 = .ok (.iconst 0, 1) := by decide +kernel
theorem dX2_foldIntoOne_1 : decode cX2_foldIntoOne 1 = .ok (.istore_n 3, 1) := by decide +kernel
theorem dX2_foldIntoOne_2 : decode cX2_foldIntoOne 2 = .ok (.iload_n 3, 1) := by decide +kernel
theorem dX2_foldIntoOne_3 : decode cX2_foldIntoOne 3 = .ok (.aload_n 0, 1) := by decide +kernel
theorem dX2_foldIntoOne_4 : decode cX2_foldIntoOne 4 = .ok (.getfield 27, 3) := by decide +kernel
theorem dX2_foldIntoOne_7 : decode cX2_foldIntoOne 7 = .ok (.getfield 92, 3) := by decide +kernel
theorem dX2_foldIntoOne_10 : decode cX2_foldIntoOne 10 = .ok (.iload_n 2, 1) := by decide +kernel
theorem dX2_foldIntoOne_11 : decode cX2_foldIntoOne 11 = .ok (.iaload, 1) := by decide +kernel
theorem dX2_foldIntoOne_12 : decode cX2_foldIntoOne 12 = .ok (.if_icmp .ge 77, 3) := by decide +kernel
theorem dX2_foldIntoOne_15 : decode cX2_foldIntoOne 15 = .ok (.ldc 95, 2) := by decide +kernel
theorem dX2_foldIntoOne_17 : decode cX2_foldIntoOne 17 = .ok (.istore 4, 2) := by decide +kernel
theorem dX2_foldIntoOne_19 : decode cX2_foldIntoOne 19 = .ok (.iconst 0, 1) := by decide +kernel
theorem dX2_foldIntoOne_20 : decode cX2_foldIntoOne 20 = .ok (.istore 5, 2) := by decide +kernel
theorem dX2_foldIntoOne_22 : decode cX2_foldIntoOne 22 = .ok (.iload 5, 2) := by decide +kernel
theorem dX2_foldIntoOne_24 : decode cX2_foldIntoOne 24 = .ok (.aload_n 0, 1) := by decide +kernel
theorem dX2_foldIntoOne_25 : decode cX2_foldIntoOne 25 = .ok (.getfield 27, 3) := by decide +kernel
theorem dX2_foldIntoOne_28 : decode cX2_foldIntoOne 28 = .ok (.getfield 92, 3) := by decide +kernel
theorem dX2_foldIntoOne_31 : decode cX2_foldIntoOne 31 = .ok (.iload_n 1, 1) := by decide +kernel
theorem dX2_foldIntoOne_32 : decode cX2_foldIntoOne 32 = .ok (.iaload, 1) := by decide +kernel
theorem dX2_foldIntoOne_33 : decode cX2_foldIntoOne 33 = .ok (.if_icmp .ge 39, 3) := by decide +kernel
theorem dX2_foldIntoOne_36 : decode cX2_foldIntoOne 36 = .ok (.iload 4, 2) := by decide +kernel
theorem dX2_foldIntoOne_38 : decode cX2_foldIntoOne 38 = .ok (.aload_n 0, 1) := by decide +kernel
theorem dX2_foldIntoOne_39 : decode cX2_foldIntoOne 39 = .ok (.getfield 27, 3) := by decide +kernel
theorem dX2_foldIntoOne_42 : decode cX2_foldIntoOne 42 = .ok (.iload_n 1, 1) := by decide +kernel
theorem dX2_foldIntoOne_43 : decode cX2_foldIntoOne 43 = .ok (.iload 5, 2) := by decide +kernel
theorem dX2_foldIntoOne_45 : decode cX2_foldIntoOne 45 = .ok (.invokevirtual 96, 3) := by decide +kernel
theorem dX2_foldIntoOne_48 : decode cX2_foldIntoOne 48 = .ok (.aload_n 0, 1) := by decide +kernel
theorem dX2_foldIntoOne_49 : decode cX2_foldIntoOne 49 = .ok (.getfield 27, 3) := by decide +kernel
theorem dX2_foldIntoOne_52 : decode cX2_foldIntoOne 52 = .ok (.iload_n 1, 1) := by decide +kernel
theorem dX2_foldIntoOne_53 : decode cX2_foldIntoOne 53 = .ok (.iload_n 2, 1) := by decide +kernel
theorem dX2_foldIntoOne_54 : decode cX2_foldIntoOne 54 = .ok (.iload 5, 2) := by decide +kernel
theorem dX2_foldIntoOne_56 : decode cX2_foldIntoOne 56 = .ok (.iload_n 3, 1) := by decide +kernel
theorem dX2_foldIntoOne_57 : decode cX2_foldIntoOne 57 = .ok (.invokevirtual 99, 3) := by decide +kernel
theorem dX2_foldIntoOne_60 : decode cX2_foldIntoOne 60 = .ok (.iadd, 1) := by decide +kernel
theorem dX2_foldIntoOne_61 : decode cX2_foldIntoOne 61 = .ok (.invokestatic 59, 3) := by decide +kernel
theorem dX2_foldIntoOne_64 : decode cX2_foldIntoOne 64 = .ok (.istore 4, 2) := by decide +kernel
theorem dX2_foldIntoOne_66 : decode cX2_foldIntoOne 66 = .ok (.iinc 5 1, 3) := by decide +kernel
theorem dX2_foldIntoOne_69 : decode cX2_foldIntoOne 69 = .ok (.goto (-47), 3) := by decide +kernel
theorem dX2_foldIntoOne_72 : decode cX2_foldIntoOne 72 = .ok (.aload_n 0, 1) := by decide +kernel
theorem dX2_foldIntoOne_73 : decode cX2_foldIntoOne 73 = .ok (.getfield 27, 3) := by decide +kernel
theorem dX2_foldIntoOne_76 : decode cX2_foldIntoOne 76 = .ok (.iload_n 2, 1) := by decide +kernel
theorem dX2_foldIntoOne_77 : decode cX2_foldIntoOne 77 = .ok (.iload_n 3, 1) := by decide +kernel
theorem dX2_foldIntoOne_78 : decode cX2_foldIntoOne 78 = .ok (.iload 4, 2) := by decide +kernel
theorem dX2_foldIntoOne_80 : decode cX2_foldIntoOne 80 = .ok (.invokevirtual 103, 3) := by decide +kernel
theorem dX2_foldIntoOne_83 : decode cX2_foldIntoOne 83 = .ok (.iinc 3 1, 3) := by decide +kernel
theorem dX2_foldIntoOne_86 : decode cX2_foldIntoOne 86 = .ok (.goto (-84), 3) := by decide +kernel
theorem dX2_foldIntoOne_89 : decode cX2_foldIntoOne 89 = .ok (.return_, 1) := by decide +kernel
theorem dX2_foldIntoTwo_0 : decode cX2_foldIntoTwo 0 = .ok (.aload_n 0, 1) := by decide +kernel
theorem dX2_foldIntoTwo_1 : decode cX2_foldIntoTwo 1 = .ok (.getfield 27, 3) := by decide +kernel
theorem dX2_foldIntoTwo_4 : decode cX2_foldIntoTwo 4 = .ok (.iload_n 2, 1) := by decide +kernel
theorem dX2_foldIntoTwo_5 : decode cX2_foldIntoTwo 5 = .ok (.iload_n 3, 1) := by decide +kernel
theorem dX2_foldIntoTwo_6 : decode cX2_foldIntoTwo 6 = .ok (.invokevirtual 106, 3) := by decide +kernel
theorem dX2_foldIntoTwo_9 : decode cX2_foldIntoTwo 9 = .ok (.ifCond .ne 22, 3) := by decide +kernel
theorem dX2_foldIntoTwo_12 : decode cX2_foldIntoTwo 12 = .ok (.aload_n 0, 1) := by decide +kernel
theorem dX2_foldIntoTwo_13 : decode cX2_foldIntoTwo 13 = .ok (.getfield 27, 3) := by decide +kernel
theorem dX2_foldIntoTwo_16 : decode cX2_foldIntoTwo 16 = .ok (.getfield 82, 3) := by decide +kernel
theorem dX2_foldIntoTwo_19 : decode cX2_foldIntoTwo 19 = .ok (.aload_n 0, 1) := by decide +kernel
theorem dX2_foldIntoTwo_20 : decode cX2_foldIntoTwo 20 = .ok (.getfield 27, 3) := by decide +kernel
theorem dX2_foldIntoTwo_23 : decode cX2_foldIntoTwo 23 = .ok (.getfield 109, 3) := by decide +kernel
theorem dX2_foldIntoTwo_26 : decode cX2_foldIntoTwo 26 = .ok (.iload_n 2, 1) := by decide +kernel
theorem dX2_foldIntoTwo_27 : decode cX2_foldIntoTwo 27 = .ok (.iload_n 3, 1) := by decide +kernel
theorem dX2_foldIntoTwo_28 : decode cX2_foldIntoTwo 28 = .ok (.invokestatic 112, 3) := by decide +kernel
theorem dX2_foldIntoTwo_31 : decode cX2_foldIntoTwo 31 = .ok (.iconst 0, 1) := by decide +kernel
theorem dX2_foldIntoTwo_32 : decode cX2_foldIntoTwo 32 = .ok (.istore 4, 2) := by decide +kernel
theorem dX2_foldIntoTwo_34 : decode cX2_foldIntoTwo 34 = .ok (.iload 4, 2) := by decide +kernel
theorem dX2_foldIntoTwo_36 : decode cX2_foldIntoTwo 36 = .ok (.aload_n 0, 1) := by decide +kernel
theorem dX2_foldIntoTwo_37 : decode cX2_foldIntoTwo 37 = .ok (.getfield 27, 3) := by decide +kernel
theorem dX2_foldIntoTwo_40 : decode cX2_foldIntoTwo 40 = .ok (.getfield 92, 3) := by decide +kernel
theorem dX2_foldIntoTwo_43 : decode cX2_foldIntoTwo 43 = .ok (.iload_n 2, 1) := by decide +kernel
theorem dX2_foldIntoTwo_44 : decode cX2_foldIntoTwo 44 = .ok (.iaload, 1) := by decide +kernel
theorem dX2_foldIntoTwo_45 : decode cX2_foldIntoTwo 45 = .ok (.if_icmp .ge 123, 3) := by decide +kernel
theorem dX2_foldIntoTwo_48 : decode cX2_foldIntoTwo 48 = .ok (.iconst 0, 1) := by decide +kernel
theorem dX2_foldIntoTwo_49 : decode cX2_foldIntoTwo 49 = .ok (.istore 5, 2) := by decide +kernel
theorem dX2_foldIntoTwo_51 : decode cX2_foldIntoTwo 51 = .ok (.iload 5, 2) := by decide +kernel
theorem dX2_foldIntoTwo_53 : decode cX2_foldIntoTwo 53 = .ok (.aload_n 0, 1) := by decide +kernel
theorem dX2_foldIntoTwo_54 : decode cX2_foldIntoTwo 54 = .ok (.getfield 27, 3) := by decide +kernel
theorem dX2_foldIntoTwo_57 : decode cX2_foldIntoTwo 57 = .ok (.getfield 92, 3) := by decide +kernel
theorem dX2_foldIntoTwo_60 : decode cX2_foldIntoTwo 60 = .ok (.iload_n 3, 1) := by decide +kernel
theorem dX2_foldIntoTwo_61 : decode cX2_foldIntoTwo 61 = .ok (.iaload, 1) := by decide +kernel
theorem dX2_foldIntoTwo_62 : decode cX2_foldIntoTwo 62 = .ok (.if_icmp .ge 100, 3) := by decide +kernel
theorem dX2_foldIntoTwo_65 : decode cX2_foldIntoTwo 65 = .ok (.ldc 95, 2) := by decide +kernel
theorem dX2_foldIntoTwo_67 : decode cX2_foldIntoTwo 67 = .ok (.istore 6, 2) := by decide +kernel
theorem dX2_foldIntoTwo_69 : decode cX2_foldIntoTwo 69 = .ok (.iconst 0, 1) := by decide +kernel
theorem dX2_foldIntoTwo_70 : decode cX2_foldIntoTwo 70 = .ok (.istore 7, 2) := by decide +kernel
theorem dX2_foldIntoTwo_72 : decode cX2_foldIntoTwo 72 = .ok (.iload 7, 2) := by decide +kernel
theorem dX2_foldIntoTwo_74 : decode cX2_foldIntoTwo 74 = .ok (.aload_n 0, 1) := by decide +kernel
theorem dX2_foldIntoTwo_75 : decode cX2_foldIntoTwo 75 = .ok (.getfield 27, 3) := by decide +kernel
theorem dX2_foldIntoTwo_78 : decode cX2_foldIntoTwo 78 = .ok (.getfield 92, 3) := by decide +kernel
theorem dX2_foldIntoTwo_81 : decode cX2_foldIntoTwo 81 = .ok (.iload_n 1, 1) := by decide +kernel
theorem dX2_foldIntoTwo_82 : decode cX2_foldIntoTwo 82 = .ok (.iaload, 1) := by decide +kernel
theorem dX2_foldIntoTwo_83 : decode cX2_foldIntoTwo 83 = .ok (.if_icmp .ge 58, 3) := by decide +kernel
theorem dX2_foldIntoTwo_86 : decode cX2_foldIntoTwo 86 = .ok (.aload_n 0, 1) := by decide +kernel
theorem dX2_foldIntoTwo_87 : decode cX2_foldIntoTwo 87 = .ok (.getfield 27, 3) := by decide +kernel
theorem dX2_foldIntoTwo_90 : decode cX2_foldIntoTwo 90 = .ok (.iload_n 1, 1) := by decide +kernel
theorem dX2_foldIntoTwo_91 : decode cX2_foldIntoTwo 91 = .ok (.iload_n 2, 1) := by decide +kernel
theorem dX2_foldIntoTwo_92 : decode cX2_foldIntoTwo 92 = .ok (.iload 7, 2) := by decide +kernel
theorem dX2_foldIntoTwo_94 : decode cX2_foldIntoTwo 94 = .ok (.iload 4, 2) := by decide +kernel
theorem dX2_foldIntoTwo_96 : decode cX2_foldIntoTwo 96 = .ok (.invokevirtual 99, 3) := by decide +kernel
theorem dX2_foldIntoTwo_99 : decode cX2_foldIntoTwo 99 = .ok (.aload_n 0, 1) := by decide +kernel
theorem dX2_foldIntoTwo_100 : decode cX2_foldIntoTwo 100 = .ok (.getfield 27, 3) := by decide +kernel
theorem dX2_foldIntoTwo_103 : decode cX2_foldIntoTwo 103 = .ok (.iload_n 1, 1) := by decide +kernel
theorem dX2_foldIntoTwo_104 : decode cX2_foldIntoTwo 104 = .ok (.iload_n 3, 1) := by decide +kernel
theorem dX2_foldIntoTwo_105 : decode cX2_foldIntoTwo 105 = .ok (.iload 7, 2) := by decide +kernel
theorem dX2_foldIntoTwo_107 : decode cX2_foldIntoTwo 107 = .ok (.iload 5, 2) := by decide +kernel
theorem dX2_foldIntoTwo_109 : decode cX2_foldIntoTwo 109 = .ok (.invokevirtual 99, 3) := by decide +kernel
theorem dX2_foldIntoTwo_112 : decode cX2_foldIntoTwo 112 = .ok (.iadd, 1) := by decide +kernel
theorem dX2_foldIntoTwo_113 : decode cX2_foldIntoTwo 113 = .ok (.istore 8, 2) := by decide +kernel
theorem dX2_foldIntoTwo_115 : decode cX2_foldIntoTwo 115 = .ok (.iload 6, 2) := by decide +kernel
theorem dX2_foldIntoTwo_117 : decode cX2_foldIntoTwo 117 = .ok (.aload_n 0, 1) := by decide +kernel
theorem dX2_foldIntoTwo_118 : decode cX2_foldIntoTwo 118 = .ok (.getfield 27, 3) := by decide +kernel
theorem dX2_foldIntoTwo_121 : decode cX2_foldIntoTwo 121 = .ok (.iload_n 1, 1) := by decide +kernel
theorem dX2_foldIntoTwo_122 : decode cX2_foldIntoTwo 122 = .ok (.iload 7, 2) := by decide +kernel
theorem dX2_foldIntoTwo_124 : decode cX2_foldIntoTwo 124 = .ok (.invokevirtual 96, 3) := by decide +kernel
theorem dX2_foldIntoTwo_127 : decode cX2_foldIntoTwo 127 = .ok (.iload 8, 2) := by decide +kernel
theorem dX2_foldIntoTwo_129 : decode cX2_foldIntoTwo 129 = .ok (.iadd, 1) := by decide +kernel
theorem dX2_foldIntoTwo_130 : decode cX2_foldIntoTwo 130 = .ok (.invokestatic 59, 3) := by decide +kernel
theorem dX2_foldIntoTwo_133 : decode cX2_foldIntoTwo 133 = .ok (.istore 6, 2) := by decide +kernel
theorem dX2_foldIntoTwo_135 : decode cX2_foldIntoTwo 135 = .ok (.iinc 7 1, 3) := by decide +kernel
theorem dX2_foldIntoTwo_138 : decode cX2_foldIntoTwo 138 = .ok (.goto (-66), 3) := by decide +kernel
theorem dX2_foldIntoTwo_141 : decode cX2_foldIntoTwo 141 = .ok (.aload_n 0, 1) := by decide +kernel
theorem dX2_foldIntoTwo_142 : decode cX2_foldIntoTwo 142 = .ok (.getfield 27, 3) := by decide +kernel
theorem dX2_foldIntoTwo_145 : decode cX2_foldIntoTwo 145 = .ok (.iload_n 2, 1) := by decide +kernel
theorem dX2_foldIntoTwo_146 : decode cX2_foldIntoTwo 146 = .ok (.iload_n 3, 1) := by decide +kernel
theorem dX2_foldIntoTwo_147 : decode cX2_foldIntoTwo 147 = .ok (.iload 4, 2) := by decide +kernel
theorem dX2_foldIntoTwo_149 : decode cX2_foldIntoTwo 149 = .ok (.iload 5, 2) := by decide +kernel
theorem dX2_foldIntoTwo_151 : decode cX2_foldIntoTwo 151 = .ok (.iload 6, 2) := by decide +kernel
theorem dX2_foldIntoTwo_153 : decode cX2_foldIntoTwo 153 = .ok (.invokevirtual 116, 3) := by decide +kernel
theorem dX2_foldIntoTwo_156 : decode cX2_foldIntoTwo 156 = .ok (.iinc 5 1, 3) := by decide +kernel
theorem dX2_foldIntoTwo_159 : decode cX2_foldIntoTwo 159 = .ok (.goto (-108), 3) := by decide +kernel
theorem dX2_foldIntoTwo_162 : decode cX2_foldIntoTwo 162 = .ok (.iinc 4 1, 3) := by decide +kernel
theorem dX2_foldIntoTwo_165 : decode cX2_foldIntoTwo 165 = .ok (.goto (-131), 3) := by decide +kernel
theorem dX2_foldIntoTwo_168 : decode cX2_foldIntoTwo 168 = .ok (.return_, 1) := by decide +kernel
theorem dX2_guess_0 : decode cX2_guess 0 = .ok (.aload_n 0, 1) := by decide +kernel
theorem dX2_guess_1 : decode cX2_guess 1 = .ok (.iconst 1, 1) := by decide +kernel
theorem dX2_guess_2 : decode cX2_guess 2 = .ok (.putfield 35, 3) := by decide +kernel
theorem dX2_guess_5 : decode cX2_guess 5 = .ok (.iconst 0, 1) := by decide +kernel
theorem dX2_guess_6 : decode cX2_guess 6 = .ok (.istore_n 3, 1) := by decide +kernel
theorem dX2_guess_7 : decode cX2_guess 7 = .ok (.aload_n 0, 1) := by decide +kernel
theorem dX2_guess_8 : decode cX2_guess 8 = .ok (.iload_n 1, 1) := by decide +kernel
theorem dX2_guess_9 : decode cX2_guess 9 = .ok (.iconst 0, 1) := by decide +kernel
theorem dX2_guess_10 : decode cX2_guess 10 = .ok (.iload_n 2, 1) := by decide +kernel
theorem dX2_guess_11 : decode cX2_guess 11 = .ok (.invokevirtual 120, 3) := by decide +kernel
theorem dX2_guess_14 : decode cX2_guess 14 = .ok (.istore 4, 2) := by decide +kernel
theorem dX2_guess_16 : decode cX2_guess 16 = .ok (.iconst 1, 1) := by decide +kernel
theorem dX2_guess_17 : decode cX2_guess 17 = .ok (.istore 5, 2) := by decide +kernel
theorem dX2_guess_19 : decode cX2_guess 19 = .ok (.iload 5, 2) := by decide +kernel
theorem dX2_guess_21 : decode cX2_guess 21 = .ok (.aload_n 0, 1) := by decide +kernel
theorem dX2_guess_22 : decode cX2_guess 22 = .ok (.getfield 27, 3) := by decide +kernel
theorem dX2_guess_25 : decode cX2_guess 25 = .ok (.getfield 92, 3) := by decide +kernel
theorem dX2_guess_28 : decode cX2_guess 28 = .ok (.iload_n 1, 1) := by decide +kernel
theorem dX2_guess_29 : decode cX2_guess 29 = .ok (.iaload, 1) := by decide +kernel
theorem dX2_guess_30 : decode cX2_guess 30 = .ok (.if_icmp .ge 33, 3) := by decide +kernel
theorem dX2_guess_33 : decode cX2_guess 33 = .ok (.aload_n 0, 1) := by decide +kernel
theorem dX2_guess_34 : decode cX2_guess 34 = .ok (.iload_n 1, 1) := by decide +kernel
theorem dX2_guess_35 : decode cX2_guess 35 = .ok (.iload 5, 2) := by decide +kernel
theorem dX2_guess_37 : decode cX2_guess 37 = .ok (.iload_n 2, 1) := by decide +kernel
theorem dX2_guess_38 : decode cX2_guess 38 = .ok (.invokevirtual 120, 3) := by decide +kernel
theorem dX2_guess_41 : decode cX2_guess 41 = .ok (.istore 6, 2) := by decide +kernel
theorem dX2_guess_43 : decode cX2_guess 43 = .ok (.iload 6, 2) := by decide +kernel
theorem dX2_guess_45 : decode cX2_guess 45 = .ok (.iload 4, 2) := by decide +kernel
theorem dX2_guess_47 : decode cX2_guess 47 = .ok (.if_icmp .ge 10, 3) := by decide +kernel
theorem dX2_guess_50 : decode cX2_guess 50 = .ok (.iload 6, 2) := by decide +kernel
theorem dX2_guess_52 : decode cX2_guess 52 = .ok (.istore 4, 2) := by decide +kernel
theorem dX2_guess_54 : decode cX2_guess 54 = .ok (.iload 5, 2) := by decide +kernel
theorem dX2_guess_56 : decode cX2_guess 56 = .ok (.istore_n 3, 1) := by decide +kernel
theorem dX2_guess_57 : decode cX2_guess 57 = .ok (.iinc 5 1, 3) := by decide +kernel
theorem dX2_guess_60 : decode cX2_guess 60 = .ok (.goto (-41), 3) := by decide +kernel
theorem dX2_guess_63 : decode cX2_guess 63 = .ok (.aload_n 0, 1) := by decide +kernel
theorem dX2_guess_64 : decode cX2_guess 64 = .ok (.getfield 18, 3) := by decide +kernel
theorem dX2_guess_67 : decode cX2_guess 67 = .ok (.iload_n 1, 1) := by decide +kernel
theorem dX2_guess_68 : decode cX2_guess 68 = .ok (.iload_n 3, 1) := by decide +kernel
theorem dX2_guess_69 : decode cX2_guess 69 = .ok (.iastore, 1) := by decide +kernel
theorem dX2_guess_70 : decode cX2_guess 70 = .ok (.iconst 0, 1) := by decide +kernel
theorem dX2_guess_71 : decode cX2_guess 71 = .ok (.istore 5, 2) := by decide +kernel
theorem dX2_guess_73 : decode cX2_guess 73 = .ok (.iload 5, 2) := by decide +kernel
theorem dX2_guess_75 : decode cX2_guess 75 = .ok (.aload_n 0, 1) := by decide +kernel
theorem dX2_guess_76 : decode cX2_guess 76 = .ok (.getfield 27, 3) := by decide +kernel
theorem dX2_guess_79 : decode cX2_guess 79 = .ok (.getfield 39, 3) := by decide +kernel
theorem dX2_guess_82 : decode cX2_guess 82 = .ok (.if_icmp .ge 66, 3) := by decide +kernel
theorem dX2_guess_85 : decode cX2_guess 85 = .ok (.iload_n 2, 1) := by decide +kernel
theorem dX2_guess_86 : decode cX2_guess 86 = .ok (.iload 5, 2) := by decide +kernel
theorem dX2_guess_88 : decode cX2_guess 88 = .ok (.invokestatic 85, 3) := by decide +kernel
theorem dX2_guess_91 : decode cX2_guess 91 = .ok (.ifCond .eq 51, 3) := by decide +kernel
theorem dX2_guess_94 : decode cX2_guess 94 = .ok (.iconst 0, 1) := by decide +kernel
theorem dX2_guess_95 : decode cX2_guess 95 = .ok (.istore 6, 2) := by decide +kernel
theorem dX2_guess_97 : decode cX2_guess 97 = .ok (.iload 6, 2) := by decide +kernel
theorem dX2_guess_99 : decode cX2_guess 99 = .ok (.aload_n 0, 1) := by decide +kernel
theorem dX2_guess_100 : decode cX2_guess 100 = .ok (.getfield 27, 3) := by decide +kernel
theorem dX2_guess_103 : decode cX2_guess 103 = .ok (.getfield 92, 3) := by decide +kernel
theorem dX2_guess_106 : decode cX2_guess 106 = .ok (.iload 5, 2) := by decide +kernel
theorem dX2_guess_108 : decode cX2_guess 108 = .ok (.iaload, 1) := by decide +kernel
theorem dX2_guess_109 : decode cX2_guess 109 = .ok (.if_icmp .ge 33, 3) := by decide +kernel
theorem dX2_guess_112 : decode cX2_guess 112 = .ok (.aload_n 0, 1) := by decide +kernel
theorem dX2_guess_113 : decode cX2_guess 113 = .ok (.getfield 27, 3) := by decide +kernel
theorem dX2_guess_116 : decode cX2_guess 116 = .ok (.iload 5, 2) := by decide +kernel
theorem dX2_guess_118 : decode cX2_guess 118 = .ok (.iload 6, 2) := by decide +kernel
theorem dX2_guess_120 : decode cX2_guess 120 = .ok (.aload_n 0, 1) := by decide +kernel
theorem dX2_guess_121 : decode cX2_guess 121 = .ok (.getfield 27, 3) := by decide +kernel
theorem dX2_guess_124 : decode cX2_guess 124 = .ok (.iload_n 1, 1) := by decide +kernel
theorem dX2_guess_125 : decode cX2_guess 125 = .ok (.iload 5, 2) := by decide +kernel
theorem dX2_guess_127 : decode cX2_guess 127 = .ok (.iload_n 3, 1) := by decide +kernel
theorem dX2_guess_128 : decode cX2_guess 128 = .ok (.iload 6, 2) := by decide +kernel
theorem dX2_guess_130 : decode cX2_guess 130 = .ok (.invokevirtual 99, 3) := by decide +kernel
theorem dX2_guess_133 : decode cX2_guess 133 = .ok (.invokevirtual 103, 3) := by decide +kernel
theorem dX2_guess_136 : decode cX2_guess 136 = .ok (.iinc 6 1, 3) := by decide +kernel
theorem dX2_guess_139 : decode cX2_guess 139 = .ok (.goto (-42), 3) := by decide +kernel
theorem dX2_guess_142 : decode cX2_guess 142 = .ok (.iinc 5 1, 3) := by decide +kernel
theorem dX2_guess_145 : decode cX2_guess 145 = .ok (.goto (-72), 3) := by decide +kernel
theorem dX2_guess_148 : decode cX2_guess 148 = .ok (.return_, 1) := by decide +kernel
theorem dX2_outlook_0 : decode cX2_outlook 0 = .ok (.aload_n 0, 1) := by decide +kernel
theorem dX2_outlook_1 : decode cX2_outlook 1 = .ok (.getfield 27, 3) := by decide +kernel
theorem dX2_outlook_4 : decode cX2_outlook 4 = .ok (.iload_n 1, 1) := by decide +kernel
theorem dX2_outlook_5 : decode cX2_outlook 5 = .ok (.iload_n 2, 1) := by decide +kernel
theorem dX2_outlook_6 : decode cX2_outlook 6 = .ok (.invokevirtual 96, 3) := by decide +kernel
theorem dX2_outlook_9 : decode cX2_outlook 9 = .ok (.istore 4, 2) := by decide +kernel
theorem dX2_outlook_11 : decode cX2_outlook 11 = .ok (.iconst 0, 1) := by decide +kernel
theorem dX2_outlook_12 : decode cX2_outlook 12 = .ok (.istore 5, 2) := by decide +kernel
theorem dX2_outlook_14 : decode cX2_outlook 14 = .ok (.iload 5, 2) := by decide +kernel
theorem dX2_outlook_16 : decode cX2_outlook 16 = .ok (.aload_n 0, 1) := by decide +kernel
theorem dX2_outlook_17 : decode cX2_outlook 17 = .ok (.getfield 27, 3) := by decide +kernel
theorem dX2_outlook_20 : decode cX2_outlook 20 = .ok (.getfield 39, 3) := by decide +kernel
theorem dX2_outlook_23 : decode cX2_outlook 23 = .ok (.if_icmp .ge 37, 3) := by decide +kernel
theorem dX2_outlook_26 : decode cX2_outlook 26 = .ok (.iload_n 3, 1) := by decide +kernel
theorem dX2_outlook_27 : decode cX2_outlook 27 = .ok (.iload 5, 2) := by decide +kernel
theorem dX2_outlook_29 : decode cX2_outlook 29 = .ok (.invokestatic 85, 3) := by decide +kernel
theorem dX2_outlook_32 : decode cX2_outlook 32 = .ok (.ifCond .eq 22, 3) := by decide +kernel
theorem dX2_outlook_35 : decode cX2_outlook 35 = .ok (.iload 4, 2) := by decide +kernel
theorem dX2_outlook_37 : decode cX2_outlook 37 = .ok (.aload_n 0, 1) := by decide +kernel
theorem dX2_outlook_38 : decode cX2_outlook 38 = .ok (.getfield 27, 3) := by decide +kernel
theorem dX2_outlook_41 : decode cX2_outlook 41 = .ok (.iload_n 1, 1) := by decide +kernel
theorem dX2_outlook_42 : decode cX2_outlook 42 = .ok (.iload_n 2, 1) := by decide +kernel
theorem dX2_outlook_43 : decode cX2_outlook 43 = .ok (.iload 5, 2) := by decide +kernel
theorem dX2_outlook_45 : decode cX2_outlook 45 = .ok (.invokevirtual 124, 3) := by decide +kernel
theorem dX2_outlook_48 : decode cX2_outlook 48 = .ok (.iadd, 1) := by decide +kernel
theorem dX2_outlook_49 : decode cX2_outlook 49 = .ok (.invokestatic 127, 3) := by decide +kernel
theorem dX2_outlook_52 : decode cX2_outlook 52 = .ok (.istore 4, 2) := by decide +kernel
theorem dX2_outlook_54 : decode cX2_outlook 54 = .ok (.iinc 5 1, 3) := by decide +kernel
theorem dX2_outlook_57 : decode cX2_outlook 57 = .ok (.goto (-43), 3) := by decide +kernel
theorem dX2_outlook_60 : decode cX2_outlook 60 = .ok (.iload 4, 2) := by decide +kernel
theorem dX2_outlook_62 : decode cX2_outlook 62 = .ok (.ireturn, 1) := by decide +kernel
theorem dX2_readOff_0 : decode cX2_readOff 0 = .ok (.aload_n 0, 1) := by decide +kernel
theorem dX2_readOff_1 : decode cX2_readOff 1 = .ok (.getfield 27, 3) := by decide +kernel
theorem dX2_readOff_4 : decode cX2_readOff 4 = .ok (.getfield 39, 3) := by decide +kernel
theorem dX2_readOff_7 : decode cX2_readOff 7 = .ok (.iconst 1, 1) := by decide +kernel
theorem dX2_readOff_8 : decode cX2_readOff 8 = .ok (.isub, 1) := by decide +kernel
theorem dX2_readOff_9 : decode cX2_readOff 9 = .ok (.istore_n 1, 1) := by decide +kernel
theorem dX2_readOff_10 : decode cX2_readOff 10 = .ok (.iload_n 1, 1) := by decide +kernel
theorem dX2_readOff_11 : decode cX2_readOff 11 = .ok (.ifCond .lt 46, 3) := by decide +kernel
theorem dX2_readOff_14 : decode cX2_readOff 14 = .ok (.aload_n 0, 1) := by decide +kernel
theorem dX2_readOff_15 : decode cX2_readOff 15 = .ok (.getfield 15, 3) := by decide +kernel
theorem dX2_readOff_18 : decode cX2_readOff 18 = .ok (.iload_n 1, 1) := by decide +kernel
theorem dX2_readOff_19 : decode cX2_readOff 19 = .ok (.iaload, 1) := by decide +kernel
theorem dX2_readOff_20 : decode cX2_readOff 20 = .ok (.iconst 3, 1) := by decide +kernel
theorem dX2_readOff_21 : decode cX2_readOff 21 = .ok (.if_icmp .eq 30, 3) := by decide +kernel
theorem dX2_readOff_24 : decode cX2_readOff 24 = .ok (.aload_n 0, 1) := by decide +kernel
theorem dX2_readOff_25 : decode cX2_readOff 25 = .ok (.getfield 18, 3) := by decide +kernel
theorem dX2_readOff_28 : decode cX2_readOff 28 = .ok (.aload_n 0, 1) := by decide +kernel
theorem dX2_readOff_29 : decode cX2_readOff 29 = .ok (.getfield 9, 3) := by decide +kernel
theorem dX2_readOff_32 : decode cX2_readOff 32 = .ok (.iload_n 1, 1) := by decide +kernel
theorem dX2_readOff_33 : decode cX2_readOff 33 = .ok (.iaload, 1) := by decide +kernel
theorem dX2_readOff_34 : decode cX2_readOff 34 = .ok (.aload_n 0, 1) := by decide +kernel
theorem dX2_readOff_35 : decode cX2_readOff 35 = .ok (.aload_n 0, 1) := by decide +kernel
theorem dX2_readOff_36 : decode cX2_readOff 36 = .ok (.getfield 9, 3) := by decide +kernel
theorem dX2_readOff_39 : decode cX2_readOff 39 = .ok (.iload_n 1, 1) := by decide +kernel
theorem dX2_readOff_40 : decode cX2_readOff 40 = .ok (.iaload, 1) := by decide +kernel
theorem dX2_readOff_41 : decode cX2_readOff 41 = .ok (.aload_n 0, 1) := by decide +kernel
theorem dX2_readOff_42 : decode cX2_readOff 42 = .ok (.getfield 21, 3) := by decide +kernel
theorem dX2_readOff_45 : decode cX2_readOff 45 = .ok (.iload_n 1, 1) := by decide +kernel
theorem dX2_readOff_46 : decode cX2_readOff 46 = .ok (.iaload, 1) := by decide +kernel
theorem dX2_readOff_47 : decode cX2_readOff 47 = .ok (.invokevirtual 130, 3) := by decide +kernel
theorem dX2_readOff_50 : decode cX2_readOff 50 = .ok (.iastore, 1) := by decide +kernel
theorem dX2_readOff_51 : decode cX2_readOff 51 = .ok (.iinc 1 (-1), 3) := by decide +kernel
theorem dX2_readOff_54 : decode cX2_readOff 54 = .ok (.goto (-44), 3) := by decide +kernel
theorem dX2_readOff_57 : decode cX2_readOff 57 = .ok (.return_, 1) := by decide +kernel
theorem dX2_firstLeast_0 : decode cX2_firstLeast 0 = .ok (.iconst 0, 1) := by decide +kernel
theorem dX2_firstLeast_1 : decode cX2_firstLeast 1 = .ok (.istore_n 3, 1) := by decide +kernel
theorem dX2_firstLeast_2 : decode cX2_firstLeast 2 = .ok (.aload_n 0, 1) := by decide +kernel
theorem dX2_firstLeast_3 : decode cX2_firstLeast 3 = .ok (.getfield 27, 3) := by decide +kernel
theorem dX2_firstLeast_6 : decode cX2_firstLeast 6 = .ok (.iload_n 1, 1) := by decide +kernel
theorem dX2_firstLeast_7 : decode cX2_firstLeast 7 = .ok (.iconst 0, 1) := by decide +kernel
theorem dX2_firstLeast_8 : decode cX2_firstLeast 8 = .ok (.iload_n 2, 1) := by decide +kernel
theorem dX2_firstLeast_9 : decode cX2_firstLeast 9 = .ok (.aload_n 0, 1) := by decide +kernel
theorem dX2_firstLeast_10 : decode cX2_firstLeast 10 = .ok (.getfield 18, 3) := by decide +kernel
theorem dX2_firstLeast_13 : decode cX2_firstLeast 13 = .ok (.invokevirtual 133, 3) := by decide +kernel
theorem dX2_firstLeast_16 : decode cX2_firstLeast 16 = .ok (.istore 4, 2) := by decide +kernel
theorem dX2_firstLeast_18 : decode cX2_firstLeast 18 = .ok (.iconst 1, 1) := by decide +kernel
theorem dX2_firstLeast_19 : decode cX2_firstLeast 19 = .ok (.istore 5, 2) := by decide +kernel
theorem dX2_firstLeast_21 : decode cX2_firstLeast 21 = .ok (.iload 5, 2) := by decide +kernel
theorem dX2_firstLeast_23 : decode cX2_firstLeast 23 = .ok (.aload_n 0, 1) := by decide +kernel
theorem dX2_firstLeast_24 : decode cX2_firstLeast 24 = .ok (.getfield 27, 3) := by decide +kernel
theorem dX2_firstLeast_27 : decode cX2_firstLeast 27 = .ok (.getfield 92, 3) := by decide +kernel
theorem dX2_firstLeast_30 : decode cX2_firstLeast 30 = .ok (.iload_n 1, 1) := by decide +kernel
theorem dX2_firstLeast_31 : decode cX2_firstLeast 31 = .ok (.iaload, 1) := by decide +kernel
theorem dX2_firstLeast_32 : decode cX2_firstLeast 32 = .ok (.if_icmp .ge 40, 3) := by decide +kernel
theorem dX2_firstLeast_35 : decode cX2_firstLeast 35 = .ok (.aload_n 0, 1) := by decide +kernel
theorem dX2_firstLeast_36 : decode cX2_firstLeast 36 = .ok (.getfield 27, 3) := by decide +kernel
theorem dX2_firstLeast_39 : decode cX2_firstLeast 39 = .ok (.iload_n 1, 1) := by decide +kernel
theorem dX2_firstLeast_40 : decode cX2_firstLeast 40 = .ok (.iload 5, 2) := by decide +kernel
theorem dX2_firstLeast_42 : decode cX2_firstLeast 42 = .ok (.iload_n 2, 1) := by decide +kernel
theorem dX2_firstLeast_43 : decode cX2_firstLeast 43 = .ok (.aload_n 0, 1) := by decide +kernel
theorem dX2_firstLeast_44 : decode cX2_firstLeast 44 = .ok (.getfield 18, 3) := by decide +kernel
theorem dX2_firstLeast_47 : decode cX2_firstLeast 47 = .ok (.invokevirtual 133, 3) := by decide +kernel
theorem dX2_firstLeast_50 : decode cX2_firstLeast 50 = .ok (.istore 6, 2) := by decide +kernel
theorem dX2_firstLeast_52 : decode cX2_firstLeast 52 = .ok (.iload 6, 2) := by decide +kernel
theorem dX2_firstLeast_54 : decode cX2_firstLeast 54 = .ok (.iload 4, 2) := by decide +kernel
theorem dX2_firstLeast_56 : decode cX2_firstLeast 56 = .ok (.if_icmp .ge 10, 3) := by decide +kernel
theorem dX2_firstLeast_59 : decode cX2_firstLeast 59 = .ok (.iload 6, 2) := by decide +kernel
theorem dX2_firstLeast_61 : decode cX2_firstLeast 61 = .ok (.istore 4, 2) := by decide +kernel
theorem dX2_firstLeast_63 : decode cX2_firstLeast 63 = .ok (.iload 5, 2) := by decide +kernel
theorem dX2_firstLeast_65 : decode cX2_firstLeast 65 = .ok (.istore_n 3, 1) := by decide +kernel
theorem dX2_firstLeast_66 : decode cX2_firstLeast 66 = .ok (.iinc 5 1, 3) := by decide +kernel
theorem dX2_firstLeast_69 : decode cX2_firstLeast 69 = .ok (.goto (-48), 3) := by decide +kernel
theorem dX2_firstLeast_72 : decode cX2_firstLeast 72 = .ok (.iload_n 3, 1) := by decide +kernel
theorem dX2_firstLeast_73 : decode cX2_firstLeast 73 = .ok (.ireturn, 1) := by decide +kernel
theorem dX3_init_0 : decode cX3_init 0 = .ok (.aload_n 0, 1) := by decide +kernel
theorem dX3_init_1 : decode cX3_init 1 = .ok (.invokespecial 3, 3) := by decide +kernel
theorem dX3_init_4 : decode cX3_init 4 = .ok (.aload_n 0, 1) := by decide +kernel
theorem dX3_init_5 : decode cX3_init 5 = .ok (.bipush 8, 2) := by decide +kernel
theorem dX3_init_7 : decode cX3_init 7 = .ok (.newarray .int, 2) := by decide +kernel
theorem dX3_init_9 : decode cX3_init 9 = .ok (.putfield 9, 3) := by decide +kernel
theorem dX3_init_12 : decode cX3_init 12 = .ok (.aload_n 0, 1) := by decide +kernel
theorem dX3_init_13 : decode cX3_init 13 = .ok (.bipush 8, 2) := by decide +kernel
theorem dX3_init_15 : decode cX3_init 15 = .ok (.newarray .int, 2) := by decide +kernel
theorem dX3_init_17 : decode cX3_init 17 = .ok (.putfield 15, 3) := by decide +kernel
theorem dX3_init_20 : decode cX3_init 20 = .ok (.aload_n 0, 1) := by decide +kernel
theorem dX3_init_21 : decode cX3_init 21 = .ok (.bipush 9, 2) := by decide +kernel
theorem dX3_init_23 : decode cX3_init 23 = .ok (.newarray .int, 2) := by decide +kernel
theorem dX3_init_25 : decode cX3_init 25 = .ok (.putfield 18, 3) := by decide +kernel
theorem dX3_init_28 : decode cX3_init 28 = .ok (.aload_n 0, 1) := by decide +kernel
theorem dX3_init_29 : decode cX3_init 29 = .ok (.aload_n 1, 1) := by decide +kernel
theorem dX3_init_30 : decode cX3_init 30 = .ok (.putfield 21, 3) := by decide +kernel
theorem dX3_init_33 : decode cX3_init 33 = .ok (.aload_n 0, 1) := by decide +kernel
theorem dX3_init_34 : decode cX3_init 34 = .ok (.iload_n 2, 1) := by decide +kernel
theorem dX3_init_35 : decode cX3_init 35 = .ok (.putfield 25, 3) := by decide +kernel
theorem dX3_init_38 : decode cX3_init 38 = .ok (.return_, 1) := by decide +kernel
theorem dX3_run_0 : decode cX3_run 0 = .ok (.aload_n 0, 1) := by decide +kernel
theorem dX3_run_1 : decode cX3_run 1 = .ok (.ldc 29, 2) := by decide +kernel
theorem dX3_run_3 : decode cX3_run 3 = .ok (.putfield 30, 3) := by decide +kernel
theorem dX3_run_6 : decode cX3_run 6 = .ok (.aload_n 0, 1) := by decide +kernel
theorem dX3_run_7 : decode cX3_run 7 = .ok (.ldc 29, 2) := by decide +kernel
theorem dX3_run_9 : decode cX3_run 9 = .ok (.putfield 34, 3) := by decide +kernel
theorem dX3_run_12 : decode cX3_run 12 = .ok (.aload_n 0, 1) := by decide +kernel
theorem dX3_run_13 : decode cX3_run 13 = .ok (.iconst 0, 1) := by decide +kernel
theorem dX3_run_14 : decode cX3_run 14 = .ok (.putfield 37, 3) := by decide +kernel
theorem dX3_run_17 : decode cX3_run 17 = .ok (.aload_n 0, 1) := by decide +kernel
theorem dX3_run_18 : decode cX3_run 18 = .ok (.iconst 0, 1) := by decide +kernel
theorem dX3_run_19 : decode cX3_run 19 = .ok (.putfield 40, 3) := by decide +kernel
theorem dX3_run_22 : decode cX3_run 22 = .ok (.aload_n 0, 1) := by decide +kernel
theorem dX3_run_23 : decode cX3_run 23 = .ok (.getfield 18, 3) := by decide +kernel
theorem dX3_run_26 : decode cX3_run 26 = .ok (.aload_n 0, 1) := by decide +kernel
theorem dX3_run_27 : decode cX3_run 27 = .ok (.getfield 21, 3) := by decide +kernel
theorem dX3_run_30 : decode cX3_run 30 = .ok (.getfield 43, 3) := by decide +kernel
theorem dX3_run_33 : decode cX3_run 33 = .ok (.iconst 0, 1) := by decide +kernel
theorem dX3_run_34 : decode cX3_run 34 = .ok (.iastore, 1) := by decide +kernel
theorem dX3_run_35 : decode cX3_run 35 = .ok (.aload_n 0, 1) := by decide +kernel
theorem dX3_run_36 : decode cX3_run 36 = .ok (.getfield 21, 3) := by decide +kernel
theorem dX3_run_39 : decode cX3_run 39 = .ok (.getfield 43, 3) := by decide +kernel
theorem dX3_run_42 : decode cX3_run 42 = .ok (.iconst 1, 1) := by decide +kernel
theorem dX3_run_43 : decode cX3_run 43 = .ok (.isub, 1) := by decide +kernel
theorem dX3_run_44 : decode cX3_run 44 = .ok (.istore_n 1, 1) := by decide +kernel
theorem dX3_run_45 : decode cX3_run 45 = .ok (.iload_n 1, 1) := by decide +kernel
theorem dX3_run_46 : decode cX3_run 46 = .ok (.ifCond .lt 35, 3) := by decide +kernel
theorem dX3_run_49 : decode cX3_run 49 = .ok (.aload_n 0, 1) := by decide +kernel
theorem dX3_run_50 : decode cX3_run 50 = .ok (.getfield 18, 3) := by decide +kernel
theorem dX3_run_53 : decode cX3_run 53 = .ok (.iload_n 1, 1) := by decide +kernel
theorem dX3_run_54 : decode cX3_run 54 = .ok (.aload_n 0, 1) := by decide +kernel
theorem dX3_run_55 : decode cX3_run 55 = .ok (.getfield 18, 3) := by decide +kernel
theorem dX3_run_58 : decode cX3_run 58 = .ok (.iload_n 1, 1) := by decide +kernel
theorem dX3_run_59 : decode cX3_run 59 = .ok (.iconst 1, 1) := by decide +kernel
theorem dX3_run_60 : decode cX3_run 60 = .ok (.iadd, 1) := by decide +kernel
theorem dX3_run_61 : decode cX3_run 61 = .ok (.iaload, 1) := by decide +kernel
theorem dX3_run_62 : decode cX3_run 62 = .ok (.aload_n 0, 1) := by decide +kernel
theorem dX3_run_63 : decode cX3_run 63 = .ok (.getfield 21, 3) := by decide +kernel
theorem dX3_run_66 : decode cX3_run 66 = .ok (.iload_n 1, 1) := by decide +kernel
theorem dX3_run_67 : decode cX3_run 67 = .ok (.invokevirtual 48, 3) := by decide +kernel
theorem dX3_run_70 : decode cX3_run 70 = .ok (.iadd, 1) := by decide +kernel
theorem dX3_run_71 : decode cX3_run 71 = .ok (.invokestatic 52, 3) := by decide +kernel
theorem dX3_run_74 : decode cX3_run 74 = .ok (.iastore, 1) := by decide +kernel
theorem dX3_run_75 : decode cX3_run 75 = .ok (.iinc 1 (-1), 3) := by decide +kernel
theorem dX3_run_78 : decode cX3_run 78 = .ok (.goto (-33), 3) := by decide +kernel
theorem dX3_run_81 : decode cX3_run 81 = .ok (.aload_n 0, 1) := by decide +kernel
theorem dX3_run_82 : decode cX3_run 82 = .ok (.iconst 0, 1) := by decide +kernel
theorem dX3_run_83 : decode cX3_run 83 = .ok (.iconst 0, 1) := by decide +kernel
theorem dX3_run_84 : decode cX3_run 84 = .ok (.invokevirtual 55, 3) := by decide +kernel
theorem dX3_run_87 : decode cX3_run 87 = .ok (.return_, 1) := by decide +kernel
theorem dX3_tryFrom_0 : decode cX3_tryFrom 0 = .ok (.iload_n 1, 1) := by decide +kernel
theorem dX3_tryFrom_1 : decode cX3_tryFrom 1 = .ok (.aload_n 0, 1) := by decide +kernel
theorem dX3_tryFrom_2 : decode cX3_tryFrom 2 = .ok (.getfield 21, 3) := by decide +kernel
theorem dX3_tryFrom_5 : decode cX3_tryFrom 5 = .ok (.getfield 43, 3) := by decide +kernel
theorem dX3_tryFrom_8 : decode cX3_tryFrom 8 = .ok (.if_icmp .ge 9, 3) := by decide +kernel
theorem dX3_tryFrom_11 : decode cX3_tryFrom 11 = .ok (.iload_n 1, 1) := by decide +kernel
theorem dX3_tryFrom_12 : decode cX3_tryFrom 12 = .ok (.bipush 8, 2) := by decide +kernel
theorem dX3_tryFrom_14 : decode cX3_tryFrom 14 = .ok (.if_icmp .lt 9, 3) := by decide +kernel
theorem dX3_tryFrom_17 : decode cX3_tryFrom 17 = .ok (.aload_n 0, 1) := by decide +kernel
theorem dX3_tryFrom_18 : decode cX3_tryFrom 18 = .ok (.iload_n 2, 1) := by decide +kernel
theorem dX3_tryFrom_19 : decode cX3_tryFrom 19 = .ok (.invokevirtual 59, 3) := by decide +kernel
theorem dX3_tryFrom_22 : decode cX3_tryFrom 22 = .ok (.return_, 1) := by decide +kernel
theorem dX3_tryFrom_23 : decode cX3_tryFrom 23 = .ok (.aload_n 0, 1) := by decide +kernel
theorem dX3_tryFrom_24 : decode cX3_tryFrom 24 = .ok (.getfield 21, 3) := by decide +kernel
theorem dX3_tryFrom_27 : decode cX3_tryFrom 27 = .ok (.iload_n 1, 1) := by decide +kernel
theorem dX3_tryFrom_28 : decode cX3_tryFrom 28 = .ok (.invokevirtual 63, 3) := by decide +kernel
theorem dX3_tryFrom_31 : decode cX3_tryFrom 31 = .ok (.istore_n 3, 1) := by decide +kernel
theorem dX3_tryFrom_32 : decode cX3_tryFrom 32 = .ok (.iconst 0, 1) := by decide +kernel
theorem dX3_tryFrom_33 : decode cX3_tryFrom 33 = .ok (.istore 4, 2) := by decide +kernel
theorem dX3_tryFrom_35 : decode cX3_tryFrom 35 = .ok (.iload 4, 2) := by decide +kernel
theorem dX3_tryFrom_37 : decode cX3_tryFrom 37 = .ok (.aload_n 0, 1) := by decide +kernel
theorem dX3_tryFrom_38 : decode cX3_tryFrom 38 = .ok (.getfield 21, 3) := by decide +kernel
theorem dX3_tryFrom_41 : decode cX3_tryFrom 41 = .ok (.getfield 66, 3) := by decide +kernel
theorem dX3_tryFrom_44 : decode cX3_tryFrom 44 = .ok (.iload_n 1, 1) := by decide +kernel
theorem dX3_tryFrom_45 : decode cX3_tryFrom 45 = .ok (.iaload, 1) := by decide +kernel
theorem dX3_tryFrom_46 : decode cX3_tryFrom 46 = .ok (.if_icmp .ge 63, 3) := by decide +kernel
theorem dX3_tryFrom_49 : decode cX3_tryFrom 49 = .ok (.iload_n 2, 1) := by decide +kernel
theorem dX3_tryFrom_50 : decode cX3_tryFrom 50 = .ok (.aload_n 0, 1) := by decide +kernel
theorem dX3_tryFrom_51 : decode cX3_tryFrom 51 = .ok (.getfield 21, 3) := by decide +kernel
theorem dX3_tryFrom_54 : decode cX3_tryFrom 54 = .ok (.iload_n 1, 1) := by decide +kernel
theorem dX3_tryFrom_55 : decode cX3_tryFrom 55 = .ok (.iload 4, 2) := by decide +kernel
theorem dX3_tryFrom_57 : decode cX3_tryFrom 57 = .ok (.iload_n 3, 1) := by decide +kernel
theorem dX3_tryFrom_58 : decode cX3_tryFrom 58 = .ok (.aload_n 0, 1) := by decide +kernel
theorem dX3_tryFrom_59 : decode cX3_tryFrom 59 = .ok (.getfield 15, 3) := by decide +kernel
theorem dX3_tryFrom_62 : decode cX3_tryFrom 62 = .ok (.invokevirtual 69, 3) := by decide +kernel
theorem dX3_tryFrom_65 : decode cX3_tryFrom 65 = .ok (.iadd, 1) := by decide +kernel
theorem dX3_tryFrom_66 : decode cX3_tryFrom 66 = .ok (.istore 5, 2) := by decide +kernel
theorem dX3_tryFrom_68 : decode cX3_tryFrom 68 = .ok (.iload 5, 2) := by decide +kernel
theorem dX3_tryFrom_70 : decode cX3_tryFrom 70 = .ok (.aload_n 0, 1) := by decide +kernel
theorem dX3_tryFrom_71 : decode cX3_tryFrom 71 = .ok (.getfield 18, 3) := by decide +kernel
theorem dX3_tryFrom_74 : decode cX3_tryFrom 74 = .ok (.iload_n 1, 1) := by decide +kernel
theorem dX3_tryFrom_75 : decode cX3_tryFrom 75 = .ok (.iconst 1, 1) := by decide +kernel
theorem dX3_tryFrom_76 : decode cX3_tryFrom 76 = .ok (.iadd, 1) := by decide +kernel
theorem dX3_tryFrom_77 : decode cX3_tryFrom 77 = .ok (.iaload, 1) := by decide +kernel
theorem dX3_tryFrom_78 : decode cX3_tryFrom 78 = .ok (.iadd, 1) := by decide +kernel
theorem dX3_tryFrom_79 : decode cX3_tryFrom 79 = .ok (.aload_n 0, 1) := by decide +kernel
theorem dX3_tryFrom_80 : decode cX3_tryFrom 80 = .ok (.getfield 34, 3) := by decide +kernel
theorem dX3_tryFrom_83 : decode cX3_tryFrom 83 = .ok (.if_icmp .ge 20, 3) := by decide +kernel
theorem dX3_tryFrom_86 : decode cX3_tryFrom 86 = .ok (.aload_n 0, 1) := by decide +kernel
theorem dX3_tryFrom_87 : decode cX3_tryFrom 87 = .ok (.getfield 15, 3) := by decide +kernel
theorem dX3_tryFrom_90 : decode cX3_tryFrom 90 = .ok (.iload_n 1, 1) := by decide +kernel
theorem dX3_tryFrom_91 : decode cX3_tryFrom 91 = .ok (.iload 4, 2) := by decide +kernel
theorem dX3_tryFrom_93 : decode cX3_tryFrom 93 = .ok (.iastore, 1) := by decide +kernel
theorem dX3_tryFrom_94 : decode cX3_tryFrom 94 = .ok (.aload_n 0, 1) := by decide +kernel
theorem dX3_tryFrom_95 : decode cX3_tryFrom 95 = .ok (.iload_n 1, 1) := by decide +kernel
theorem dX3_tryFrom_96 : decode cX3_tryFrom 96 = .ok (.iconst 1, 1) := by decide +kernel
theorem dX3_tryFrom_97 : decode cX3_tryFrom 97 = .ok (.iadd, 1) := by decide +kernel
theorem dX3_tryFrom_98 : decode cX3_tryFrom 98 = .ok (.iload 5, 2) := by decide +kernel
theorem dX3_tryFrom_100 : decode cX3_tryFrom 100 = .ok (.invokevirtual 55, 3) := by decide +kernel
theorem dX3_tryFrom_103 : decode cX3_tryFrom 103 = .ok (.iinc 4 1, 3) := by decide +kernel
theorem dX3_tryFrom_106 : decode cX3_tryFrom 106 = .ok (.goto (-71), 3) := by decide +kernel
theorem dX3_tryFrom_109 : decode cX3_tryFrom 109 = .ok (.return_, 1) := by decide +kernel
theorem dX3_takeIn_0 : decode cX3_takeIn 0 = .ok (.iload_n 1, 1) := by decide +kernel
theorem dX3_takeIn_1 : decode cX3_takeIn 1 = .ok (.aload_n 0, 1) := by decide +kernel
theorem dX3_takeIn_2 : decode cX3_takeIn 2 = .ok (.getfield 30, 3) := by decide +kernel
theorem dX3_takeIn_5 : decode cX3_takeIn 5 = .ok (.if_icmp .ge 61, 3) := by decide +kernel
theorem dX3_takeIn_8 : decode cX3_takeIn 8 = .ok (.aload_n 0, 1) := by decide +kernel
theorem dX3_takeIn_9 : decode cX3_takeIn 9 = .ok (.aload_n 0, 1) := by decide +kernel
theorem dX3_takeIn_10 : decode cX3_takeIn 10 = .ok (.getfield 25, 3) := by decide +kernel
theorem dX3_takeIn_13 : decode cX3_takeIn 13 = .ok (.ifCond .eq 7, 3) := by decide +kernel
theorem dX3_takeIn_16 : decode cX3_takeIn 16 = .ok (.iload_n 1, 1) := by decide +kernel
theorem dX3_takeIn_17 : decode cX3_takeIn 17 = .ok (.goto 7, 3) := by decide +kernel
theorem dX3_takeIn_20 : decode cX3_takeIn 20 = .ok (.aload_n 0, 1) := by decide +kernel
theorem dX3_takeIn_21 : decode cX3_takeIn 21 = .ok (.getfield 30, 3) := by decide +kernel
theorem dX3_takeIn_24 : decode cX3_takeIn 24 = .ok (.putfield 34, 3) := by decide +kernel
theorem dX3_takeIn_27 : decode cX3_takeIn 27 = .ok (.aload_n 0, 1) := by decide +kernel
theorem dX3_takeIn_28 : decode cX3_takeIn 28 = .ok (.iload_n 1, 1) := by decide +kernel
theorem dX3_takeIn_29 : decode cX3_takeIn 29 = .ok (.putfield 30, 3) := by decide +kernel
theorem dX3_takeIn_32 : decode cX3_takeIn 32 = .ok (.aload_n 0, 1) := by decide +kernel
theorem dX3_takeIn_33 : decode cX3_takeIn 33 = .ok (.iconst 1, 1) := by decide +kernel
theorem dX3_takeIn_34 : decode cX3_takeIn 34 = .ok (.putfield 37, 3) := by decide +kernel
theorem dX3_takeIn_37 : decode cX3_takeIn 37 = .ok (.aload_n 0, 1) := by decide +kernel
theorem dX3_takeIn_38 : decode cX3_takeIn 38 = .ok (.iconst 1, 1) := by decide +kernel
theorem dX3_takeIn_39 : decode cX3_takeIn 39 = .ok (.aload_n 0, 1) := by decide +kernel
theorem dX3_takeIn_40 : decode cX3_takeIn 40 = .ok (.getfield 21, 3) := by decide +kernel
theorem dX3_takeIn_43 : decode cX3_takeIn 43 = .ok (.getfield 43, 3) := by decide +kernel
theorem dX3_takeIn_46 : decode cX3_takeIn 46 = .ok (.ishl, 1) := by decide +kernel
theorem dX3_takeIn_47 : decode cX3_takeIn 47 = .ok (.iconst 1, 1) := by decide +kernel
theorem dX3_takeIn_48 : decode cX3_takeIn 48 = .ok (.isub, 1) := by decide +kernel
theorem dX3_takeIn_49 : decode cX3_takeIn 49 = .ok (.putfield 40, 3) := by decide +kernel
theorem dX3_takeIn_52 : decode cX3_takeIn 52 = .ok (.aload_n 0, 1) := by decide +kernel
theorem dX3_takeIn_53 : decode cX3_takeIn 53 = .ok (.getfield 15, 3) := by decide +kernel
theorem dX3_takeIn_56 : decode cX3_takeIn 56 = .ok (.aload_n 0, 1) := by decide +kernel
theorem dX3_takeIn_57 : decode cX3_takeIn 57 = .ok (.getfield 9, 3) := by decide +kernel
theorem dX3_takeIn_60 : decode cX3_takeIn 60 = .ok (.invokestatic 73, 3) := by decide +kernel
theorem dX3_takeIn_63 : decode cX3_takeIn 63 = .ok (.goto 42, 3) := by decide +kernel
theorem dX3_takeIn_66 : decode cX3_takeIn 66 = .ok (.iload_n 1, 1) := by decide +kernel
theorem dX3_takeIn_67 : decode cX3_takeIn 67 = .ok (.aload_n 0, 1) := by decide +kernel
theorem dX3_takeIn_68 : decode cX3_takeIn 68 = .ok (.getfield 30, 3) := by decide +kernel
theorem dX3_takeIn_71 : decode cX3_takeIn 71 = .ok (.if_icmp .ne 29, 3) := by decide +kernel
theorem dX3_takeIn_74 : decode cX3_takeIn 74 = .ok (.aload_n 0, 1) := by decide +kernel
theorem dX3_takeIn_75 : decode cX3_takeIn 75 = .ok (.dup, 1) := by decide +kernel
theorem dX3_takeIn_76 : decode cX3_takeIn 76 = .ok (.getfield 37, 3) := by decide +kernel
theorem dX3_takeIn_79 : decode cX3_takeIn 79 = .ok (.iconst 1, 1) := by decide +kernel
theorem dX3_takeIn_80 : decode cX3_takeIn 80 = .ok (.iadd, 1) := by decide +kernel
theorem dX3_takeIn_81 : decode cX3_takeIn 81 = .ok (.putfield 37, 3) := by decide +kernel
theorem dX3_takeIn_84 : decode cX3_takeIn 84 = .ok (.aload_n 0, 1) := by decide +kernel
theorem dX3_takeIn_85 : decode cX3_takeIn 85 = .ok (.dup, 1) := by decide +kernel
theorem dX3_takeIn_86 : decode cX3_takeIn 86 = .ok (.getfield 40, 3) := by decide +kernel
theorem dX3_takeIn_89 : decode cX3_takeIn 89 = .ok (.aload_n 0, 1) := by decide +kernel
theorem dX3_takeIn_90 : decode cX3_takeIn 90 = .ok (.invokevirtual 77, 3) := by decide +kernel
theorem dX3_takeIn_93 : decode cX3_takeIn 93 = .ok (.iand, 1) := by decide +kernel
theorem dX3_takeIn_94 : decode cX3_takeIn 94 = .ok (.putfield 40, 3) := by decide +kernel
theorem dX3_takeIn_97 : decode cX3_takeIn 97 = .ok (.goto 8, 3) := by decide +kernel
theorem dX3_takeIn_100 : decode cX3_takeIn 100 = .ok (.aload_n 0, 1) := by decide +kernel
theorem dX3_takeIn_101 : decode cX3_takeIn 101 = .ok (.iload_n 1, 1) := by decide +kernel
theorem dX3_takeIn_102 : decode cX3_takeIn 102 = .ok (.putfield 34, 3) := by decide +kernel
theorem dX3_takeIn_105 : decode cX3_takeIn 105 = .ok (.return_, 1) := by decide +kernel
theorem dX3_likeFirst_0 : decode cX3_likeFirst 0 = .ok (.iconst 0, 1) := by decide +kernel
theorem dX3_likeFirst_1 : decode cX3_likeFirst 1 = .ok (.istore_n 1, 1) := by decide +kernel
theorem dX3_likeFirst_2 : decode cX3_likeFirst 2 = .ok (.iconst 0, 1) := by decide +kernel
theorem dX3_likeFirst_3 : decode cX3_likeFirst 3 = .ok (.istore_n 2, 1) := by decide +kernel
theorem dX3_likeFirst_4 : decode cX3_likeFirst 4 = .ok (.iload_n 2, 1) := by decide +kernel
theorem dX3_likeFirst_5 : decode cX3_likeFirst 5 = .ok (.aload_n 0, 1) := by decide +kernel
theorem dX3_likeFirst_6 : decode cX3_likeFirst 6 = .ok (.getfield 21, 3) := by decide +kernel
theorem dX3_likeFirst_9 : decode cX3_likeFirst 9 = .ok (.getfield 43, 3) := by decide +kernel
theorem dX3_likeFirst_12 : decode cX3_likeFirst 12 = .ok (.if_icmp .ge 30, 3) := by decide +kernel
theorem dX3_likeFirst_15 : decode cX3_likeFirst 15 = .ok (.aload_n 0, 1) := by decide +kernel
theorem dX3_likeFirst_16 : decode cX3_likeFirst 16 = .ok (.getfield 15, 3) := by decide +kernel
theorem dX3_likeFirst_19 : decode cX3_likeFirst 19 = .ok (.iload_n 2, 1) := by decide +kernel
theorem dX3_likeFirst_20 : decode cX3_likeFirst 20 = .ok (.iaload, 1) := by decide +kernel
theorem dX3_likeFirst_21 : decode cX3_likeFirst 21 = .ok (.aload_n 0, 1) := by decide +kernel
theorem dX3_likeFirst_22 : decode cX3_likeFirst 22 = .ok (.getfield 9, 3) := by decide +kernel
theorem dX3_likeFirst_25 : decode cX3_likeFirst 25 = .ok (.iload_n 2, 1) := by decide +kernel
theorem dX3_likeFirst_26 : decode cX3_likeFirst 26 = .ok (.iaload, 1) := by decide +kernel
theorem dX3_likeFirst_27 : decode cX3_likeFirst 27 = .ok (.if_icmp .ne 9, 3) := by decide +kernel
theorem dX3_likeFirst_30 : decode cX3_likeFirst 30 = .ok (.iload_n 1, 1) := by decide +kernel
theorem dX3_likeFirst_31 : decode cX3_likeFirst 31 = .ok (.iconst 1, 1) := by decide +kernel
theorem dX3_likeFirst_32 : decode cX3_likeFirst 32 = .ok (.iload_n 2, 1) := by decide +kernel
theorem dX3_likeFirst_33 : decode cX3_likeFirst 33 = .ok (.ishl, 1) := by decide +kernel
theorem dX3_likeFirst_34 : decode cX3_likeFirst 34 = .ok (.ior, 1) := by decide +kernel
theorem dX3_likeFirst_35 : decode cX3_likeFirst 35 = .ok (.istore_n 1, 1) := by decide +kernel
theorem dX3_likeFirst_36 : decode cX3_likeFirst 36 = .ok (.iinc 2 1, 3) := by decide +kernel
theorem dX3_likeFirst_39 : decode cX3_likeFirst 39 = .ok (.goto (-35), 3) := by decide +kernel
theorem dX3_likeFirst_42 : decode cX3_likeFirst 42 = .ok (.iload_n 1, 1) := by decide +kernel
theorem dX3_likeFirst_43 : decode cX3_likeFirst 43 = .ok (.ireturn, 1) := by decide +kernel
theorem dX4_init_0 : decode cX4_init 0 = .ok (.aload_n 0, 1) := by decide +kernel
theorem dX4_init_1 : decode cX4_init 1 = .ok (.invokespecial 3, 3) := by decide +kernel
theorem dX4_init_4 : decode cX4_init 4 = .ok (.aload_n 0, 1) := by decide +kernel
theorem dX4_init_5 : decode cX4_init 5 = .ok (.bipush 8, 2) := by decide +kernel
theorem dX4_init_7 : decode cX4_init 7 = .ok (.newarray .int, 2) := by decide +kernel
theorem dX4_init_9 : decode cX4_init 9 = .ok (.putfield 9, 3) := by decide +kernel
theorem dX4_init_12 : decode cX4_init 12 = .ok (.aload_n 0, 1) := by decide +kernel
theorem dX4_init_13 : decode cX4_init 13 = .ok (.bipush 8, 2) := by decide +kernel
theorem dX4_init_15 : decode cX4_init 15 = .ok (.newarray .int, 2) := by decide +kernel
theorem dX4_init_17 : decode cX4_init 17 = .ok (.putfield 15, 3) := by decide +kernel
theorem dX4_init_20 : decode cX4_init 20 = .ok (.aload_n 0, 1) := by decide +kernel
theorem dX4_init_21 : decode cX4_init 21 = .ok (.bipush 32, 2) := by decide +kernel
theorem dX4_init_23 : decode cX4_init 23 = .ok (.newarray .int, 2) := by decide +kernel
theorem dX4_init_25 : decode cX4_init 25 = .ok (.putfield 18, 3) := by decide +kernel
theorem dX4_init_28 : decode cX4_init 28 = .ok (.aload_n 0, 1) := by decide +kernel
theorem dX4_init_29 : decode cX4_init 29 = .ok (.sipush 448, 3) := by decide +kernel
theorem dX4_init_32 : decode cX4_init 32 = .ok (.newarray .int, 2) := by decide +kernel
theorem dX4_init_34 : decode cX4_init 34 = .ok (.putfield 21, 3) := by decide +kernel
theorem dX4_init_37 : decode cX4_init 37 = .ok (.return_, 1) := by decide +kernel
theorem dX4_weigh_0 : decode cX4_weigh 0 = .ok (.aload_n 0, 1) := by decide +kernel
theorem dX4_weigh_1 : decode cX4_weigh 1 = .ok (.aload_n 1, 1) := by decide +kernel
theorem dX4_weigh_2 : decode cX4_weigh 2 = .ok (.getfield 24, 3) := by decide +kernel
theorem dX4_weigh_5 : decode cX4_weigh 5 = .ok (.putfield 30, 3) := by decide +kernel
theorem dX4_weigh_8 : decode cX4_weigh 8 = .ok (.aload_n 1, 1) := by decide +kernel
theorem dX4_weigh_9 : decode cX4_weigh 9 = .ok (.getfield 31, 3) := by decide +kernel
theorem dX4_weigh_12 : decode cX4_weigh 12 = .ok (.aload_n 0, 1) := by decide +kernel
theorem dX4_weigh_13 : decode cX4_weigh 13 = .ok (.getfield 9, 3) := by decide +kernel
theorem dX4_weigh_16 : decode cX4_weigh 16 = .ok (.invokestatic 32, 3) := by decide +kernel
theorem dX4_weigh_19 : decode cX4_weigh 19 = .ok (.aload_n 1, 1) := by decide +kernel
theorem dX4_weigh_20 : decode cX4_weigh 20 = .ok (.getfield 36, 3) := by decide +kernel
theorem dX4_weigh_23 : decode cX4_weigh 23 = .ok (.aload_n 0, 1) := by decide +kernel
theorem dX4_weigh_24 : decode cX4_weigh 24 = .ok (.getfield 15, 3) := by decide +kernel
theorem dX4_weigh_27 : decode cX4_weigh 27 = .ok (.invokestatic 32, 3) := by decide +kernel
theorem dX4_weigh_30 : decode cX4_weigh 30 = .ok (.iconst 0, 1) := by decide +kernel
theorem dX4_weigh_31 : decode cX4_weigh 31 = .ok (.istore_n 2, 1) := by decide +kernel
theorem dX4_weigh_32 : decode cX4_weigh 32 = .ok (.iload_n 2, 1) := by decide +kernel
theorem dX4_weigh_33 : decode cX4_weigh 33 = .ok (.aload_n 0, 1) := by decide +kernel
theorem dX4_weigh_34 : decode cX4_weigh 34 = .ok (.getfield 30, 3) := by decide +kernel
theorem dX4_weigh_37 : decode cX4_weigh 37 = .ok (.if_icmp .ge 72, 3) := by decide +kernel
theorem dX4_weigh_40 : decode cX4_weigh 40 = .ok (.iconst 0, 1) := by decide +kernel
theorem dX4_weigh_41 : decode cX4_weigh 41 = .ok (.istore_n 3, 1) := by decide +kernel
theorem dX4_weigh_42 : decode cX4_weigh 42 = .ok (.iload_n 3, 1) := by decide +kernel
theorem dX4_weigh_43 : decode cX4_weigh 43 = .ok (.aload_n 0, 1) := by decide +kernel
theorem dX4_weigh_44 : decode cX4_weigh 44 = .ok (.getfield 9, 3) := by decide +kernel
theorem dX4_weigh_47 : decode cX4_weigh 47 = .ok (.iload_n 2, 1) := by decide +kernel
theorem dX4_weigh_48 : decode cX4_weigh 48 = .ok (.iaload, 1) := by decide +kernel
theorem dX4_weigh_49 : decode cX4_weigh 49 = .ok (.if_icmp .ge 25, 3) := by decide +kernel
theorem dX4_weigh_52 : decode cX4_weigh 52 = .ok (.aload_n 0, 1) := by decide +kernel
theorem dX4_weigh_53 : decode cX4_weigh 53 = .ok (.getfield 18, 3) := by decide +kernel
theorem dX4_weigh_56 : decode cX4_weigh 56 = .ok (.iload_n 2, 1) := by decide +kernel
theorem dX4_weigh_57 : decode cX4_weigh 57 = .ok (.iload_n 3, 1) := by decide +kernel
theorem dX4_weigh_58 : decode cX4_weigh 58 = .ok (.invokestatic 37, 3) := by decide +kernel
theorem dX4_weigh_61 : decode cX4_weigh 61 = .ok (.aload_n 1, 1) := by decide +kernel
theorem dX4_weigh_62 : decode cX4_weigh 62 = .ok (.iload_n 2, 1) := by decide +kernel
theorem dX4_weigh_63 : decode cX4_weigh 63 = .ok (.iload_n 3, 1) := by decide +kernel
theorem dX4_weigh_64 : decode cX4_weigh 64 = .ok (.invokevirtual 41, 3) := by decide +kernel
theorem dX4_weigh_67 : decode cX4_weigh 67 = .ok (.iastore, 1) := by decide +kernel
theorem dX4_weigh_68 : decode cX4_weigh 68 = .ok (.iinc 3 1, 3) := by decide +kernel
theorem dX4_weigh_71 : decode cX4_weigh 71 = .ok (.goto (-29), 3) := by decide +kernel
theorem dX4_weigh_74 : decode cX4_weigh 74 = .ok (.iconst 0, 1) := by decide +kernel
theorem dX4_weigh_75 : decode cX4_weigh 75 = .ok (.istore_n 3, 1) := by decide +kernel
theorem dX4_weigh_76 : decode cX4_weigh 76 = .ok (.iload_n 3, 1) := by decide +kernel
theorem dX4_weigh_77 : decode cX4_weigh 77 = .ok (.iload_n 2, 1) := by decide +kernel
theorem dX4_weigh_78 : decode cX4_weigh 78 = .ok (.if_icmp .ge 25, 3) := by decide +kernel
theorem dX4_weigh_81 : decode cX4_weigh 81 = .ok (.aload_n 0, 1) := by decide +kernel
theorem dX4_weigh_82 : decode cX4_weigh 82 = .ok (.iload_n 2, 1) := by decide +kernel
theorem dX4_weigh_83 : decode cX4_weigh 83 = .ok (.iload_n 3, 1) := by decide +kernel
theorem dX4_weigh_84 : decode cX4_weigh 84 = .ok (.invokevirtual 44, 3) := by decide +kernel
theorem dX4_weigh_87 : decode cX4_weigh 87 = .ok (.ifCond .eq 10, 3) := by decide +kernel
theorem dX4_weigh_90 : decode cX4_weigh 90 = .ok (.aload_n 0, 1) := by decide +kernel
theorem dX4_weigh_91 : decode cX4_weigh 91 = .ok (.aload_n 1, 1) := by decide +kernel
theorem dX4_weigh_92 : decode cX4_weigh 92 = .ok (.iload_n 2, 1) := by decide +kernel
theorem dX4_weigh_93 : decode cX4_weigh 93 = .ok (.iload_n 3, 1) := by decide +kernel
theorem dX4_weigh_94 : decode cX4_weigh 94 = .ok (.invokevirtual 48, 3) := by decide +kernel
theorem dX4_weigh_97 : decode cX4_weigh 97 = .ok (.iinc 3 1, 3) := by decide +kernel
theorem dX4_weigh_100 : decode cX4_weigh 100 = .ok (.goto (-24), 3) := by decide +kernel
theorem dX4_weigh_103 : decode cX4_weigh 103 = .ok (.iinc 2 1, 3) := by decide +kernel
theorem dX4_weigh_106 : decode cX4_weigh 106 = .ok (.goto (-74), 3) := by decide +kernel
theorem dX4_weigh_109 : decode cX4_weigh 109 = .ok (.return_, 1) := by decide +kernel
theorem dX4_weighTable_0 : decode cX4_weighTable 0 = .ok (.iconst 0, 1) := by decide +kernel
theorem dX4_weighTable_1 : decode cX4_weighTable 1 = .ok (.istore 4, 2) := by decide +kernel
theorem dX4_weighTable_3 : decode cX4_weighTable 3 = .ok (.iload 4, 2) := by decide +kernel
theorem dX4_weighTable_5 : decode cX4_weighTable 5 = .ok (.aload_n 0, 1) := by decide +kernel
theorem dX4_weighTable_6 : decode cX4_weighTable 6 = .ok (.getfield 9, 3) := by decide +kernel
theorem dX4_weighTable_9 : decode cX4_weighTable 9 = .ok (.iload_n 2, 1) := by decide +kernel
theorem dX4_weighTable_10 : decode cX4_weighTable 10 = .ok (.iaload, 1) := by decide +kernel
theorem dX4_weighTable_11 : decode cX4_weighTable 11 = .ok (.if_icmp .ge 53, 3) := by decide +kernel
theorem dX4_weighTable_14 : decode cX4_weighTable 14 = .ok (.iconst 0, 1) := by decide +kernel
theorem dX4_weighTable_15 : decode cX4_weighTable 15 = .ok (.istore 5, 2) := by decide +kernel
theorem dX4_weighTable_17 : decode cX4_weighTable 17 = .ok (.iload 5, 2) := by decide +kernel
theorem dX4_weighTable_19 : decode cX4_weighTable 19 = .ok (.aload_n 0, 1) := by decide +kernel
theorem dX4_weighTable_20 : decode cX4_weighTable 20 = .ok (.getfield 9, 3) := by decide +kernel
theorem dX4_weighTable_23 : decode cX4_weighTable 23 = .ok (.iload_n 3, 1) := by decide +kernel
theorem dX4_weighTable_24 : decode cX4_weighTable 24 = .ok (.iaload, 1) := by decide +kernel
theorem dX4_weighTable_25 : decode cX4_weighTable 25 = .ok (.if_icmp .ge 33, 3) := by decide +kernel
theorem dX4_weighTable_28 : decode cX4_weighTable 28 = .ok (.aload_n 0, 1) := by decide +kernel
theorem dX4_weighTable_29 : decode cX4_weighTable 29 = .ok (.getfield 21, 3) := by decide +kernel
theorem dX4_weighTable_32 : decode cX4_weighTable 32 = .ok (.iload_n 2, 1) := by decide +kernel
theorem dX4_weighTable_33 : decode cX4_weighTable 33 = .ok (.iload_n 3, 1) := by decide +kernel
theorem dX4_weighTable_34 : decode cX4_weighTable 34 = .ok (.iload 4, 2) := by decide +kernel
theorem dX4_weighTable_36 : decode cX4_weighTable 36 = .ok (.iload 5, 2) := by decide +kernel
theorem dX4_weighTable_38 : decode cX4_weighTable 38 = .ok (.invokestatic 52, 3) := by decide +kernel
theorem dX4_weighTable_41 : decode cX4_weighTable 41 = .ok (.aload_n 1, 1) := by decide +kernel
theorem dX4_weighTable_42 : decode cX4_weighTable 42 = .ok (.iload_n 2, 1) := by decide +kernel
theorem dX4_weighTable_43 : decode cX4_weighTable 43 = .ok (.iload_n 3, 1) := by decide +kernel
theorem dX4_weighTable_44 : decode cX4_weighTable 44 = .ok (.iload 4, 2) := by decide +kernel
theorem dX4_weighTable_46 : decode cX4_weighTable 46 = .ok (.iload 5, 2) := by decide +kernel
theorem dX4_weighTable_48 : decode cX4_weighTable 48 = .ok (.invokevirtual 56, 3) := by decide +kernel
theorem dX4_weighTable_51 : decode cX4_weighTable 51 = .ok (.iastore, 1) := by decide +kernel
theorem dX4_weighTable_52 : decode cX4_weighTable 52 = .ok (.iinc 5 1, 3) := by decide +kernel
theorem dX4_weighTable_55 : decode cX4_weighTable 55 = .ok (.goto (-38), 3) := by decide +kernel
theorem dX4_weighTable_58 : decode cX4_weighTable 58 = .ok (.iinc 4 1, 3) := by decide +kernel
theorem dX4_weighTable_61 : decode cX4_weighTable 61 = .ok (.goto (-58), 3) := by decide +kernel
theorem dX4_weighTable_64 : decode cX4_weighTable 64 = .ok (.return_, 1) := by decide +kernel
theorem dX4_areTied_0 : decode cX4_areTied 0 = .ok (.aload_n 0, 1) := by decide +kernel
theorem dX4_areTied_1 : decode cX4_areTied 1 = .ok (.getfield 15, 3) := by decide +kernel
theorem dX4_areTied_4 : decode cX4_areTied 4 = .ok (.iload_n 1, 1) := by decide +kernel
theorem dX4_areTied_5 : decode cX4_areTied 5 = .ok (.iaload, 1) := by decide +kernel
theorem dX4_areTied_6 : decode cX4_areTied 6 = .ok (.iload_n 2, 1) := by decide +kernel
theorem dX4_areTied_7 : decode cX4_areTied 7 = .ok (.invokestatic 59, 3) := by decide +kernel
theorem dX4_areTied_10 : decode cX4_areTied 10 = .ok (.ireturn, 1) := by decide +kernel
theorem dX4_costAt_0 : decode cX4_costAt 0 = .ok (.aload_n 0, 1) := by decide +kernel
theorem dX4_costAt_1 : decode cX4_costAt 1 = .ok (.getfield 18, 3) := by decide +kernel
theorem dX4_costAt_4 : decode cX4_costAt 4 = .ok (.iload_n 1, 1) := by decide +kernel
theorem dX4_costAt_5 : decode cX4_costAt 5 = .ok (.iload_n 2, 1) := by decide +kernel
theorem dX4_costAt_6 : decode cX4_costAt 6 = .ok (.invokestatic 37, 3) := by decide +kernel
theorem dX4_costAt_9 : decode cX4_costAt 9 = .ok (.iaload, 1) := by decide +kernel
theorem dX4_costAt_10 : decode cX4_costAt 10 = .ok (.ireturn, 1) := by decide +kernel
theorem dX4_entryAt_0 : decode cX4_entryAt 0 = .ok (.aload_n 0, 1) := by decide +kernel
theorem dX4_entryAt_1 : decode cX4_entryAt 1 = .ok (.getfield 21, 3) := by decide +kernel
theorem dX4_entryAt_4 : decode cX4_entryAt 4 = .ok (.iload_n 1, 1) := by decide +kernel
theorem dX4_entryAt_5 : decode cX4_entryAt 5 = .ok (.iload_n 2, 1) := by decide +kernel
theorem dX4_entryAt_6 : decode cX4_entryAt 6 = .ok (.iload_n 3, 1) := by decide +kernel
theorem dX4_entryAt_7 : decode cX4_entryAt 7 = .ok (.iload 4, 2) := by decide +kernel
theorem dX4_entryAt_9 : decode cX4_entryAt 9 = .ok (.invokestatic 52, 3) := by decide +kernel
theorem dX4_entryAt_12 : decode cX4_entryAt 12 = .ok (.iaload, 1) := by decide +kernel
theorem dX4_entryAt_13 : decode cX4_entryAt 13 = .ok (.ireturn, 1) := by decide +kernel
theorem dX4_addCost_0 : decode cX4_addCost 0 = .ok (.iload_n 1, 1) := by decide +kernel
theorem dX4_addCost_1 : decode cX4_addCost 1 = .ok (.iload_n 2, 1) := by decide +kernel
theorem dX4_addCost_2 : decode cX4_addCost 2 = .ok (.invokestatic 37, 3) := by decide +kernel
theorem dX4_addCost_5 : decode cX4_addCost 5 = .ok (.istore 4, 2) := by decide +kernel
theorem dX4_addCost_7 : decode cX4_addCost 7 = .ok (.aload_n 0, 1) := by decide +kernel
theorem dX4_addCost_8 : decode cX4_addCost 8 = .ok (.getfield 18, 3) := by decide +kernel
theorem dX4_addCost_11 : decode cX4_addCost 11 = .ok (.iload 4, 2) := by decide +kernel
theorem dX4_addCost_13 : decode cX4_addCost 13 = .ok (.aload_n 0, 1) := by decide +kernel
theorem dX4_addCost_14 : decode cX4_addCost 14 = .ok (.getfield 18, 3) := by decide +kernel
theorem dX4_addCost_17 : decode cX4_addCost 17 = .ok (.iload 4, 2) := by decide +kernel
theorem dX4_addCost_19 : decode cX4_addCost 19 = .ok (.iaload, 1) := by decide +kernel
theorem dX4_addCost_20 : decode cX4_addCost 20 = .ok (.iload_n 3, 1) := by decide +kernel
theorem dX4_addCost_21 : decode cX4_addCost 21 = .ok (.iadd, 1) := by decide +kernel
theorem dX4_addCost_22 : decode cX4_addCost 22 = .ok (.invokestatic 62, 3) := by decide +kernel
theorem dX4_addCost_25 : decode cX4_addCost 25 = .ok (.iastore, 1) := by decide +kernel
theorem dX4_addCost_26 : decode cX4_addCost 26 = .ok (.return_, 1) := by decide +kernel
theorem dX4_addEntry_0 : decode cX4_addEntry 0 = .ok (.iload_n 1, 1) := by decide +kernel
theorem dX4_addEntry_1 : decode cX4_addEntry 1 = .ok (.iload_n 2, 1) := by decide +kernel
theorem dX4_addEntry_2 : decode cX4_addEntry 2 = .ok (.iload_n 3, 1) := by decide +kernel
theorem dX4_addEntry_3 : decode cX4_addEntry 3 = .ok (.iload 4, 2) := by decide +kernel
theorem dX4_addEntry_5 : decode cX4_addEntry 5 = .ok (.invokestatic 52, 3) := by decide +kernel
theorem dX4_addEntry_8 : decode cX4_addEntry 8 = .ok (.istore 6, 2) := by decide +kernel
theorem dX4_addEntry_10 : decode cX4_addEntry 10 = .ok (.aload_n 0, 1) := by decide +kernel
theorem dX4_addEntry_11 : decode cX4_addEntry 11 = .ok (.getfield 21, 3) := by decide +kernel
theorem dX4_addEntry_14 : decode cX4_addEntry 14 = .ok (.iload 6, 2) := by decide +kernel
theorem dX4_addEntry_16 : decode cX4_addEntry 16 = .ok (.aload_n 0, 1) := by decide +kernel
theorem dX4_addEntry_17 : decode cX4_addEntry 17 = .ok (.getfield 21, 3) := by decide +kernel
theorem dX4_addEntry_20 : decode cX4_addEntry 20 = .ok (.iload 6, 2) := by decide +kernel
theorem dX4_addEntry_22 : decode cX4_addEntry 22 = .ok (.iaload, 1) := by decide +kernel
theorem dX4_addEntry_23 : decode cX4_addEntry 23 = .ok (.iload 5, 2) := by decide +kernel
theorem dX4_addEntry_25 : decode cX4_addEntry 25 = .ok (.iadd, 1) := by decide +kernel
theorem dX4_addEntry_26 : decode cX4_addEntry 26 = .ok (.invokestatic 62, 3) := by decide +kernel
theorem dX4_addEntry_29 : decode cX4_addEntry 29 = .ok (.iastore, 1) := by decide +kernel
theorem dX4_addEntry_30 : decode cX4_addEntry 30 = .ok (.return_, 1) := by decide +kernel
theorem dX4_allowOnly_0 : decode cX4_allowOnly 0 = .ok (.iconst 0, 1) := by decide +kernel
theorem dX4_allowOnly_1 : decode cX4_allowOnly 1 = .ok (.istore_n 3, 1) := by decide +kernel
theorem dX4_allowOnly_2 : decode cX4_allowOnly 2 = .ok (.iload_n 3, 1) := by decide +kernel
theorem dX4_allowOnly_3 : decode cX4_allowOnly 3 = .ok (.aload_n 0, 1) := by decide +kernel
theorem dX4_allowOnly_4 : decode cX4_allowOnly 4 = .ok (.getfield 9, 3) := by decide +kernel
theorem dX4_allowOnly_7 : decode cX4_allowOnly 7 = .ok (.iload_n 1, 1) := by decide +kernel
theorem dX4_allowOnly_8 : decode cX4_allowOnly 8 = .ok (.iaload, 1) := by decide +kernel
theorem dX4_allowOnly_9 : decode cX4_allowOnly 9 = .ok (.if_icmp .ge 26, 3) := by decide +kernel
theorem dX4_allowOnly_12 : decode cX4_allowOnly 12 = .ok (.iload_n 3, 1) := by decide +kernel
theorem dX4_allowOnly_13 : decode cX4_allowOnly 13 = .ok (.iload_n 2, 1) := by decide +kernel
theorem dX4_allowOnly_14 : decode cX4_allowOnly 14 = .ok (.if_icmp .eq 15, 3) := by decide +kernel
theorem dX4_allowOnly_17 : decode cX4_allowOnly 17 = .ok (.aload_n 0, 1) := by decide +kernel
theorem dX4_allowOnly_18 : decode cX4_allowOnly 18 = .ok (.getfield 18, 3) := by decide +kernel
theorem dX4_allowOnly_21 : decode cX4_allowOnly 21 = .ok (.iload_n 1, 1) := by decide +kernel
theorem dX4_allowOnly_22 : decode cX4_allowOnly 22 = .ok (.iload_n 3, 1) := by decide +kernel
theorem dX4_allowOnly_23 : decode cX4_allowOnly 23 = .ok (.invokestatic 37, 3) := by decide +kernel
theorem dX4_allowOnly_26 : decode cX4_allowOnly 26 = .ok (.ldc 66, 2) := by decide +kernel
theorem dX4_allowOnly_28 : decode cX4_allowOnly 28 = .ok (.iastore, 1) := by decide +kernel
theorem dX4_allowOnly_29 : decode cX4_allowOnly 29 = .ok (.iinc 3 1, 3) := by decide +kernel
theorem dX4_allowOnly_32 : decode cX4_allowOnly 32 = .ok (.goto (-30), 3) := by decide +kernel
theorem dX4_allowOnly_35 : decode cX4_allowOnly 35 = .ok (.return_, 1) := by decide +kernel
theorem dX4_costBeside_0 : decode cX4_costBeside 0 = .ok (.aload_n 0, 1) := by decide +kernel
theorem dX4_costBeside_1 : decode cX4_costBeside 1 = .ok (.getfield 18, 3) := by decide +kernel
theorem dX4_costBeside_4 : decode cX4_costBeside 4 = .ok (.iload_n 1, 1) := by decide +kernel
theorem dX4_costBeside_5 : decode cX4_costBeside 5 = .ok (.iload_n 2, 1) := by decide +kernel
theorem dX4_costBeside_6 : decode cX4_costBeside 6 = .ok (.invokestatic 37, 3) := by decide +kernel
theorem dX4_costBeside_9 : decode cX4_costBeside 9 = .ok (.iaload, 1) := by decide +kernel
theorem dX4_costBeside_10 : decode cX4_costBeside 10 = .ok (.istore 5, 2) := by decide +kernel
theorem dX4_costBeside_12 : decode cX4_costBeside 12 = .ok (.iload_n 3, 1) := by decide +kernel
theorem dX4_costBeside_13 : decode cX4_costBeside 13 = .ok (.ifCond .ne 6, 3) := by decide +kernel
theorem dX4_costBeside_16 : decode cX4_costBeside 16 = .ok (.iload 5, 2) := by decide +kernel
theorem dX4_costBeside_18 : decode cX4_costBeside 18 = .ok (.ireturn, 1) := by decide +kernel
theorem dX4_costBeside_19 : decode cX4_costBeside 19 = .ok (.iconst 0, 1) := by decide +kernel
theorem dX4_costBeside_20 : decode cX4_costBeside 20 = .ok (.istore 6, 2) := by decide +kernel
theorem dX4_costBeside_22 : decode cX4_costBeside 22 = .ok (.iload 6, 2) := by decide +kernel
theorem dX4_costBeside_24 : decode cX4_costBeside 24 = .ok (.aload_n 0, 1) := by decide +kernel
theorem dX4_costBeside_25 : decode cX4_costBeside 25 = .ok (.getfield 30, 3) := by decide +kernel
theorem dX4_costBeside_28 : decode cX4_costBeside 28 = .ok (.if_icmp .ge 47, 3) := by decide +kernel
theorem dX4_costBeside_31 : decode cX4_costBeside 31 = .ok (.iload_n 3, 1) := by decide +kernel
theorem dX4_costBeside_32 : decode cX4_costBeside 32 = .ok (.iload 6, 2) := by decide +kernel
theorem dX4_costBeside_34 : decode cX4_costBeside 34 = .ok (.ishr, 1) := by decide +kernel
theorem dX4_costBeside_35 : decode cX4_costBeside 35 = .ok (.ifCond .eq 40, 3) := by decide +kernel
theorem dX4_costBeside_38 : decode cX4_costBeside 38 = .ok (.iload_n 3, 1) := by decide +kernel
theorem dX4_costBeside_39 : decode cX4_costBeside 39 = .ok (.iload 6, 2) := by decide +kernel
theorem dX4_costBeside_41 : decode cX4_costBeside 41 = .ok (.invokestatic 59, 3) := by decide +kernel
theorem dX4_costBeside_44 : decode cX4_costBeside 44 = .ok (.ifCond .eq 25, 3) := by decide +kernel
theorem dX4_costBeside_47 : decode cX4_costBeside 47 = .ok (.iload 5, 2) := by decide +kernel
theorem dX4_costBeside_49 : decode cX4_costBeside 49 = .ok (.aload_n 0, 1) := by decide +kernel
theorem dX4_costBeside_50 : decode cX4_costBeside 50 = .ok (.getfield 21, 3) := by decide +kernel
theorem dX4_costBeside_53 : decode cX4_costBeside 53 = .ok (.iload_n 1, 1) := by decide +kernel
theorem dX4_costBeside_54 : decode cX4_costBeside 54 = .ok (.iload 6, 2) := by decide +kernel
theorem dX4_costBeside_56 : decode cX4_costBeside 56 = .ok (.iload_n 2, 1) := by decide +kernel
theorem dX4_costBeside_57 : decode cX4_costBeside 57 = .ok (.aload 4, 2) := by decide +kernel
theorem dX4_costBeside_59 : decode cX4_costBeside 59 = .ok (.iload 6, 2) := by decide +kernel
theorem dX4_costBeside_61 : decode cX4_costBeside 61 = .ok (.iaload, 1) := by decide +kernel
theorem dX4_costBeside_62 : decode cX4_costBeside 62 = .ok (.invokestatic 52, 3) := by decide +kernel
theorem dX4_costBeside_65 : decode cX4_costBeside 65 = .ok (.iaload, 1) := by decide +kernel
theorem dX4_costBeside_66 : decode cX4_costBeside 66 = .ok (.iadd, 1) := by decide +kernel
theorem dX4_costBeside_67 : decode cX4_costBeside 67 = .ok (.istore 5, 2) := by decide +kernel
theorem dX4_costBeside_69 : decode cX4_costBeside 69 = .ok (.iinc 6 1, 3) := by decide +kernel
theorem dX4_costBeside_72 : decode cX4_costBeside 72 = .ok (.goto (-50), 3) := by decide +kernel
theorem dX4_costBeside_75 : decode cX4_costBeside 75 = .ok (.iload 5, 2) := by decide +kernel
theorem dX4_costBeside_77 : decode cX4_costBeside 77 = .ok (.invokestatic 62, 3) := by decide +kernel
theorem dX4_costBeside_80 : decode cX4_costBeside 80 = .ok (.ireturn, 1) := by decide +kernel
theorem dX4_planCost_0 : decode cX4_planCost 0 = .ok (.iconst 0, 1) := by decide +kernel
theorem dX4_planCost_1 : decode cX4_planCost 1 = .ok (.istore_n 2, 1) := by decide +kernel
theorem dX4_planCost_2 : decode cX4_planCost 2 = .ok (.iconst 0, 1) := by decide +kernel
theorem dX4_planCost_3 : decode cX4_planCost 3 = .ok (.istore_n 3, 1) := by decide +kernel
theorem dX4_planCost_4 : decode cX4_planCost 4 = .ok (.iload_n 3, 1) := by decide +kernel
theorem dX4_planCost_5 : decode cX4_planCost 5 = .ok (.aload_n 0, 1) := by decide +kernel
theorem dX4_planCost_6 : decode cX4_planCost 6 = .ok (.getfield 30, 3) := by decide +kernel
theorem dX4_planCost_9 : decode cX4_planCost 9 = .ok (.if_icmp .ge 29, 3) := by decide +kernel
theorem dX4_planCost_12 : decode cX4_planCost 12 = .ok (.iload_n 2, 1) := by decide +kernel
theorem dX4_planCost_13 : decode cX4_planCost 13 = .ok (.aload_n 0, 1) := by decide +kernel
theorem dX4_planCost_14 : decode cX4_planCost 14 = .ok (.iload_n 3, 1) := by decide +kernel
theorem dX4_planCost_15 : decode cX4_planCost 15 = .ok (.aload_n 1, 1) := by decide +kernel
theorem dX4_planCost_16 : decode cX4_planCost 16 = .ok (.iload_n 3, 1) := by decide +kernel
theorem dX4_planCost_17 : decode cX4_planCost 17 = .ok (.iaload, 1) := by decide +kernel
theorem dX4_planCost_18 : decode cX4_planCost 18 = .ok (.aload_n 0, 1) := by decide +kernel
theorem dX4_planCost_19 : decode cX4_planCost 19 = .ok (.iload_n 3, 1) := by decide +kernel
theorem dX4_planCost_20 : decode cX4_planCost 20 = .ok (.invokevirtual 67, 3) := by decide +kernel
theorem dX4_planCost_23 : decode cX4_planCost 23 = .ok (.aload_n 1, 1) := by decide +kernel
theorem dX4_planCost_24 : decode cX4_planCost 24 = .ok (.invokevirtual 70, 3) := by decide +kernel
theorem dX4_planCost_27 : decode cX4_planCost 27 = .ok (.iadd, 1) := by decide +kernel
theorem dX4_planCost_28 : decode cX4_planCost 28 = .ok (.invokestatic 62, 3) := by decide +kernel
theorem dX4_planCost_31 : decode cX4_planCost 31 = .ok (.istore_n 2, 1) := by decide +kernel
theorem dX4_planCost_32 : decode cX4_planCost 32 = .ok (.iinc 3 1, 3) := by decide +kernel
theorem dX4_planCost_35 : decode cX4_planCost 35 = .ok (.goto (-31), 3) := by decide +kernel
theorem dX4_planCost_38 : decode cX4_planCost 38 = .ok (.iload_n 2, 1) := by decide +kernel
theorem dX4_planCost_39 : decode cX4_planCost 39 = .ok (.ireturn, 1) := by decide +kernel
theorem dX4_matesBelow_0 : decode cX4_matesBelow 0 = .ok (.aload_n 0, 1) := by decide +kernel
theorem dX4_matesBelow_1 : decode cX4_matesBelow 1 = .ok (.getfield 15, 3) := by decide +kernel
theorem dX4_matesBelow_4 : decode cX4_matesBelow 4 = .ok (.iload_n 1, 1) := by decide +kernel
theorem dX4_matesBelow_5 : decode cX4_matesBelow 5 = .ok (.iaload, 1) := by decide +kernel
theorem dX4_matesBelow_6 : decode cX4_matesBelow 6 = .ok (.iconst 1, 1) := by decide +kernel
theorem dX4_matesBelow_7 : decode cX4_matesBelow 7 = .ok (.iload_n 1, 1) := by decide +kernel
theorem dX4_matesBelow_8 : decode cX4_matesBelow 8 = .ok (.ishl, 1) := by decide +kernel
theorem dX4_matesBelow_9 : decode cX4_matesBelow 9 = .ok (.iconst 1, 1) := by decide +kernel
theorem dX4_matesBelow_10 : decode cX4_matesBelow 10 = .ok (.isub, 1) := by decide +kernel
theorem dX4_matesBelow_11 : decode cX4_matesBelow 11 = .ok (.iand, 1) := by decide +kernel
theorem dX4_matesBelow_12 : decode cX4_matesBelow 12 = .ok (.ireturn, 1) := by decide +kernel
theorem dX4_leastAcross_0 : decode cX4_leastAcross 0 = .ok (.ldc 66, 2) := by decide +kernel
theorem dX4_leastAcross_2 : decode cX4_leastAcross 2 = .ok (.istore 4, 2) := by decide +kernel
theorem dX4_leastAcross_4 : decode cX4_leastAcross 4 = .ok (.iconst 0, 1) := by decide +kernel
theorem dX4_leastAcross_5 : decode cX4_leastAcross 5 = .ok (.istore 5, 2) := by decide +kernel
theorem dX4_leastAcross_7 : decode cX4_leastAcross 7 = .ok (.iload 5, 2) := by decide +kernel
theorem dX4_leastAcross_9 : decode cX4_leastAcross 9 = .ok (.aload_n 0, 1) := by decide +kernel
theorem dX4_leastAcross_10 : decode cX4_leastAcross 10 = .ok (.getfield 9, 3) := by decide +kernel
theorem dX4_leastAcross_13 : decode cX4_leastAcross 13 = .ok (.iload_n 3, 1) := by decide +kernel
theorem dX4_leastAcross_14 : decode cX4_leastAcross 14 = .ok (.iaload, 1) := by decide +kernel
theorem dX4_leastAcross_15 : decode cX4_leastAcross 15 = .ok (.if_icmp .ge 45, 3) := by decide +kernel
theorem dX4_leastAcross_18 : decode cX4_leastAcross 18 = .ok (.aload_n 0, 1) := by decide +kernel
theorem dX4_leastAcross_19 : decode cX4_leastAcross 19 = .ok (.getfield 18, 3) := by decide +kernel
theorem dX4_leastAcross_22 : decode cX4_leastAcross 22 = .ok (.iload_n 3, 1) := by decide +kernel
theorem dX4_leastAcross_23 : decode cX4_leastAcross 23 = .ok (.iload 5, 2) := by decide +kernel
theorem dX4_leastAcross_25 : decode cX4_leastAcross 25 = .ok (.invokestatic 37, 3) := by decide +kernel
theorem dX4_leastAcross_28 : decode cX4_leastAcross 28 = .ok (.iaload, 1) := by decide +kernel
theorem dX4_leastAcross_29 : decode cX4_leastAcross 29 = .ok (.aload_n 0, 1) := by decide +kernel
theorem dX4_leastAcross_30 : decode cX4_leastAcross 30 = .ok (.getfield 21, 3) := by decide +kernel
theorem dX4_leastAcross_33 : decode cX4_leastAcross 33 = .ok (.iload_n 1, 1) := by decide +kernel
theorem dX4_leastAcross_34 : decode cX4_leastAcross 34 = .ok (.iload_n 3, 1) := by decide +kernel
theorem dX4_leastAcross_35 : decode cX4_leastAcross 35 = .ok (.iload_n 2, 1) := by decide +kernel
theorem dX4_leastAcross_36 : decode cX4_leastAcross 36 = .ok (.iload 5, 2) := by decide +kernel
theorem dX4_leastAcross_38 : decode cX4_leastAcross 38 = .ok (.invokestatic 52, 3) := by decide +kernel
theorem dX4_leastAcross_41 : decode cX4_leastAcross 41 = .ok (.iaload, 1) := by decide +kernel
theorem dX4_leastAcross_42 : decode cX4_leastAcross 42 = .ok (.iadd, 1) := by decide +kernel
theorem dX4_leastAcross_43 : decode cX4_leastAcross 43 = .ok (.istore 6, 2) := by decide +kernel
theorem dX4_leastAcross_45 : decode cX4_leastAcross 45 = .ok (.iload 4, 2) := by decide +kernel
theorem dX4_leastAcross_47 : decode cX4_leastAcross 47 = .ok (.iload 6, 2) := by decide +kernel
theorem dX4_leastAcross_49 : decode cX4_leastAcross 49 = .ok (.invokestatic 74, 3) := by decide +kernel
theorem dX4_leastAcross_52 : decode cX4_leastAcross 52 = .ok (.istore 4, 2) := by decide +kernel
theorem dX4_leastAcross_54 : decode cX4_leastAcross 54 = .ok (.iinc 5 1, 3) := by decide +kernel
theorem dX4_leastAcross_57 : decode cX4_leastAcross 57 = .ok (.goto (-50), 3) := by decide +kernel
theorem dX4_leastAcross_60 : decode cX4_leastAcross 60 = .ok (.iload 4, 2) := by decide +kernel
theorem dX4_leastAcross_62 : decode cX4_leastAcross 62 = .ok (.ireturn, 1) := by decide +kernel
theorem dX4_leastCost_0 : decode cX4_leastCost 0 = .ok (.ldc 66, 2) := by decide +kernel
theorem dX4_leastCost_2 : decode cX4_leastCost 2 = .ok (.istore_n 2, 1) := by decide +kernel
theorem dX4_leastCost_3 : decode cX4_leastCost 3 = .ok (.iconst 0, 1) := by decide +kernel
theorem dX4_leastCost_4 : decode cX4_leastCost 4 = .ok (.istore_n 3, 1) := by decide +kernel
theorem dX4_leastCost_5 : decode cX4_leastCost 5 = .ok (.iload_n 3, 1) := by decide +kernel
theorem dX4_leastCost_6 : decode cX4_leastCost 6 = .ok (.aload_n 0, 1) := by decide +kernel
theorem dX4_leastCost_7 : decode cX4_leastCost 7 = .ok (.getfield 9, 3) := by decide +kernel
theorem dX4_leastCost_10 : decode cX4_leastCost 10 = .ok (.iload_n 1, 1) := by decide +kernel
theorem dX4_leastCost_11 : decode cX4_leastCost 11 = .ok (.iaload, 1) := by decide +kernel
theorem dX4_leastCost_12 : decode cX4_leastCost 12 = .ok (.if_icmp .ge 20, 3) := by decide +kernel
theorem dX4_leastCost_15 : decode cX4_leastCost 15 = .ok (.iload_n 2, 1) := by decide +kernel
theorem dX4_leastCost_16 : decode cX4_leastCost 16 = .ok (.aload_n 0, 1) := by decide +kernel
theorem dX4_leastCost_17 : decode cX4_leastCost 17 = .ok (.iload_n 1, 1) := by decide +kernel
theorem dX4_leastCost_18 : decode cX4_leastCost 18 = .ok (.iload_n 3, 1) := by decide +kernel
theorem dX4_leastCost_19 : decode cX4_leastCost 19 = .ok (.invokevirtual 79, 3) := by decide +kernel
theorem dX4_leastCost_22 : decode cX4_leastCost 22 = .ok (.invokestatic 74, 3) := by decide +kernel
theorem dX4_leastCost_25 : decode cX4_leastCost 25 = .ok (.istore_n 2, 1) := by decide +kernel
theorem dX4_leastCost_26 : decode cX4_leastCost 26 = .ok (.iinc 3 1, 3) := by decide +kernel
theorem dX4_leastCost_29 : decode cX4_leastCost 29 = .ok (.goto (-24), 3) := by decide +kernel
theorem dX4_leastCost_32 : decode cX4_leastCost 32 = .ok (.iload_n 2, 1) := by decide +kernel
theorem dX4_leastCost_33 : decode cX4_leastCost 33 = .ok (.ireturn, 1) := by decide +kernel
theorem dX4_leastEntry_0 : decode cX4_leastEntry 0 = .ok (.ldc 66, 2) := by decide +kernel
theorem dX4_leastEntry_2 : decode cX4_leastEntry 2 = .ok (.istore_n 3, 1) := by decide +kernel
theorem dX4_leastEntry_3 : decode cX4_leastEntry 3 = .ok (.iconst 0, 1) := by decide +kernel
theorem dX4_leastEntry_4 : decode cX4_leastEntry 4 = .ok (.istore 4, 2) := by decide +kernel
theorem dX4_leastEntry_6 : decode cX4_leastEntry 6 = .ok (.iload 4, 2) := by decide +kernel
theorem dX4_leastEntry_8 : decode cX4_leastEntry 8 = .ok (.aload_n 0, 1) := by decide +kernel
theorem dX4_leastEntry_9 : decode cX4_leastEntry 9 = .ok (.getfield 9, 3) := by decide +kernel
theorem dX4_leastEntry_12 : decode cX4_leastEntry 12 = .ok (.iload_n 1, 1) := by decide +kernel
theorem dX4_leastEntry_13 : decode cX4_leastEntry 13 = .ok (.iaload, 1) := by decide +kernel
theorem dX4_leastEntry_14 : decode cX4_leastEntry 14 = .ok (.if_icmp .ge 44, 3) := by decide +kernel
theorem dX4_leastEntry_17 : decode cX4_leastEntry 17 = .ok (.iconst 0, 1) := by decide +kernel
theorem dX4_leastEntry_18 : decode cX4_leastEntry 18 = .ok (.istore 5, 2) := by decide +kernel
theorem dX4_leastEntry_20 : decode cX4_leastEntry 20 = .ok (.iload 5, 2) := by decide +kernel
theorem dX4_leastEntry_22 : decode cX4_leastEntry 22 = .ok (.aload_n 0, 1) := by decide +kernel
theorem dX4_leastEntry_23 : decode cX4_leastEntry 23 = .ok (.getfield 9, 3) := by decide +kernel
theorem dX4_leastEntry_26 : decode cX4_leastEntry 26 = .ok (.iload_n 2, 1) := by decide +kernel
theorem dX4_leastEntry_27 : decode cX4_leastEntry 27 = .ok (.iaload, 1) := by decide +kernel
theorem dX4_leastEntry_28 : decode cX4_leastEntry 28 = .ok (.if_icmp .ge 24, 3) := by decide +kernel
theorem dX4_leastEntry_31 : decode cX4_leastEntry 31 = .ok (.iload_n 3, 1) := by decide +kernel
theorem dX4_leastEntry_32 : decode cX4_leastEntry 32 = .ok (.aload_n 0, 1) := by decide +kernel
theorem dX4_leastEntry_33 : decode cX4_leastEntry 33 = .ok (.iload_n 1, 1) := by decide +kernel
theorem dX4_leastEntry_34 : decode cX4_leastEntry 34 = .ok (.iload_n 2, 1) := by decide +kernel
theorem dX4_leastEntry_35 : decode cX4_leastEntry 35 = .ok (.iload 4, 2) := by decide +kernel
theorem dX4_leastEntry_37 : decode cX4_leastEntry 37 = .ok (.iload 5, 2) := by decide +kernel
theorem dX4_leastEntry_39 : decode cX4_leastEntry 39 = .ok (.invokevirtual 82, 3) := by decide +kernel
theorem dX4_leastEntry_42 : decode cX4_leastEntry 42 = .ok (.invokestatic 74, 3) := by decide +kernel
theorem dX4_leastEntry_45 : decode cX4_leastEntry 45 = .ok (.istore_n 3, 1) := by decide +kernel
theorem dX4_leastEntry_46 : decode cX4_leastEntry 46 = .ok (.iinc 5 1, 3) := by decide +kernel
theorem dX4_leastEntry_49 : decode cX4_leastEntry 49 = .ok (.goto (-29), 3) := by decide +kernel
theorem dX4_leastEntry_52 : decode cX4_leastEntry 52 = .ok (.iinc 4 1, 3) := by decide +kernel
theorem dX4_leastEntry_55 : decode cX4_leastEntry 55 = .ok (.goto (-49), 3) := by decide +kernel
theorem dX4_leastEntry_58 : decode cX4_leastEntry 58 = .ok (.iload_n 3, 1) := by decide +kernel
theorem dX4_leastEntry_59 : decode cX4_leastEntry 59 = .ok (.ireturn, 1) := by decide +kernel
theorem dX4_bound_0 : decode cX4_bound 0 = .ok (.iconst 0, 1) := by decide +kernel
theorem dX4_bound_1 : decode cX4_bound 1 = .ok (.istore_n 1, 1) := by decide +kernel
theorem dX4_bound_2 : decode cX4_bound 2 = .ok (.iconst 0, 1) := by decide +kernel
theorem dX4_bound_3 : decode cX4_bound 3 = .ok (.istore_n 2, 1) := by decide +kernel
theorem dX4_bound_4 : decode cX4_bound 4 = .ok (.iload_n 2, 1) := by decide +kernel
theorem dX4_bound_5 : decode cX4_bound 5 = .ok (.aload_n 0, 1) := by decide +kernel
theorem dX4_bound_6 : decode cX4_bound 6 = .ok (.getfield 30, 3) := by decide +kernel
theorem dX4_bound_9 : decode cX4_bound 9 = .ok (.if_icmp .ge 54, 3) := by decide +kernel
theorem dX4_bound_12 : decode cX4_bound 12 = .ok (.iload_n 1, 1) := by decide +kernel
theorem dX4_bound_13 : decode cX4_bound 13 = .ok (.aload_n 0, 1) := by decide +kernel
theorem dX4_bound_14 : decode cX4_bound 14 = .ok (.iload_n 2, 1) := by decide +kernel
theorem dX4_bound_15 : decode cX4_bound 15 = .ok (.invokevirtual 85, 3) := by decide +kernel
theorem dX4_bound_18 : decode cX4_bound 18 = .ok (.iadd, 1) := by decide +kernel
theorem dX4_bound_19 : decode cX4_bound 19 = .ok (.invokestatic 62, 3) := by decide +kernel
theorem dX4_bound_22 : decode cX4_bound 22 = .ok (.istore_n 1, 1) := by decide +kernel
theorem dX4_bound_23 : decode cX4_bound 23 = .ok (.iconst 0, 1) := by decide +kernel
theorem dX4_bound_24 : decode cX4_bound 24 = .ok (.istore_n 3, 1) := by decide +kernel
theorem dX4_bound_25 : decode cX4_bound 25 = .ok (.iload_n 3, 1) := by decide +kernel
theorem dX4_bound_26 : decode cX4_bound 26 = .ok (.iload_n 2, 1) := by decide +kernel
theorem dX4_bound_27 : decode cX4_bound 27 = .ok (.if_icmp .ge 30, 3) := by decide +kernel
theorem dX4_bound_30 : decode cX4_bound 30 = .ok (.aload_n 0, 1) := by decide +kernel
theorem dX4_bound_31 : decode cX4_bound 31 = .ok (.iload_n 2, 1) := by decide +kernel
theorem dX4_bound_32 : decode cX4_bound 32 = .ok (.iload_n 3, 1) := by decide +kernel
theorem dX4_bound_33 : decode cX4_bound 33 = .ok (.invokevirtual 44, 3) := by decide +kernel
theorem dX4_bound_36 : decode cX4_bound 36 = .ok (.ifCond .eq 15, 3) := by decide +kernel
theorem dX4_bound_39 : decode cX4_bound 39 = .ok (.iload_n 1, 1) := by decide +kernel
theorem dX4_bound_40 : decode cX4_bound 40 = .ok (.aload_n 0, 1) := by decide +kernel
theorem dX4_bound_41 : decode cX4_bound 41 = .ok (.iload_n 2, 1) := by decide +kernel
theorem dX4_bound_42 : decode cX4_bound 42 = .ok (.iload_n 3, 1) := by decide +kernel
theorem dX4_bound_43 : decode cX4_bound 43 = .ok (.invokevirtual 88, 3) := by decide +kernel
theorem dX4_bound_46 : decode cX4_bound 46 = .ok (.iadd, 1) := by decide +kernel
theorem dX4_bound_47 : decode cX4_bound 47 = .ok (.invokestatic 62, 3) := by decide +kernel
theorem dX4_bound_50 : decode cX4_bound 50 = .ok (.istore_n 1, 1) := by decide +kernel
theorem dX4_bound_51 : decode cX4_bound 51 = .ok (.iinc 3 1, 3) := by decide +kernel
theorem dX4_bound_54 : decode cX4_bound 54 = .ok (.goto (-29), 3) := by decide +kernel
theorem dX4_bound_57 : decode cX4_bound 57 = .ok (.iinc 2 1, 3) := by decide +kernel
theorem dX4_bound_60 : decode cX4_bound 60 = .ok (.goto (-56), 3) := by decide +kernel
theorem dX4_bound_63 : decode cX4_bound 63 = .ok (.iload_n 1, 1) := by decide +kernel
theorem dX4_bound_64 : decode cX4_bound 64 = .ok (.ireturn, 1) := by decide +kernel
end
section
theorem dX5_init_0 : decode cX5_init 0 = .ok (.aload_n 0, 1) := by decide +kernel
theorem dX5_init_1 : decode cX5_init 1 = .ok (.invokespecial 3, 3) := by decide +kernel
theorem dX5_init_4 : decode cX5_init 4 = .ok (.aload_n 0, 1) := by decide +kernel
theorem dX5_init_5 : decode cX5_init 5 = .ok (.sipush 200, 3) := by decide +kernel
theorem dX5_init_8 : decode cX5_init 8 = .ok (.newarray .char, 2) := by decide +kernel
theorem dX5_init_10 : decode cX5_init 10 = .ok (.putfield 9, 3) := by decide +kernel
theorem dX5_init_13 : decode cX5_init 13 = .ok (.aload_n 0, 1) := by decide +kernel
theorem dX5_init_14 : decode cX5_init 14 = .ok (.new 13, 3) := by decide +kernel
theorem dX5_init_17 : decode cX5_init 17 = .ok (.dup, 1) := by decide +kernel
theorem dX5_init_18 : decode cX5_init 18 = .ok (.invokespecial 15, 3) := by decide +kernel
theorem dX5_init_21 : decode cX5_init 21 = .ok (.putfield 16, 3) := by decide +kernel
theorem dX5_init_24 : decode cX5_init 24 = .ok (.aload_n 0, 1) := by decide +kernel
theorem dX5_init_25 : decode cX5_init 25 = .ok (.new 13, 3) := by decide +kernel
theorem dX5_init_28 : decode cX5_init 28 = .ok (.dup, 1) := by decide +kernel
theorem dX5_init_29 : decode cX5_init 29 = .ok (.invokespecial 15, 3) := by decide +kernel
theorem dX5_init_32 : decode cX5_init 32 = .ok (.putfield 20, 3) := by decide +kernel
theorem dX5_init_35 : decode cX5_init 35 = .ok (.aload_n 0, 1) := by decide +kernel
theorem dX5_init_36 : decode cX5_init 36 = .ok (.new 23, 3) := by decide +kernel
theorem dX5_init_39 : decode cX5_init 39 = .ok (.dup, 1) := by decide +kernel
theorem dX5_init_40 : decode cX5_init 40 = .ok (.aload_n 0, 1) := by decide +kernel
theorem dX5_init_41 : decode cX5_init 41 = .ok (.getfield 9, 3) := by decide +kernel
theorem dX5_init_44 : decode cX5_init 44 = .ok (.aload_n 0, 1) := by decide +kernel
theorem dX5_init_45 : decode cX5_init 45 = .ok (.getfield 20, 3) := by decide +kernel
theorem dX5_init_48 : decode cX5_init 48 = .ok (.invokespecial 25, 3) := by decide +kernel
theorem dX5_init_51 : decode cX5_init 51 = .ok (.putfield 28, 3) := by decide +kernel
theorem dX5_init_54 : decode cX5_init 54 = .ok (.aload_n 0, 1) := by decide +kernel
theorem dX5_init_55 : decode cX5_init 55 = .ok (.bipush 8, 2) := by decide +kernel
theorem dX5_init_57 : decode cX5_init 57 = .ok (.anewarray 13, 3) := by decide +kernel
theorem dX5_init_60 : decode cX5_init 60 = .ok (.putfield 32, 3) := by decide +kernel
theorem dX5_init_63 : decode cX5_init 63 = .ok (.aload_n 0, 1) := by decide +kernel
theorem dX5_init_64 : decode cX5_init 64 = .ok (.iconst 2, 1) := by decide +kernel
theorem dX5_init_65 : decode cX5_init 65 = .ok (.anewarray 13, 3) := by decide +kernel
theorem dX5_init_68 : decode cX5_init 68 = .ok (.putfield 36, 3) := by decide +kernel
theorem dX5_init_71 : decode cX5_init 71 = .ok (.aload_n 0, 1) := by decide +kernel
theorem dX5_init_72 : decode cX5_init 72 = .ok (.new 39, 3) := by decide +kernel
theorem dX5_init_75 : decode cX5_init 75 = .ok (.dup, 1) := by decide +kernel
theorem dX5_init_76 : decode cX5_init 76 = .ok (.invokespecial 41, 3) := by decide +kernel
theorem dX5_init_79 : decode cX5_init 79 = .ok (.putfield 42, 3) := by decide +kernel
theorem dX5_init_82 : decode cX5_init 82 = .ok (.aload_n 0, 1) := by decide +kernel
theorem dX5_init_83 : decode cX5_init 83 = .ok (.new 39, 3) := by decide +kernel
theorem dX5_init_86 : decode cX5_init 86 = .ok (.dup, 1) := by decide +kernel
theorem dX5_init_87 : decode cX5_init 87 = .ok (.invokespecial 41, 3) := by decide +kernel
theorem dX5_init_90 : decode cX5_init 90 = .ok (.putfield 46, 3) := by decide +kernel
theorem dX5_init_93 : decode cX5_init 93 = .ok (.aload_n 0, 1) := by decide +kernel
theorem dX5_init_94 : decode cX5_init 94 = .ok (.new 49, 3) := by decide +kernel
theorem dX5_init_97 : decode cX5_init 97 = .ok (.dup, 1) := by decide +kernel
theorem dX5_init_98 : decode cX5_init 98 = .ok (.invokespecial 51, 3) := by decide +kernel
theorem dX5_init_101 : decode cX5_init 101 = .ok (.putfield 52, 3) := by decide +kernel
theorem dX5_init_104 : decode cX5_init 104 = .ok (.aload_n 0, 1) := by decide +kernel
theorem dX5_init_105 : decode cX5_init 105 = .ok (.new 56, 3) := by decide +kernel
theorem dX5_init_108 : decode cX5_init 108 = .ok (.dup, 1) := by decide +kernel
theorem dX5_init_109 : decode cX5_init 109 = .ok (.aload_n 0, 1) := by decide +kernel
theorem dX5_init_110 : decode cX5_init 110 = .ok (.getfield 42, 3) := by decide +kernel
theorem dX5_init_113 : decode cX5_init 113 = .ok (.iconst 0, 1) := by decide +kernel
theorem dX5_init_114 : decode cX5_init 114 = .ok (.invokespecial 58, 3) := by decide +kernel
theorem dX5_init_117 : decode cX5_init 117 = .ok (.putfield 61, 3) := by decide +kernel
theorem dX5_init_120 : decode cX5_init 120 = .ok (.aload_n 0, 1) := by decide +kernel
theorem dX5_init_121 : decode cX5_init 121 = .ok (.new 56, 3) := by decide +kernel
theorem dX5_init_124 : decode cX5_init 124 = .ok (.dup, 1) := by decide +kernel
theorem dX5_init_125 : decode cX5_init 125 = .ok (.aload_n 0, 1) := by decide +kernel
theorem dX5_init_126 : decode cX5_init 126 = .ok (.getfield 46, 3) := by decide +kernel
theorem dX5_init_129 : decode cX5_init 129 = .ok (.iconst 1, 1) := by decide +kernel
theorem dX5_init_130 : decode cX5_init 130 = .ok (.invokespecial 58, 3) := by decide +kernel
theorem dX5_init_133 : decode cX5_init 133 = .ok (.putfield 65, 3) := by decide +kernel
theorem dX5_init_136 : decode cX5_init 136 = .ok (.iconst 0, 1) := by decide +kernel
theorem dX5_init_137 : decode cX5_init 137 = .ok (.istore_n 1, 1) := by decide +kernel
theorem dX5_init_138 : decode cX5_init 138 = .ok (.iload_n 1, 1) := by decide +kernel
theorem dX5_init_139 : decode cX5_init 139 = .ok (.bipush 8, 2) := by decide +kernel
theorem dX5_init_141 : decode cX5_init 141 = .ok (.if_icmp .ge 22, 3) := by decide +kernel
theorem dX5_init_144 : decode cX5_init 144 = .ok (.aload_n 0, 1) := by decide +kernel
theorem dX5_init_145 : decode cX5_init 145 = .ok (.getfield 32, 3) := by decide +kernel
theorem dX5_init_148 : decode cX5_init 148 = .ok (.iload_n 1, 1) := by decide +kernel
theorem dX5_init_149 : decode cX5_init 149 = .ok (.new 13, 3) := by decide +kernel
theorem dX5_init_152 : decode cX5_init 152 = .ok (.dup, 1) := by decide +kernel
theorem dX5_init_153 : decode cX5_init 153 = .ok (.invokespecial 15, 3) := by decide +kernel
theorem dX5_init_156 : decode cX5_init 156 = .ok (.aastore, 1) := by decide +kernel
theorem dX5_init_157 : decode cX5_init 157 = .ok (.iinc 1 1, 3) := by decide +kernel
theorem dX5_init_160 : decode cX5_init 160 = .ok (.goto (-22), 3) := by decide +kernel
theorem dX5_init_163 : decode cX5_init 163 = .ok (.iconst 0, 1) := by decide +kernel
theorem dX5_init_164 : decode cX5_init 164 = .ok (.istore_n 1, 1) := by decide +kernel
theorem dX5_init_165 : decode cX5_init 165 = .ok (.iload_n 1, 1) := by decide +kernel
theorem dX5_init_166 : decode cX5_init 166 = .ok (.iconst 2, 1) := by decide +kernel
theorem dX5_init_167 : decode cX5_init 167 = .ok (.if_icmp .ge 22, 3) := by decide +kernel
theorem dX5_init_170 : decode cX5_init 170 = .ok (.aload_n 0, 1) := by decide +kernel
theorem dX5_init_171 : decode cX5_init 171 = .ok (.getfield 36, 3) := by decide +kernel
theorem dX5_init_174 : decode cX5_init 174 = .ok (.iload_n 1, 1) := by decide +kernel
theorem dX5_init_175 : decode cX5_init 175 = .ok (.new 13, 3) := by decide +kernel
theorem dX5_init_178 : decode cX5_init 178 = .ok (.dup, 1) := by decide +kernel
theorem dX5_init_179 : decode cX5_init 179 = .ok (.invokespecial 15, 3) := by decide +kernel
theorem dX5_init_182 : decode cX5_init 182 = .ok (.aastore, 1) := by decide +kernel
theorem dX5_init_183 : decode cX5_init 183 = .ok (.iinc 1 1, 3) := by decide +kernel
theorem dX5_init_186 : decode cX5_init 186 = .ok (.goto (-21), 3) := by decide +kernel
theorem dX5_init_189 : decode cX5_init 189 = .ok (.iconst 0, 1) := by decide +kernel
theorem dX5_init_190 : decode cX5_init 190 = .ok (.istore_n 1, 1) := by decide +kernel
theorem dX5_init_191 : decode cX5_init 191 = .ok (.iload_n 1, 1) := by decide +kernel
theorem dX5_init_192 : decode cX5_init 192 = .ok (.ldc 68, 2) := by decide +kernel
theorem dX5_init_194 : decode cX5_init 194 = .ok (.invokevirtual 70, 3) := by decide +kernel
theorem dX5_init_197 : decode cX5_init 197 = .ok (.if_icmp .ge 20, 3) := by decide +kernel
theorem dX5_init_200 : decode cX5_init 200 = .ok (.aload_n 0, 1) := by decide +kernel
theorem dX5_init_201 : decode cX5_init 201 = .ok (.ldc 68, 2) := by decide +kernel
theorem dX5_init_203 : decode cX5_init 203 = .ok (.iload_n 1, 1) := by decide +kernel
theorem dX5_init_204 : decode cX5_init 204 = .ok (.invokevirtual 76, 3) := by decide +kernel
theorem dX5_init_207 : decode cX5_init 207 = .ok (.invokevirtual 80, 3) := by decide +kernel
theorem dX5_init_210 : decode cX5_init 210 = .ok (.pop, 1) := by decide +kernel
theorem dX5_init_211 : decode cX5_init 211 = .ok (.iinc 1 1, 3) := by decide +kernel
theorem dX5_init_214 : decode cX5_init 214 = .ok (.goto (-23), 3) := by decide +kernel
theorem dX5_init_217 : decode cX5_init 217 = .ok (.aload_n 0, 1) := by decide +kernel
theorem dX5_init_218 : decode cX5_init 218 = .ok (.invokevirtual 84, 3) := by decide +kernel
theorem dX5_init_221 : decode cX5_init 221 = .ok (.pop, 1) := by decide +kernel
theorem dX5_init_222 : decode cX5_init 222 = .ok (.aload_n 0, 1) := by decide +kernel
theorem dX5_init_223 : decode cX5_init 223 = .ok (.invokevirtual 87, 3) := by decide +kernel
theorem dX5_init_226 : decode cX5_init 226 = .ok (.pop, 1) := by decide +kernel
theorem dX5_init_227 : decode cX5_init 227 = .ok (.return_, 1) := by decide +kernel
theorem dX5_write_0 : decode cX5_write 0 = .ok (.iload_n 1, 1) := by decide +kernel
theorem dX5_write_1 : decode cX5_write 1 = .ok (.bipush 32, 2) := by decide +kernel
theorem dX5_write_3 : decode cX5_write 3 = .ok (.bipush 126, 2) := by decide +kernel
theorem dX5_write_5 : decode cX5_write 5 = .ok (.invokestatic 90, 3) := by decide +kernel
theorem dX5_write_8 : decode cX5_write 8 = .ok (.ifCond .ne 5, 3) := by decide +kernel
theorem dX5_write_11 : decode cX5_write 11 = .ok (.iconst (-1), 1) := by decide +kernel
theorem dX5_write_12 : decode cX5_write 12 = .ok (.ireturn, 1) := by decide +kernel
theorem dX5_write_13 : decode cX5_write 13 = .ok (.aload_n 0, 1) := by decide +kernel
theorem dX5_write_14 : decode cX5_write 14 = .ok (.getfield 94, 3) := by decide +kernel
theorem dX5_write_17 : decode cX5_write 17 = .ok (.sipush 200, 3) := by decide +kernel
theorem dX5_write_20 : decode cX5_write 20 = .ok (.if_icmp .lt 6, 3) := by decide +kernel
theorem dX5_write_23 : decode cX5_write 23 = .ok (.bipush (-3), 2) := by decide +kernel
theorem dX5_write_25 : decode cX5_write 25 = .ok (.ireturn, 1) := by decide +kernel
theorem dX5_write_26 : decode cX5_write 26 = .ok (.aload_n 0, 1) := by decide +kernel
theorem dX5_write_27 : decode cX5_write 27 = .ok (.getfield 9, 3) := by decide +kernel
theorem dX5_write_30 : decode cX5_write 30 = .ok (.aload_n 0, 1) := by decide +kernel
theorem dX5_write_31 : decode cX5_write 31 = .ok (.getfield 94, 3) := by decide +kernel
theorem dX5_write_34 : decode cX5_write 34 = .ok (.iload_n 1, 1) := by decide +kernel
theorem dX5_write_35 : decode cX5_write 35 = .ok (.i2c, 1) := by decide +kernel
theorem dX5_write_36 : decode cX5_write 36 = .ok (.castore, 1) := by decide +kernel
theorem dX5_write_37 : decode cX5_write 37 = .ok (.aload_n 0, 1) := by decide +kernel
theorem dX5_write_38 : decode cX5_write 38 = .ok (.dup, 1) := by decide +kernel
theorem dX5_write_39 : decode cX5_write 39 = .ok (.getfield 94, 3) := by decide +kernel
theorem dX5_write_42 : decode cX5_write 42 = .ok (.iconst 1, 1) := by decide +kernel
theorem dX5_write_43 : decode cX5_write 43 = .ok (.iadd, 1) := by decide +kernel
theorem dX5_write_44 : decode cX5_write 44 = .ok (.putfield 94, 3) := by decide +kernel
theorem dX5_write_47 : decode cX5_write 47 = .ok (.aload_n 0, 1) := by decide +kernel
theorem dX5_write_48 : decode cX5_write 48 = .ok (.getfield 94, 3) := by decide +kernel
theorem dX5_write_51 : decode cX5_write 51 = .ok (.ireturn, 1) := by decide +kernel
theorem dX5_wipe_0 : decode cX5_wipe 0 = .ok (.aload_n 0, 1) := by decide +kernel
theorem dX5_wipe_1 : decode cX5_wipe 1 = .ok (.getfield 94, 3) := by decide +kernel
theorem dX5_wipe_4 : decode cX5_wipe 4 = .ok (.istore_n 1, 1) := by decide +kernel
theorem dX5_wipe_5 : decode cX5_wipe 5 = .ok (.aload_n 0, 1) := by decide +kernel
theorem dX5_wipe_6 : decode cX5_wipe 6 = .ok (.iconst 0, 1) := by decide +kernel
theorem dX5_wipe_7 : decode cX5_wipe 7 = .ok (.putfield 94, 3) := by decide +kernel
theorem dX5_wipe_10 : decode cX5_wipe 10 = .ok (.iload_n 1, 1) := by decide +kernel
theorem dX5_wipe_11 : decode cX5_wipe 11 = .ok (.ireturn, 1) := by decide +kernel
theorem dX5_fault_0 : decode cX5_fault 0 = .ok (.aload_n 0, 1) := by decide +kernel
theorem dX5_fault_1 : decode cX5_fault 1 = .ok (.getfield 28, 3) := by decide +kernel
theorem dX5_fault_4 : decode cX5_fault 4 = .ok (.aload_n 0, 1) := by decide +kernel
theorem dX5_fault_5 : decode cX5_fault 5 = .ok (.getfield 94, 3) := by decide +kernel
theorem dX5_fault_8 : decode cX5_fault 8 = .ok (.invokevirtual 98, 3) := by decide +kernel
theorem dX5_fault_11 : decode cX5_fault 11 = .ok (.ireturn, 1) := by decide +kernel
theorem dX5_lay_0 : decode cX5_lay 0 = .ok (.aload_n 0, 1) := by decide +kernel
theorem dX5_lay_1 : decode cX5_lay 1 = .ok (.getfield 28, 3) := by decide +kernel
theorem dX5_lay_4 : decode cX5_lay 4 = .ok (.aload_n 0, 1) := by decide +kernel
theorem dX5_lay_5 : decode cX5_lay 5 = .ok (.getfield 94, 3) := by decide +kernel
theorem dX5_lay_8 : decode cX5_lay 8 = .ok (.invokevirtual 98, 3) := by decide +kernel
theorem dX5_lay_11 : decode cX5_lay 11 = .ok (.bipush (-4), 2) := by decide +kernel
theorem dX5_lay_13 : decode cX5_lay 13 = .ok (.if_icmp .ne 13, 3) := by decide +kernel
theorem dX5_lay_16 : decode cX5_lay 16 = .ok (.aload_n 0, 1) := by decide +kernel
theorem dX5_lay_17 : decode cX5_lay 17 = .ok (.getfield 20, 3) := by decide +kernel
theorem dX5_lay_20 : decode cX5_lay 20 = .ok (.getfield 101, 3) := by decide +kernel
theorem dX5_lay_23 : decode cX5_lay 23 = .ok (.ifCond .ne 6, 3) := by decide +kernel
theorem dX5_lay_26 : decode cX5_lay 26 = .ok (.bipush (-2), 2) := by decide +kernel
theorem dX5_lay_28 : decode cX5_lay 28 = .ok (.ireturn, 1) := by decide +kernel
theorem dX5_lay_29 : decode cX5_lay 29 = .ok (.aload_n 0, 1) := by decide +kernel
theorem dX5_lay_30 : decode cX5_lay 30 = .ok (.getfield 16, 3) := by decide +kernel
theorem dX5_lay_33 : decode cX5_lay 33 = .ok (.aload_n 0, 1) := by decide +kernel
theorem dX5_lay_34 : decode cX5_lay 34 = .ok (.getfield 20, 3) := by decide +kernel
theorem dX5_lay_37 : decode cX5_lay 37 = .ok (.invokevirtual 104, 3) := by decide +kernel
theorem dX5_lay_40 : decode cX5_lay 40 = .ok (.aload_n 0, 1) := by decide +kernel
theorem dX5_lay_41 : decode cX5_lay 41 = .ok (.iconst 0, 1) := by decide +kernel
theorem dX5_lay_42 : decode cX5_lay 42 = .ok (.putfield 108, 3) := by decide +kernel
theorem dX5_lay_45 : decode cX5_lay 45 = .ok (.aload_n 0, 1) := by decide +kernel
theorem dX5_lay_46 : decode cX5_lay 46 = .ok (.iconst 0, 1) := by decide +kernel
theorem dX5_lay_47 : decode cX5_lay 47 = .ok (.putfield 111, 3) := by decide +kernel
theorem dX5_lay_50 : decode cX5_lay 50 = .ok (.aload_n 0, 1) := by decide +kernel
theorem dX5_lay_51 : decode cX5_lay 51 = .ok (.invokevirtual 114, 3) := by decide +kernel
theorem dX5_lay_54 : decode cX5_lay 54 = .ok (.aload_n 0, 1) := by decide +kernel
theorem dX5_lay_55 : decode cX5_lay 55 = .ok (.getfield 16, 3) := by decide +kernel
theorem dX5_lay_58 : decode cX5_lay 58 = .ok (.getfield 101, 3) := by decide +kernel
theorem dX5_lay_61 : decode cX5_lay 61 = .ok (.ireturn, 1) := by decide +kernel
theorem dX5_node_0 : decode cX5_node 0 = .ok (.aload_n 0, 1) := by decide +kernel
theorem dX5_node_1 : decode cX5_node 1 = .ok (.iload_n 1, 1) := by decide +kernel
theorem dX5_node_2 : decode cX5_node 2 = .ok (.invokevirtual 117, 3) := by decide +kernel
theorem dX5_node_5 : decode cX5_node 5 = .ok (.ifCond .ne 5, 3) := by decide +kernel
theorem dX5_node_8 : decode cX5_node 8 = .ok (.iconst (-1), 1) := by decide +kernel
theorem dX5_node_9 : decode cX5_node 9 = .ok (.ireturn, 1) := by decide +kernel
theorem dX5_node_10 : decode cX5_node 10 = .ok (.iload_n 2, 1) := by decide +kernel
theorem dX5_node_11 : decode cX5_node 11 = .ok (.tableswitch 68 0 3 #[29, 39, 49, 62], 29) := by decide +kernel
theorem dX5_node_40 : decode cX5_node 40 = .ok (.aload_n 0, 1) := by decide +kernel
theorem dX5_node_41 : decode cX5_node 41 = .ok (.getfield 16, 3) := by decide +kernel
theorem dX5_node_44 : decode cX5_node 44 = .ok (.getfield 121, 3) := by decide +kernel
theorem dX5_node_47 : decode cX5_node 47 = .ok (.iload_n 1, 1) := by decide +kernel
theorem dX5_node_48 : decode cX5_node 48 = .ok (.iaload, 1) := by decide +kernel
theorem dX5_node_49 : decode cX5_node 49 = .ok (.ireturn, 1) := by decide +kernel
theorem dX5_node_50 : decode cX5_node 50 = .ok (.aload_n 0, 1) := by decide +kernel
theorem dX5_node_51 : decode cX5_node 51 = .ok (.getfield 16, 3) := by decide +kernel
theorem dX5_node_54 : decode cX5_node 54 = .ok (.getfield 125, 3) := by decide +kernel
theorem dX5_node_57 : decode cX5_node 57 = .ok (.iload_n 1, 1) := by decide +kernel
theorem dX5_node_58 : decode cX5_node 58 = .ok (.iaload, 1) := by decide +kernel
theorem dX5_node_59 : decode cX5_node 59 = .ok (.ireturn, 1) := by decide +kernel
theorem dX5_node_60 : decode cX5_node 60 = .ok (.aload_n 0, 1) := by decide +kernel
theorem dX5_node_61 : decode cX5_node 61 = .ok (.getfield 16, 3) := by decide +kernel
theorem dX5_node_64 : decode cX5_node 64 = .ok (.getfield 128, 3) := by decide +kernel
theorem dX5_node_67 : decode cX5_node 67 = .ok (.iload_n 1, 1) := by decide +kernel
theorem dX5_node_68 : decode cX5_node 68 = .ok (.iaload, 1) := by decide +kernel
theorem dX5_node_69 : decode cX5_node 69 = .ok (.invokestatic 131, 3) := by decide +kernel
theorem dX5_node_72 : decode cX5_node 72 = .ok (.ireturn, 1) := by decide +kernel
theorem dX5_node_73 : decode cX5_node 73 = .ok (.aload_n 0, 1) := by decide +kernel
theorem dX5_node_74 : decode cX5_node 74 = .ok (.iload_n 1, 1) := by decide +kernel
theorem dX5_node_75 : decode cX5_node 75 = .ok (.invokevirtual 136, 3) := by decide +kernel
theorem dX5_node_78 : decode cX5_node 78 = .ok (.ireturn, 1) := by decide +kernel
theorem dX5_node_79 : decode cX5_node 79 = .ok (.iconst (-1), 1) := by decide +kernel
theorem dX5_node_80 : decode cX5_node 80 = .ok (.ireturn, 1) := by decide +kernel
theorem dX5_cost_0 : decode cX5_cost 0 = .ok (.aload_n 0, 1) := by decide +kernel
theorem dX5_cost_1 : decode cX5_cost 1 = .ok (.iload_n 1, 1) := by decide +kernel
theorem dX5_cost_2 : decode cX5_cost 2 = .ok (.iload_n 2, 1) := by decide +kernel
theorem dX5_cost_3 : decode cX5_cost 3 = .ok (.invokevirtual 139, 3) := by decide +kernel
theorem dX5_cost_6 : decode cX5_cost 6 = .ok (.ifCond .eq 15, 3) := by decide +kernel
theorem dX5_cost_9 : decode cX5_cost 9 = .ok (.aload_n 0, 1) := by decide +kernel
theorem dX5_cost_10 : decode cX5_cost 10 = .ok (.getfield 16, 3) := by decide +kernel
theorem dX5_cost_13 : decode cX5_cost 13 = .ok (.iload_n 1, 1) := by decide +kernel
theorem dX5_cost_14 : decode cX5_cost 14 = .ok (.iload_n 2, 1) := by decide +kernel
theorem dX5_cost_15 : decode cX5_cost 15 = .ok (.invokevirtual 143, 3) := by decide +kernel
theorem dX5_cost_18 : decode cX5_cost 18 = .ok (.goto 4, 3) := by decide +kernel
theorem dX5_cost_21 : decode cX5_cost 21 = .ok (.iconst (-1), 1) := by decide +kernel
theorem dX5_cost_22 : decode cX5_cost 22 = .ok (.ireturn, 1) := by decide +kernel
theorem dX5_tie_0 : decode cX5_tie 0 = .ok (.iload_n 1, 1) := by decide +kernel
theorem dX5_tie_1 : decode cX5_tie 1 = .ok (.iload_n 2, 1) := by decide +kernel
theorem dX5_tie_2 : decode cX5_tie 2 = .ok (.if_icmp .eq 22, 3) := by decide +kernel
theorem dX5_tie_5 : decode cX5_tie 5 = .ok (.aload_n 0, 1) := by decide +kernel
theorem dX5_tie_6 : decode cX5_tie 6 = .ok (.iload_n 1, 1) := by decide +kernel
theorem dX5_tie_7 : decode cX5_tie 7 = .ok (.iload_n 3, 1) := by decide +kernel
theorem dX5_tie_8 : decode cX5_tie 8 = .ok (.invokevirtual 139, 3) := by decide +kernel
theorem dX5_tie_11 : decode cX5_tie 11 = .ok (.ifCond .eq 13, 3) := by decide +kernel
theorem dX5_tie_14 : decode cX5_tie 14 = .ok (.aload_n 0, 1) := by decide +kernel
theorem dX5_tie_15 : decode cX5_tie 15 = .ok (.iload_n 2, 1) := by decide +kernel
theorem dX5_tie_16 : decode cX5_tie 16 = .ok (.iload 4, 2) := by decide +kernel
theorem dX5_tie_18 : decode cX5_tie 18 = .ok (.invokevirtual 139, 3) := by decide +kernel
theorem dX5_tie_21 : decode cX5_tie 21 = .ok (.ifCond .ne 5, 3) := by decide +kernel
theorem dX5_tie_24 : decode cX5_tie 24 = .ok (.iconst (-1), 1) := by decide +kernel
theorem dX5_tie_25 : decode cX5_tie 25 = .ok (.ireturn, 1) := by decide +kernel
theorem dX5_tie_26 : decode cX5_tie 26 = .ok (.aload_n 0, 1) := by decide +kernel
theorem dX5_tie_27 : decode cX5_tie 27 = .ok (.getfield 16, 3) := by decide +kernel
theorem dX5_tie_30 : decode cX5_tie 30 = .ok (.iload_n 1, 1) := by decide +kernel
theorem dX5_tie_31 : decode cX5_tie 31 = .ok (.iload_n 2, 1) := by decide +kernel
theorem dX5_tie_32 : decode cX5_tie 32 = .ok (.invokevirtual 147, 3) := by decide +kernel
theorem dX5_tie_35 : decode cX5_tie 35 = .ok (.ifCond .eq 18, 3) := by decide +kernel
theorem dX5_tie_38 : decode cX5_tie 38 = .ok (.aload_n 0, 1) := by decide +kernel
theorem dX5_tie_39 : decode cX5_tie 39 = .ok (.getfield 16, 3) := by decide +kernel
theorem dX5_tie_42 : decode cX5_tie 42 = .ok (.iload_n 1, 1) := by decide +kernel
theorem dX5_tie_43 : decode cX5_tie 43 = .ok (.iload_n 2, 1) := by decide +kernel
theorem dX5_tie_44 : decode cX5_tie 44 = .ok (.iload_n 3, 1) := by decide +kernel
theorem dX5_tie_45 : decode cX5_tie 45 = .ok (.iload 4, 2) := by decide +kernel
theorem dX5_tie_47 : decode cX5_tie 47 = .ok (.invokevirtual 150, 3) := by decide +kernel
theorem dX5_tie_50 : decode cX5_tie 50 = .ok (.goto 5, 3) := by decide +kernel
theorem dX5_tie_53 : decode cX5_tie 53 = .ok (.bipush (-4), 2) := by decide +kernel
theorem dX5_tie_55 : decode cX5_tie 55 = .ok (.ireturn, 1) := by decide +kernel
theorem dX5_price_0 : decode cX5_price 0 = .ok (.aload_n 0, 1) := by decide +kernel
theorem dX5_price_1 : decode cX5_price 1 = .ok (.iload_n 1, 1) := by decide +kernel
theorem dX5_price_2 : decode cX5_price 2 = .ok (.iload_n 2, 1) := by decide +kernel
theorem dX5_price_3 : decode cX5_price 3 = .ok (.invokevirtual 139, 3) := by decide +kernel
theorem dX5_price_6 : decode cX5_price 6 = .ok (.ifCond .eq 13, 3) := by decide +kernel
theorem dX5_price_9 : decode cX5_price 9 = .ok (.iload_n 3, 1) := by decide +kernel
theorem dX5_price_10 : decode cX5_price 10 = .ok (.iconst 0, 1) := by decide +kernel
theorem dX5_price_11 : decode cX5_price 11 = .ok (.bipush 99, 2) := by decide +kernel
theorem dX5_price_13 : decode cX5_price 13 = .ok (.invokestatic 90, 3) := by decide +kernel
theorem dX5_price_16 : decode cX5_price 16 = .ok (.ifCond .ne 5, 3) := by decide +kernel
theorem dX5_price_19 : decode cX5_price 19 = .ok (.iconst (-1), 1) := by decide +kernel
theorem dX5_price_20 : decode cX5_price 20 = .ok (.ireturn, 1) := by decide +kernel
theorem dX5_price_21 : decode cX5_price 21 = .ok (.aload_n 0, 1) := by decide +kernel
theorem dX5_price_22 : decode cX5_price 22 = .ok (.getfield 16, 3) := by decide +kernel
theorem dX5_price_25 : decode cX5_price 25 = .ok (.getfield 154, 3) := by decide +kernel
theorem dX5_price_28 : decode cX5_price 28 = .ok (.iload_n 1, 1) := by decide +kernel
theorem dX5_price_29 : decode cX5_price 29 = .ok (.iload_n 2, 1) := by decide +kernel
theorem dX5_price_30 : decode cX5_price 30 = .ok (.invokestatic 157, 3) := by decide +kernel
theorem dX5_price_33 : decode cX5_price 33 = .ok (.iaload, 1) := by decide +kernel
theorem dX5_price_34 : decode cX5_price 34 = .ok (.istore 4, 2) := by decide +kernel
theorem dX5_price_36 : decode cX5_price 36 = .ok (.iload 4, 2) := by decide +kernel
theorem dX5_price_38 : decode cX5_price 38 = .ok (.iload_n 3, 1) := by decide +kernel
theorem dX5_price_39 : decode cX5_price 39 = .ok (.if_icmp .ne 6, 3) := by decide +kernel
theorem dX5_price_42 : decode cX5_price 42 = .ok (.bipush (-2), 2) := by decide +kernel
theorem dX5_price_44 : decode cX5_price 44 = .ok (.ireturn, 1) := by decide +kernel
theorem dX5_price_45 : decode cX5_price 45 = .ok (.aload_n 0, 1) := by decide +kernel
theorem dX5_price_46 : decode cX5_price 46 = .ok (.invokevirtual 160, 3) := by decide +kernel
theorem dX5_price_49 : decode cX5_price 49 = .ok (.aload_n 0, 1) := by decide +kernel
theorem dX5_price_50 : decode cX5_price 50 = .ok (.getfield 16, 3) := by decide +kernel
theorem dX5_price_53 : decode cX5_price 53 = .ok (.getfield 154, 3) := by decide +kernel
theorem dX5_price_56 : decode cX5_price 56 = .ok (.iload_n 1, 1) := by decide +kernel
theorem dX5_price_57 : decode cX5_price 57 = .ok (.iload_n 2, 1) := by decide +kernel
theorem dX5_price_58 : decode cX5_price 58 = .ok (.invokestatic 157, 3) := by decide +kernel
theorem dX5_price_61 : decode cX5_price 61 = .ok (.iload_n 3, 1) := by decide +kernel
theorem dX5_price_62 : decode cX5_price 62 = .ok (.iastore, 1) := by decide +kernel
theorem dX5_price_63 : decode cX5_price 63 = .ok (.iload 4, 2) := by decide +kernel
theorem dX5_price_65 : decode cX5_price 65 = .ok (.ireturn, 1) := by decide +kernel
theorem dX5_table_0 : decode cX5_table 0 = .ok (.iload_n 1, 1) := by decide +kernel
theorem dX5_table_1 : decode cX5_table 1 = .ok (.iload_n 2, 1) := by decide +kernel
theorem dX5_table_2 : decode cX5_table 2 = .ok (.if_icmp .eq 33, 3) := by decide +kernel
theorem dX5_table_5 : decode cX5_table 5 = .ok (.aload_n 0, 1) := by decide +kernel
theorem dX5_table_6 : decode cX5_table 6 = .ok (.iload_n 1, 1) := by decide +kernel
theorem dX5_table_7 : decode cX5_table 7 = .ok (.iload_n 3, 1) := by decide +kernel
theorem dX5_table_8 : decode cX5_table 8 = .ok (.invokevirtual 139, 3) := by decide +kernel
theorem dX5_table_11 : decode cX5_table 11 = .ok (.ifCond .eq 24, 3) := by decide +kernel
theorem dX5_table_14 : decode cX5_table 14 = .ok (.aload_n 0, 1) := by decide +kernel
theorem dX5_table_15 : decode cX5_table 15 = .ok (.iload_n 2, 1) := by decide +kernel
theorem dX5_table_16 : decode cX5_table 16 = .ok (.iload 4, 2) := by decide +kernel
theorem dX5_table_18 : decode cX5_table 18 = .ok (.invokevirtual 139, 3) := by decide +kernel
theorem dX5_table_21 : decode cX5_table 21 = .ok (.ifCond .eq 14, 3) := by decide +kernel
theorem dX5_table_24 : decode cX5_table 24 = .ok (.iload 5, 2) := by decide +kernel
theorem dX5_table_26 : decode cX5_table 26 = .ok (.iconst 0, 1) := by decide +kernel
theorem dX5_table_27 : decode cX5_table 27 = .ok (.bipush 9, 2) := by decide +kernel
theorem dX5_table_29 : decode cX5_table 29 = .ok (.invokestatic 90, 3) := by decide +kernel
theorem dX5_table_32 : decode cX5_table 32 = .ok (.ifCond .ne 5, 3) := by decide +kernel
theorem dX5_table_35 : decode cX5_table 35 = .ok (.iconst (-1), 1) := by decide +kernel
theorem dX5_table_36 : decode cX5_table 36 = .ok (.ireturn, 1) := by decide +kernel
theorem dX5_table_37 : decode cX5_table 37 = .ok (.aload_n 0, 1) := by decide +kernel
theorem dX5_table_38 : decode cX5_table 38 = .ok (.getfield 16, 3) := by decide +kernel
theorem dX5_table_41 : decode cX5_table 41 = .ok (.iload_n 1, 1) := by decide +kernel
theorem dX5_table_42 : decode cX5_table 42 = .ok (.iload_n 2, 1) := by decide +kernel
theorem dX5_table_43 : decode cX5_table 43 = .ok (.invokevirtual 147, 3) := by decide +kernel
theorem dX5_table_46 : decode cX5_table 46 = .ok (.istore 6, 2) := by decide +kernel
theorem dX5_table_48 : decode cX5_table 48 = .ok (.iload 6, 2) := by decide +kernel
theorem dX5_table_50 : decode cX5_table 50 = .ok (.ifCond .eq 27, 3) := by decide +kernel
theorem dX5_table_53 : decode cX5_table 53 = .ok (.aload_n 0, 1) := by decide +kernel
theorem dX5_table_54 : decode cX5_table 54 = .ok (.getfield 16, 3) := by decide +kernel
theorem dX5_table_57 : decode cX5_table 57 = .ok (.getfield 163, 3) := by decide +kernel
theorem dX5_table_60 : decode cX5_table 60 = .ok (.iload_n 1, 1) := by decide +kernel
theorem dX5_table_61 : decode cX5_table 61 = .ok (.iload_n 2, 1) := by decide +kernel
theorem dX5_table_62 : decode cX5_table 62 = .ok (.iload_n 3, 1) := by decide +kernel
theorem dX5_table_63 : decode cX5_table 63 = .ok (.iload 4, 2) := by decide +kernel
theorem dX5_table_65 : decode cX5_table 65 = .ok (.invokestatic 166, 3) := by decide +kernel
theorem dX5_table_68 : decode cX5_table 68 = .ok (.iaload, 1) := by decide +kernel
theorem dX5_table_69 : decode cX5_table 69 = .ok (.iload 5, 2) := by decide +kernel
theorem dX5_table_71 : decode cX5_table 71 = .ok (.if_icmp .ne 6, 3) := by decide +kernel
theorem dX5_table_74 : decode cX5_table 74 = .ok (.bipush (-2), 2) := by decide +kernel
theorem dX5_table_76 : decode cX5_table 76 = .ok (.ireturn, 1) := by decide +kernel
theorem dX5_table_77 : decode cX5_table 77 = .ok (.iload 6, 2) := by decide +kernel
theorem dX5_table_79 : decode cX5_table 79 = .ok (.ifCond .ne 18, 3) := by decide +kernel
theorem dX5_table_82 : decode cX5_table 82 = .ok (.aload_n 0, 1) := by decide +kernel
theorem dX5_table_83 : decode cX5_table 83 = .ok (.getfield 16, 3) := by decide +kernel
theorem dX5_table_86 : decode cX5_table 86 = .ok (.invokevirtual 169, 3) := by decide +kernel
theorem dX5_table_89 : decode cX5_table 89 = .ok (.bipush 12, 2) := by decide +kernel
theorem dX5_table_91 : decode cX5_table 91 = .ok (.if_icmp .lt 6, 3) := by decide +kernel
theorem dX5_table_94 : decode cX5_table 94 = .ok (.bipush (-3), 2) := by decide +kernel
theorem dX5_table_96 : decode cX5_table 96 = .ok (.ireturn, 1) := by decide +kernel
theorem dX5_table_97 : decode cX5_table 97 = .ok (.aload_n 0, 1) := by decide +kernel
theorem dX5_table_98 : decode cX5_table 98 = .ok (.invokevirtual 160, 3) := by decide +kernel
theorem dX5_table_101 : decode cX5_table 101 = .ok (.iload 6, 2) := by decide +kernel
theorem dX5_table_103 : decode cX5_table 103 = .ok (.ifCond .ne 22, 3) := by decide +kernel
theorem dX5_table_106 : decode cX5_table 106 = .ok (.aload_n 0, 1) := by decide +kernel
theorem dX5_table_107 : decode cX5_table 107 = .ok (.getfield 16, 3) := by decide +kernel
theorem dX5_table_110 : decode cX5_table 110 = .ok (.getfield 128, 3) := by decide +kernel
theorem dX5_table_113 : decode cX5_table 113 = .ok (.aload_n 0, 1) := by decide +kernel
theorem dX5_table_114 : decode cX5_table 114 = .ok (.getfield 16, 3) := by decide +kernel
theorem dX5_table_117 : decode cX5_table 117 = .ok (.getfield 163, 3) := by decide +kernel
theorem dX5_table_120 : decode cX5_table 120 = .ok (.iload_n 1, 1) := by decide +kernel
theorem dX5_table_121 : decode cX5_table 121 = .ok (.iload_n 2, 1) := by decide +kernel
theorem dX5_table_122 : decode cX5_table 122 = .ok (.invokestatic 172, 3) := by decide +kernel
theorem dX5_table_125 : decode cX5_table 125 = .ok (.aload_n 0, 1) := by decide +kernel
theorem dX5_table_126 : decode cX5_table 126 = .ok (.getfield 16, 3) := by decide +kernel
theorem dX5_table_129 : decode cX5_table 129 = .ok (.getfield 163, 3) := by decide +kernel
theorem dX5_table_132 : decode cX5_table 132 = .ok (.iload_n 1, 1) := by decide +kernel
theorem dX5_table_133 : decode cX5_table 133 = .ok (.iload_n 2, 1) := by decide +kernel
theorem dX5_table_134 : decode cX5_table 134 = .ok (.iload_n 3, 1) := by decide +kernel
theorem dX5_table_135 : decode cX5_table 135 = .ok (.iload 4, 2) := by decide +kernel
theorem dX5_table_137 : decode cX5_table 137 = .ok (.invokestatic 166, 3) := by decide +kernel
theorem dX5_table_140 : decode cX5_table 140 = .ok (.iaload, 1) := by decide +kernel
theorem dX5_table_141 : decode cX5_table 141 = .ok (.istore 7, 2) := by decide +kernel
theorem dX5_table_143 : decode cX5_table 143 = .ok (.aload_n 0, 1) := by decide +kernel
theorem dX5_table_144 : decode cX5_table 144 = .ok (.getfield 16, 3) := by decide +kernel
theorem dX5_table_147 : decode cX5_table 147 = .ok (.getfield 163, 3) := by decide +kernel
theorem dX5_table_150 : decode cX5_table 150 = .ok (.iload_n 1, 1) := by decide +kernel
theorem dX5_table_151 : decode cX5_table 151 = .ok (.iload_n 2, 1) := by decide +kernel
theorem dX5_table_152 : decode cX5_table 152 = .ok (.iload_n 3, 1) := by decide +kernel
theorem dX5_table_153 : decode cX5_table 153 = .ok (.iload 4, 2) := by decide +kernel
theorem dX5_table_155 : decode cX5_table 155 = .ok (.invokestatic 166, 3) := by decide +kernel
theorem dX5_table_158 : decode cX5_table 158 = .ok (.iload 5, 2) := by decide +kernel
theorem dX5_table_160 : decode cX5_table 160 = .ok (.iastore, 1) := by decide +kernel
theorem dX5_table_161 : decode cX5_table 161 = .ok (.iload 7, 2) := by decide +kernel
theorem dX5_table_163 : decode cX5_table 163 = .ok (.ireturn, 1) := by decide +kernel
theorem dX5_loose_0 : decode cX5_loose 0 = .ok (.aload_n 0, 1) := by decide +kernel
theorem dX5_loose_1 : decode cX5_loose 1 = .ok (.iload_n 1, 1) := by decide +kernel
theorem dX5_loose_2 : decode cX5_loose 2 = .ok (.invokevirtual 117, 3) := by decide +kernel
theorem dX5_loose_5 : decode cX5_loose 5 = .ok (.ifCond .eq 11, 3) := by decide +kernel
theorem dX5_loose_8 : decode cX5_loose 8 = .ok (.aload_n 0, 1) := by decide +kernel
theorem dX5_loose_9 : decode cX5_loose 9 = .ok (.iload_n 2, 1) := by decide +kernel
theorem dX5_loose_10 : decode cX5_loose 10 = .ok (.invokevirtual 117, 3) := by decide +kernel
theorem dX5_loose_13 : decode cX5_loose 13 = .ok (.ifCond .ne 5, 3) := by decide +kernel
theorem dX5_loose_16 : decode cX5_loose 16 = .ok (.iconst (-1), 1) := by decide +kernel
theorem dX5_loose_17 : decode cX5_loose 17 = .ok (.ireturn, 1) := by decide +kernel
theorem dX5_loose_18 : decode cX5_loose 18 = .ok (.aload_n 0, 1) := by decide +kernel
theorem dX5_loose_19 : decode cX5_loose 19 = .ok (.getfield 16, 3) := by decide +kernel
theorem dX5_loose_22 : decode cX5_loose 22 = .ok (.iload_n 1, 1) := by decide +kernel
theorem dX5_loose_23 : decode cX5_loose 23 = .ok (.iload_n 2, 1) := by decide +kernel
theorem dX5_loose_24 : decode cX5_loose 24 = .ok (.invokevirtual 147, 3) := by decide +kernel
theorem dX5_loose_27 : decode cX5_loose 27 = .ok (.ifCond .ne 6, 3) := by decide +kernel
theorem dX5_loose_30 : decode cX5_loose 30 = .ok (.bipush (-2), 2) := by decide +kernel
theorem dX5_loose_32 : decode cX5_loose 32 = .ok (.ireturn, 1) := by decide +kernel
theorem dX5_loose_33 : decode cX5_loose 33 = .ok (.aload_n 0, 1) := by decide +kernel
theorem dX5_loose_34 : decode cX5_loose 34 = .ok (.invokevirtual 160, 3) := by decide +kernel
theorem dX5_loose_37 : decode cX5_loose 37 = .ok (.aload_n 0, 1) := by decide +kernel
theorem dX5_loose_38 : decode cX5_loose 38 = .ok (.getfield 16, 3) := by decide +kernel
theorem dX5_loose_41 : decode cX5_loose 41 = .ok (.getfield 128, 3) := by decide +kernel
theorem dX5_loose_44 : decode cX5_loose 44 = .ok (.iload_n 1, 1) := by decide +kernel
theorem dX5_loose_45 : decode cX5_loose 45 = .ok (.iload_n 2, 1) := by decide +kernel
theorem dX5_loose_46 : decode cX5_loose 46 = .ok (.invokestatic 176, 3) := by decide +kernel
theorem dX5_loose_49 : decode cX5_loose 49 = .ok (.aload_n 0, 1) := by decide +kernel
theorem dX5_loose_50 : decode cX5_loose 50 = .ok (.getfield 16, 3) := by decide +kernel
theorem dX5_loose_53 : decode cX5_loose 53 = .ok (.invokevirtual 169, 3) := by decide +kernel
theorem dX5_loose_56 : decode cX5_loose 56 = .ok (.ireturn, 1) := by decide +kernel
theorem dX5_pin_0 : decode cX5_pin 0 = .ok (.aload_n 0, 1) := by decide +kernel
theorem dX5_pin_1 : decode cX5_pin 1 = .ok (.iload_n 1, 1) := by decide +kernel
theorem dX5_pin_2 : decode cX5_pin 2 = .ok (.invokevirtual 117, 3) := by decide +kernel
theorem dX5_pin_5 : decode cX5_pin 5 = .ok (.ifCond .eq 17, 3) := by decide +kernel
theorem dX5_pin_8 : decode cX5_pin 8 = .ok (.iload_n 2, 1) := by decide +kernel
theorem dX5_pin_9 : decode cX5_pin 9 = .ok (.iconst (-1), 1) := by decide +kernel
theorem dX5_pin_10 : decode cX5_pin 10 = .ok (.if_icmp .eq 14, 3) := by decide +kernel
theorem dX5_pin_13 : decode cX5_pin 13 = .ok (.aload_n 0, 1) := by decide +kernel
theorem dX5_pin_14 : decode cX5_pin 14 = .ok (.iload_n 1, 1) := by decide +kernel
theorem dX5_pin_15 : decode cX5_pin 15 = .ok (.iload_n 2, 1) := by decide +kernel
theorem dX5_pin_16 : decode cX5_pin 16 = .ok (.invokevirtual 139, 3) := by decide +kernel
theorem dX5_pin_19 : decode cX5_pin 19 = .ok (.ifCond .ne 5, 3) := by decide +kernel
theorem dX5_pin_22 : decode cX5_pin 22 = .ok (.iconst (-1), 1) := by decide +kernel
theorem dX5_pin_23 : decode cX5_pin 23 = .ok (.ireturn, 1) := by decide +kernel
theorem dX5_pin_24 : decode cX5_pin 24 = .ok (.aload_n 0, 1) := by decide +kernel
theorem dX5_pin_25 : decode cX5_pin 25 = .ok (.getfield 16, 3) := by decide +kernel
theorem dX5_pin_28 : decode cX5_pin 28 = .ok (.getfield 180, 3) := by decide +kernel
theorem dX5_pin_31 : decode cX5_pin 31 = .ok (.iload_n 1, 1) := by decide +kernel
theorem dX5_pin_32 : decode cX5_pin 32 = .ok (.iaload, 1) := by decide +kernel
theorem dX5_pin_33 : decode cX5_pin 33 = .ok (.iload_n 2, 1) := by decide +kernel
theorem dX5_pin_34 : decode cX5_pin 34 = .ok (.if_icmp .ne 6, 3) := by decide +kernel
theorem dX5_pin_37 : decode cX5_pin 37 = .ok (.bipush (-2), 2) := by decide +kernel
theorem dX5_pin_39 : decode cX5_pin 39 = .ok (.ireturn, 1) := by decide +kernel
theorem dX5_pin_40 : decode cX5_pin 40 = .ok (.aload_n 0, 1) := by decide +kernel
theorem dX5_pin_41 : decode cX5_pin 41 = .ok (.iload_n 1, 1) := by decide +kernel
theorem dX5_pin_42 : decode cX5_pin 42 = .ok (.invokevirtual 136, 3) := by decide +kernel
theorem dX5_pin_45 : decode cX5_pin 45 = .ok (.istore_n 3, 1) := by decide +kernel
theorem dX5_pin_46 : decode cX5_pin 46 = .ok (.aload_n 0, 1) := by decide +kernel
theorem dX5_pin_47 : decode cX5_pin 47 = .ok (.invokevirtual 160, 3) := by decide +kernel
theorem dX5_pin_50 : decode cX5_pin 50 = .ok (.aload_n 0, 1) := by decide +kernel
theorem dX5_pin_51 : decode cX5_pin 51 = .ok (.getfield 16, 3) := by decide +kernel
theorem dX5_pin_54 : decode cX5_pin 54 = .ok (.getfield 180, 3) := by decide +kernel
theorem dX5_pin_57 : decode cX5_pin 57 = .ok (.iload_n 1, 1) := by decide +kernel
theorem dX5_pin_58 : decode cX5_pin 58 = .ok (.iload_n 2, 1) := by decide +kernel
theorem dX5_pin_59 : decode cX5_pin 59 = .ok (.iastore, 1) := by decide +kernel
theorem dX5_pin_60 : decode cX5_pin 60 = .ok (.iload_n 3, 1) := by decide +kernel
theorem dX5_pin_61 : decode cX5_pin 61 = .ok (.ireturn, 1) := by decide +kernel
theorem dX5_rename_0 : decode cX5_rename 0 = .ok (.aload_n 0, 1) := by decide +kernel
theorem dX5_rename_1 : decode cX5_rename 1 = .ok (.iload_n 1, 1) := by decide +kernel
theorem dX5_rename_2 : decode cX5_rename 2 = .ok (.invokevirtual 117, 3) := by decide +kernel
theorem dX5_rename_5 : decode cX5_rename 5 = .ok (.ifCond .eq 12, 3) := by decide +kernel
theorem dX5_rename_8 : decode cX5_rename 8 = .ok (.iload_n 2, 1) := by decide +kernel
theorem dX5_rename_9 : decode cX5_rename 9 = .ok (.iconst 0, 1) := by decide +kernel
theorem dX5_rename_10 : decode cX5_rename 10 = .ok (.iconst 3, 1) := by decide +kernel
theorem dX5_rename_11 : decode cX5_rename 11 = .ok (.invokestatic 90, 3) := by decide +kernel
theorem dX5_rename_14 : decode cX5_rename 14 = .ok (.ifCond .ne 5, 3) := by decide +kernel
theorem dX5_rename_17 : decode cX5_rename 17 = .ok (.iconst (-1), 1) := by decide +kernel
theorem dX5_rename_18 : decode cX5_rename 18 = .ok (.ireturn, 1) := by decide +kernel
theorem dX5_rename_19 : decode cX5_rename 19 = .ok (.aload_n 0, 1) := by decide +kernel
theorem dX5_rename_20 : decode cX5_rename 20 = .ok (.getfield 16, 3) := by decide +kernel
theorem dX5_rename_23 : decode cX5_rename 23 = .ok (.getfield 121, 3) := by decide +kernel
theorem dX5_rename_26 : decode cX5_rename 26 = .ok (.iload_n 1, 1) := by decide +kernel
theorem dX5_rename_27 : decode cX5_rename 27 = .ok (.iaload, 1) := by decide +kernel
theorem dX5_rename_28 : decode cX5_rename 28 = .ok (.istore_n 3, 1) := by decide +kernel
theorem dX5_rename_29 : decode cX5_rename 29 = .ok (.iload_n 3, 1) := by decide +kernel
theorem dX5_rename_30 : decode cX5_rename 30 = .ok (.iload_n 2, 1) := by decide +kernel
theorem dX5_rename_31 : decode cX5_rename 31 = .ok (.if_icmp .ne 6, 3) := by decide +kernel
theorem dX5_rename_34 : decode cX5_rename 34 = .ok (.bipush (-2), 2) := by decide +kernel
theorem dX5_rename_36 : decode cX5_rename 36 = .ok (.ireturn, 1) := by decide +kernel
theorem dX5_rename_37 : decode cX5_rename 37 = .ok (.aload_n 0, 1) := by decide +kernel
theorem dX5_rename_38 : decode cX5_rename 38 = .ok (.invokevirtual 160, 3) := by decide +kernel
theorem dX5_rename_41 : decode cX5_rename 41 = .ok (.aload_n 0, 1) := by decide +kernel
theorem dX5_rename_42 : decode cX5_rename 42 = .ok (.getfield 16, 3) := by decide +kernel
theorem dX5_rename_45 : decode cX5_rename 45 = .ok (.getfield 121, 3) := by decide +kernel
theorem dX5_rename_48 : decode cX5_rename 48 = .ok (.iload_n 1, 1) := by decide +kernel
theorem dX5_rename_49 : decode cX5_rename 49 = .ok (.iload_n 2, 1) := by decide +kernel
theorem dX5_rename_50 : decode cX5_rename 50 = .ok (.iastore, 1) := by decide +kernel
theorem dX5_rename_51 : decode cX5_rename 51 = .ok (.iload_n 3, 1) := by decide +kernel
theorem dX5_rename_52 : decode cX5_rename 52 = .ok (.ireturn, 1) := by decide +kernel
theorem dX5_undo_0 : decode cX5_undo 0 = .ok (.aload_n 0, 1) := by decide +kernel
theorem dX5_undo_1 : decode cX5_undo 1 = .ok (.getfield 108, 3) := by decide +kernel
theorem dX5_undo_4 : decode cX5_undo 4 = .ok (.ifCond .gt 6, 3) := by decide +kernel
theorem dX5_undo_7 : decode cX5_undo 7 = .ok (.bipush (-2), 2) := by decide +kernel
theorem dX5_undo_9 : decode cX5_undo 9 = .ok (.ireturn, 1) := by decide +kernel
theorem dX5_undo_10 : decode cX5_undo 10 = .ok (.aload_n 0, 1) := by decide +kernel
theorem dX5_undo_11 : decode cX5_undo 11 = .ok (.dup, 1) := by decide +kernel
theorem dX5_undo_12 : decode cX5_undo 12 = .ok (.getfield 108, 3) := by decide +kernel
theorem dX5_undo_15 : decode cX5_undo 15 = .ok (.iconst 1, 1) := by decide +kernel
theorem dX5_undo_16 : decode cX5_undo 16 = .ok (.isub, 1) := by decide +kernel
theorem dX5_undo_17 : decode cX5_undo 17 = .ok (.putfield 108, 3) := by decide +kernel
theorem dX5_undo_20 : decode cX5_undo 20 = .ok (.aload_n 0, 1) := by decide +kernel
theorem dX5_undo_21 : decode cX5_undo 21 = .ok (.getfield 16, 3) := by decide +kernel
theorem dX5_undo_24 : decode cX5_undo 24 = .ok (.aload_n 0, 1) := by decide +kernel
theorem dX5_undo_25 : decode cX5_undo 25 = .ok (.getfield 32, 3) := by decide +kernel
theorem dX5_undo_28 : decode cX5_undo 28 = .ok (.aload_n 0, 1) := by decide +kernel
theorem dX5_undo_29 : decode cX5_undo 29 = .ok (.getfield 108, 3) := by decide +kernel
theorem dX5_undo_32 : decode cX5_undo 32 = .ok (.aaload, 1) := by decide +kernel
theorem dX5_undo_33 : decode cX5_undo 33 = .ok (.invokevirtual 104, 3) := by decide +kernel
theorem dX5_undo_36 : decode cX5_undo 36 = .ok (.aload_n 0, 1) := by decide +kernel
theorem dX5_undo_37 : decode cX5_undo 37 = .ok (.invokevirtual 114, 3) := by decide +kernel
theorem dX5_undo_40 : decode cX5_undo 40 = .ok (.aload_n 0, 1) := by decide +kernel
theorem dX5_undo_41 : decode cX5_undo 41 = .ok (.getfield 108, 3) := by decide +kernel
theorem dX5_undo_44 : decode cX5_undo 44 = .ok (.ireturn, 1) := by decide +kernel
theorem dX5_turn_0 : decode cX5_turn 0 = .ok (.aload_n 0, 1) := by decide +kernel
theorem dX5_turn_1 : decode cX5_turn 1 = .ok (.iload_n 1, 1) := by decide +kernel
theorem dX5_turn_2 : decode cX5_turn 2 = .ok (.invokevirtual 117, 3) := by decide +kernel
theorem dX5_turn_5 : decode cX5_turn 5 = .ok (.ifCond .eq 12, 3) := by decide +kernel
theorem dX5_turn_8 : decode cX5_turn 8 = .ok (.iload_n 2, 1) := by decide +kernel
theorem dX5_turn_9 : decode cX5_turn 9 = .ok (.iconst 0, 1) := by decide +kernel
theorem dX5_turn_10 : decode cX5_turn 10 = .ok (.iconst 1, 1) := by decide +kernel
theorem dX5_turn_11 : decode cX5_turn 11 = .ok (.invokestatic 90, 3) := by decide +kernel
theorem dX5_turn_14 : decode cX5_turn 14 = .ok (.ifCond .ne 5, 3) := by decide +kernel
theorem dX5_turn_17 : decode cX5_turn 17 = .ok (.iconst (-1), 1) := by decide +kernel
theorem dX5_turn_18 : decode cX5_turn 18 = .ok (.ireturn, 1) := by decide +kernel
theorem dX5_turn_19 : decode cX5_turn 19 = .ok (.aload_n 0, 1) := by decide +kernel
theorem dX5_turn_20 : decode cX5_turn 20 = .ok (.invokevirtual 183, 3) := by decide +kernel
theorem dX5_turn_23 : decode cX5_turn 23 = .ok (.iload_n 2, 1) := by decide +kernel
theorem dX5_turn_24 : decode cX5_turn 24 = .ok (.ifCond .ne 15, 3) := by decide +kernel
theorem dX5_turn_27 : decode cX5_turn 27 = .ok (.aload_n 0, 1) := by decide +kernel
theorem dX5_turn_28 : decode cX5_turn 28 = .ok (.getfield 52, 3) := by decide +kernel
theorem dX5_turn_31 : decode cX5_turn 31 = .ok (.getfield 186, 3) := by decide +kernel
theorem dX5_turn_34 : decode cX5_turn 34 = .ok (.iload_n 1, 1) := by decide +kernel
theorem dX5_turn_35 : decode cX5_turn 35 = .ok (.iaload, 1) := by decide +kernel
theorem dX5_turn_36 : decode cX5_turn 36 = .ok (.goto 12, 3) := by decide +kernel
theorem dX5_turn_39 : decode cX5_turn 39 = .ok (.aload_n 0, 1) := by decide +kernel
theorem dX5_turn_40 : decode cX5_turn 40 = .ok (.getfield 52, 3) := by decide +kernel
theorem dX5_turn_43 : decode cX5_turn 43 = .ok (.getfield 189, 3) := by decide +kernel
theorem dX5_turn_46 : decode cX5_turn 46 = .ok (.iload_n 1, 1) := by decide +kernel
theorem dX5_turn_47 : decode cX5_turn 47 = .ok (.iaload, 1) := by decide +kernel
theorem dX5_turn_48 : decode cX5_turn 48 = .ok (.ireturn, 1) := by decide +kernel
theorem dX5_reduced_0 : decode cX5_reduced 0 = .ok (.aload_n 0, 1) := by decide +kernel
theorem dX5_reduced_1 : decode cX5_reduced 1 = .ok (.iload_n 1, 1) := by decide +kernel
theorem dX5_reduced_2 : decode cX5_reduced 2 = .ok (.invokevirtual 117, 3) := by decide +kernel
theorem dX5_reduced_5 : decode cX5_reduced 5 = .ok (.ifCond .ne 5, 3) := by decide +kernel
theorem dX5_reduced_8 : decode cX5_reduced 8 = .ok (.iconst (-1), 1) := by decide +kernel
theorem dX5_reduced_9 : decode cX5_reduced 9 = .ok (.ireturn, 1) := by decide +kernel
theorem dX5_reduced_10 : decode cX5_reduced 10 = .ok (.aload_n 0, 1) := by decide +kernel
theorem dX5_reduced_11 : decode cX5_reduced 11 = .ok (.invokevirtual 183, 3) := by decide +kernel
theorem dX5_reduced_14 : decode cX5_reduced 14 = .ok (.aload_n 0, 1) := by decide +kernel
theorem dX5_reduced_15 : decode cX5_reduced 15 = .ok (.getfield 52, 3) := by decide +kernel
theorem dX5_reduced_18 : decode cX5_reduced 18 = .ok (.getfield 192, 3) := by decide +kernel
theorem dX5_reduced_21 : decode cX5_reduced 21 = .ok (.iload_n 1, 1) := by decide +kernel
theorem dX5_reduced_22 : decode cX5_reduced 22 = .ok (.iaload, 1) := by decide +kernel
theorem dX5_reduced_23 : decode cX5_reduced 23 = .ok (.ireturn, 1) := by decide +kernel
theorem dX5_plan_0 : decode cX5_plan 0 = .ok (.iload_n 1, 1) := by decide +kernel
theorem dX5_plan_1 : decode cX5_plan 1 = .ok (.iconst 0, 1) := by decide +kernel
theorem dX5_plan_2 : decode cX5_plan 2 = .ok (.iconst 1, 1) := by decide +kernel
theorem dX5_plan_3 : decode cX5_plan 3 = .ok (.invokestatic 90, 3) := by decide +kernel
theorem dX5_plan_6 : decode cX5_plan 6 = .ok (.ifCond .ne 5, 3) := by decide +kernel
theorem dX5_plan_9 : decode cX5_plan 9 = .ok (.iconst (-1), 1) := by decide +kernel
theorem dX5_plan_10 : decode cX5_plan 10 = .ok (.ireturn, 1) := by decide +kernel
theorem dX5_plan_11 : decode cX5_plan 11 = .ok (.aload_n 0, 1) := by decide +kernel
theorem dX5_plan_12 : decode cX5_plan 12 = .ok (.invokevirtual 183, 3) := by decide +kernel
theorem dX5_plan_15 : decode cX5_plan 15 = .ok (.iload_n 1, 1) := by decide +kernel
theorem dX5_plan_16 : decode cX5_plan 16 = .ok (.ifCond .ne 18, 3) := by decide +kernel
theorem dX5_plan_19 : decode cX5_plan 19 = .ok (.aload_n 0, 1) := by decide +kernel
theorem dX5_plan_20 : decode cX5_plan 20 = .ok (.getfield 42, 3) := by decide +kernel
theorem dX5_plan_23 : decode cX5_plan 23 = .ok (.aload_n 0, 1) := by decide +kernel
theorem dX5_plan_24 : decode cX5_plan 24 = .ok (.getfield 52, 3) := by decide +kernel
theorem dX5_plan_27 : decode cX5_plan 27 = .ok (.getfield 192, 3) := by decide +kernel
theorem dX5_plan_30 : decode cX5_plan 30 = .ok (.invokevirtual 195, 3) := by decide +kernel
theorem dX5_plan_33 : decode cX5_plan 33 = .ok (.ireturn, 1) := by decide +kernel
theorem dX5_plan_34 : decode cX5_plan 34 = .ok (.aload_n 0, 1) := by decide +kernel
theorem dX5_plan_35 : decode cX5_plan 35 = .ok (.getfield 52, 3) := by decide +kernel
theorem dX5_plan_38 : decode cX5_plan 38 = .ok (.getfield 199, 3) := by decide +kernel
theorem dX5_plan_41 : decode cX5_plan 41 = .ok (.ifCond .eq 7, 3) := by decide +kernel
theorem dX5_plan_44 : decode cX5_plan 44 = .ok (.iconst 0, 1) := by decide +kernel
theorem dX5_plan_45 : decode cX5_plan 45 = .ok (.goto 4, 3) := by decide +kernel
theorem dX5_plan_48 : decode cX5_plan 48 = .ok (.iconst 1, 1) := by decide +kernel
theorem dX5_plan_49 : decode cX5_plan 49 = .ok (.ireturn, 1) := by decide +kernel
theorem dX5_least_0 : decode cX5_least 0 = .ok (.iload_n 1, 1) := by decide +kernel
theorem dX5_least_1 : decode cX5_least 1 = .ok (.iconst 0, 1) := by decide +kernel
theorem dX5_least_2 : decode cX5_least 2 = .ok (.iconst 4, 1) := by decide +kernel
theorem dX5_least_3 : decode cX5_least 3 = .ok (.invokestatic 90, 3) := by decide +kernel
theorem dX5_least_6 : decode cX5_least 6 = .ok (.ifCond .ne 5, 3) := by decide +kernel
theorem dX5_least_9 : decode cX5_least 9 = .ok (.iconst (-1), 1) := by decide +kernel
theorem dX5_least_10 : decode cX5_least 10 = .ok (.ireturn, 1) := by decide +kernel
theorem dX5_least_11 : decode cX5_least 11 = .ok (.aload_n 0, 1) := by decide +kernel
theorem dX5_least_12 : decode cX5_least 12 = .ok (.invokevirtual 203, 3) := by decide +kernel
theorem dX5_least_15 : decode cX5_least 15 = .ok (.iload_n 1, 1) := by decide +kernel
theorem dX5_least_16 : decode cX5_least 16 = .ok (.tableswitch 96 0 3 #[32, 40, 48, 71], 32) := by decide +kernel
theorem dX5_least_48 : decode cX5_least 48 = .ok (.aload_n 0, 1) := by decide +kernel
theorem dX5_least_49 : decode cX5_least 49 = .ok (.getfield 61, 3) := by decide +kernel
theorem dX5_least_52 : decode cX5_least 52 = .ok (.getfield 206, 3) := by decide +kernel
theorem dX5_least_55 : decode cX5_least 55 = .ok (.ireturn, 1) := by decide +kernel
theorem dX5_least_56 : decode cX5_least 56 = .ok (.aload_n 0, 1) := by decide +kernel
theorem dX5_least_57 : decode cX5_least 57 = .ok (.getfield 61, 3) := by decide +kernel
theorem dX5_least_60 : decode cX5_least 60 = .ok (.getfield 209, 3) := by decide +kernel
theorem dX5_least_63 : decode cX5_least 63 = .ok (.ireturn, 1) := by decide +kernel
theorem dX5_least_64 : decode cX5_least 64 = .ok (.aload_n 0, 1) := by decide +kernel
theorem dX5_least_65 : decode cX5_least 65 = .ok (.getfield 61, 3) := by decide +kernel
theorem dX5_least_68 : decode cX5_least 68 = .ok (.getfield 209, 3) := by decide +kernel
theorem dX5_least_71 : decode cX5_least 71 = .ok (.ifCond .ne 8, 3) := by decide +kernel
theorem dX5_least_74 : decode cX5_least 74 = .ok (.bipush (-4), 2) := by decide +kernel
theorem dX5_least_76 : decode cX5_least 76 = .ok (.goto 10, 3) := by decide +kernel
theorem dX5_least_79 : decode cX5_least 79 = .ok (.aload_n 0, 1) := by decide +kernel
theorem dX5_least_80 : decode cX5_least 80 = .ok (.getfield 61, 3) := by decide +kernel
theorem dX5_least_83 : decode cX5_least 83 = .ok (.getfield 212, 3) := by decide +kernel
theorem dX5_least_86 : decode cX5_least 86 = .ok (.ireturn, 1) := by decide +kernel
theorem dX5_least_87 : decode cX5_least 87 = .ok (.aload_n 0, 1) := by decide +kernel
theorem dX5_least_88 : decode cX5_least 88 = .ok (.getfield 61, 3) := by decide +kernel
theorem dX5_least_91 : decode cX5_least 91 = .ok (.getfield 215, 3) := by decide +kernel
theorem dX5_least_94 : decode cX5_least 94 = .ok (.ldc 218, 2) := by decide +kernel
theorem dX5_least_96 : decode cX5_least 96 = .ok (.if_icmp .ne 8, 3) := by decide +kernel
theorem dX5_least_99 : decode cX5_least 99 = .ok (.bipush (-4), 2) := by decide +kernel
theorem dX5_least_101 : decode cX5_least 101 = .ok (.goto 10, 3) := by decide +kernel
theorem dX5_least_104 : decode cX5_least 104 = .ok (.aload_n 0, 1) := by decide +kernel
theorem dX5_least_105 : decode cX5_least 105 = .ok (.getfield 61, 3) := by decide +kernel
theorem dX5_least_108 : decode cX5_least 108 = .ok (.getfield 215, 3) := by decide +kernel
theorem dX5_least_111 : decode cX5_least 111 = .ok (.ireturn, 1) := by decide +kernel
theorem dX5_least_112 : decode cX5_least 112 = .ok (.aload_n 0, 1) := by decide +kernel
theorem dX5_least_113 : decode cX5_least 113 = .ok (.getfield 42, 3) := by decide +kernel
theorem dX5_least_116 : decode cX5_least 116 = .ok (.invokevirtual 219, 3) := by decide +kernel
theorem dX5_least_119 : decode cX5_least 119 = .ok (.ireturn, 1) := by decide +kernel
theorem dX5_first_0 : decode cX5_first 0 = .ok (.aload_n 0, 1) := by decide +kernel
theorem dX5_first_1 : decode cX5_first 1 = .ok (.iload_n 1, 1) := by decide +kernel
theorem dX5_first_2 : decode cX5_first 2 = .ok (.invokevirtual 117, 3) := by decide +kernel
theorem dX5_first_5 : decode cX5_first 5 = .ok (.ifCond .ne 5, 3) := by decide +kernel
theorem dX5_first_8 : decode cX5_first 8 = .ok (.iconst (-1), 1) := by decide +kernel
theorem dX5_first_9 : decode cX5_first 9 = .ok (.ireturn, 1) := by decide +kernel
theorem dX5_first_10 : decode cX5_first 10 = .ok (.aload_n 0, 1) := by decide +kernel
theorem dX5_first_11 : decode cX5_first 11 = .ok (.invokevirtual 203, 3) := by decide +kernel
theorem dX5_first_14 : decode cX5_first 14 = .ok (.aload_n 0, 1) := by decide +kernel
theorem dX5_first_15 : decode cX5_first 15 = .ok (.getfield 61, 3) := by decide +kernel
theorem dX5_first_18 : decode cX5_first 18 = .ok (.getfield 209, 3) := by decide +kernel
theorem dX5_first_21 : decode cX5_first 21 = .ok (.ifCond .ne 8, 3) := by decide +kernel
theorem dX5_first_24 : decode cX5_first 24 = .ok (.bipush (-4), 2) := by decide +kernel
theorem dX5_first_26 : decode cX5_first 26 = .ok (.goto 12, 3) := by decide +kernel
theorem dX5_first_29 : decode cX5_first 29 = .ok (.aload_n 0, 1) := by decide +kernel
theorem dX5_first_30 : decode cX5_first 30 = .ok (.getfield 61, 3) := by decide +kernel
theorem dX5_first_33 : decode cX5_first 33 = .ok (.getfield 222, 3) := by decide +kernel
theorem dX5_first_36 : decode cX5_first 36 = .ok (.iload_n 1, 1) := by decide +kernel
theorem dX5_first_37 : decode cX5_first 37 = .ok (.iaload, 1) := by decide +kernel
theorem dX5_first_38 : decode cX5_first 38 = .ok (.ireturn, 1) := by decide +kernel
theorem dX5_with_0 : decode cX5_with 0 = .ok (.aload_n 0, 1) := by decide +kernel
theorem dX5_with_1 : decode cX5_with 1 = .ok (.iload_n 1, 1) := by decide +kernel
theorem dX5_with_2 : decode cX5_with 2 = .ok (.iload_n 2, 1) := by decide +kernel
theorem dX5_with_3 : decode cX5_with 3 = .ok (.invokevirtual 139, 3) := by decide +kernel
theorem dX5_with_6 : decode cX5_with 6 = .ok (.ifCond .ne 5, 3) := by decide +kernel
theorem dX5_with_9 : decode cX5_with 9 = .ok (.iconst (-1), 1) := by decide +kernel
theorem dX5_with_10 : decode cX5_with 10 = .ok (.ireturn, 1) := by decide +kernel
theorem dX5_with_11 : decode cX5_with 11 = .ok (.aload_n 0, 1) := by decide +kernel
theorem dX5_with_12 : decode cX5_with 12 = .ok (.getfield 46, 3) := by decide +kernel
theorem dX5_with_15 : decode cX5_with 15 = .ok (.aload_n 0, 1) := by decide +kernel
theorem dX5_with_16 : decode cX5_with 16 = .ok (.getfield 16, 3) := by decide +kernel
theorem dX5_with_19 : decode cX5_with 19 = .ok (.invokevirtual 225, 3) := by decide +kernel
theorem dX5_with_22 : decode cX5_with 22 = .ok (.aload_n 0, 1) := by decide +kernel
theorem dX5_with_23 : decode cX5_with 23 = .ok (.getfield 46, 3) := by decide +kernel
theorem dX5_with_26 : decode cX5_with 26 = .ok (.iload_n 1, 1) := by decide +kernel
theorem dX5_with_27 : decode cX5_with 27 = .ok (.iload_n 2, 1) := by decide +kernel
theorem dX5_with_28 : decode cX5_with 28 = .ok (.invokevirtual 228, 3) := by decide +kernel
theorem dX5_with_31 : decode cX5_with 31 = .ok (.aload_n 0, 1) := by decide +kernel
theorem dX5_with_32 : decode cX5_with 32 = .ok (.getfield 65, 3) := by decide +kernel
theorem dX5_with_35 : decode cX5_with 35 = .ok (.invokevirtual 232, 3) := by decide +kernel
theorem dX5_with_38 : decode cX5_with 38 = .ok (.aload_n 0, 1) := by decide +kernel
theorem dX5_with_39 : decode cX5_with 39 = .ok (.getfield 65, 3) := by decide +kernel
theorem dX5_with_42 : decode cX5_with 42 = .ok (.getfield 206, 3) := by decide +kernel
theorem dX5_with_45 : decode cX5_with 45 = .ok (.ireturn, 1) := by decide +kernel
theorem dX5_without_0 : decode cX5_without 0 = .ok (.aload_n 0, 1) := by decide +kernel
theorem dX5_without_1 : decode cX5_without 1 = .ok (.iload_n 1, 1) := by decide +kernel
theorem dX5_without_2 : decode cX5_without 2 = .ok (.invokevirtual 117, 3) := by decide +kernel
theorem dX5_without_5 : decode cX5_without 5 = .ok (.ifCond .eq 11, 3) := by decide +kernel
theorem dX5_without_8 : decode cX5_without 8 = .ok (.aload_n 0, 1) := by decide +kernel
theorem dX5_without_9 : decode cX5_without 9 = .ok (.iload_n 2, 1) := by decide +kernel
theorem dX5_without_10 : decode cX5_without 10 = .ok (.invokevirtual 117, 3) := by decide +kernel
theorem dX5_without_13 : decode cX5_without 13 = .ok (.ifCond .ne 5, 3) := by decide +kernel
theorem dX5_without_16 : decode cX5_without 16 = .ok (.iconst (-1), 1) := by decide +kernel
theorem dX5_without_17 : decode cX5_without 17 = .ok (.ireturn, 1) := by decide +kernel
theorem dX5_without_18 : decode cX5_without 18 = .ok (.aload_n 0, 1) := by decide +kernel
theorem dX5_without_19 : decode cX5_without 19 = .ok (.getfield 16, 3) := by decide +kernel
theorem dX5_without_22 : decode cX5_without 22 = .ok (.iload_n 1, 1) := by decide +kernel
theorem dX5_without_23 : decode cX5_without 23 = .ok (.iload_n 2, 1) := by decide +kernel
theorem dX5_without_24 : decode cX5_without 24 = .ok (.invokevirtual 147, 3) := by decide +kernel
theorem dX5_without_27 : decode cX5_without 27 = .ok (.ifCond .ne 6, 3) := by decide +kernel
theorem dX5_without_30 : decode cX5_without 30 = .ok (.bipush (-4), 2) := by decide +kernel
theorem dX5_without_32 : decode cX5_without 32 = .ok (.ireturn, 1) := by decide +kernel
theorem dX5_without_33 : decode cX5_without 33 = .ok (.aload_n 0, 1) := by decide +kernel
theorem dX5_without_34 : decode cX5_without 34 = .ok (.getfield 46, 3) := by decide +kernel
theorem dX5_without_37 : decode cX5_without 37 = .ok (.aload_n 0, 1) := by decide +kernel
theorem dX5_without_38 : decode cX5_without 38 = .ok (.getfield 16, 3) := by decide +kernel
theorem dX5_without_41 : decode cX5_without 41 = .ok (.invokevirtual 225, 3) := by decide +kernel
theorem dX5_without_44 : decode cX5_without 44 = .ok (.aload_n 0, 1) := by decide +kernel
theorem dX5_without_45 : decode cX5_without 45 = .ok (.getfield 46, 3) := by decide +kernel
theorem dX5_without_48 : decode cX5_without 48 = .ok (.getfield 235, 3) := by decide +kernel
theorem dX5_without_51 : decode cX5_without 51 = .ok (.iload_n 1, 1) := by decide +kernel
theorem dX5_without_52 : decode cX5_without 52 = .ok (.iload_n 2, 1) := by decide +kernel
theorem dX5_without_53 : decode cX5_without 53 = .ok (.invokestatic 176, 3) := by decide +kernel
theorem dX5_without_56 : decode cX5_without 56 = .ok (.aload_n 0, 1) := by decide +kernel
theorem dX5_without_57 : decode cX5_without 57 = .ok (.getfield 65, 3) := by decide +kernel
theorem dX5_without_60 : decode cX5_without 60 = .ok (.invokevirtual 232, 3) := by decide +kernel
theorem dX5_without_63 : decode cX5_without 63 = .ok (.aload_n 0, 1) := by decide +kernel
theorem dX5_without_64 : decode cX5_without 64 = .ok (.getfield 65, 3) := by decide +kernel
theorem dX5_without_67 : decode cX5_without 67 = .ok (.getfield 206, 3) := by decide +kernel
theorem dX5_without_70 : decode cX5_without 70 = .ok (.ireturn, 1) := by decide +kernel
theorem dX5_keep_0 : decode cX5_keep 0 = .ok (.aload_n 0, 1) := by decide +kernel
theorem dX5_keep_1 : decode cX5_keep 1 = .ok (.getfield 111, 3) := by decide +kernel
theorem dX5_keep_4 : decode cX5_keep 4 = .ok (.iconst 2, 1) := by decide +kernel
theorem dX5_keep_5 : decode cX5_keep 5 = .ok (.if_icmp .lt 6, 3) := by decide +kernel
theorem dX5_keep_8 : decode cX5_keep 8 = .ok (.bipush (-3), 2) := by decide +kernel
theorem dX5_keep_10 : decode cX5_keep 10 = .ok (.ireturn, 1) := by decide +kernel
theorem dX5_keep_11 : decode cX5_keep 11 = .ok (.aload_n 0, 1) := by decide +kernel
theorem dX5_keep_12 : decode cX5_keep 12 = .ok (.getfield 36, 3) := by decide +kernel
theorem dX5_keep_15 : decode cX5_keep 15 = .ok (.aload_n 0, 1) := by decide +kernel
theorem dX5_keep_16 : decode cX5_keep 16 = .ok (.getfield 111, 3) := by decide +kernel
theorem dX5_keep_19 : decode cX5_keep 19 = .ok (.aaload, 1) := by decide +kernel
theorem dX5_keep_20 : decode cX5_keep 20 = .ok (.aload_n 0, 1) := by decide +kernel
theorem dX5_keep_21 : decode cX5_keep 21 = .ok (.getfield 16, 3) := by decide +kernel
theorem dX5_keep_24 : decode cX5_keep 24 = .ok (.invokevirtual 104, 3) := by decide +kernel
theorem dX5_keep_27 : decode cX5_keep 27 = .ok (.aload_n 0, 1) := by decide +kernel
theorem dX5_keep_28 : decode cX5_keep 28 = .ok (.dup, 1) := by decide +kernel
theorem dX5_keep_29 : decode cX5_keep 29 = .ok (.getfield 111, 3) := by decide +kernel
theorem dX5_keep_32 : decode cX5_keep 32 = .ok (.iconst 1, 1) := by decide +kernel
theorem dX5_keep_33 : decode cX5_keep 33 = .ok (.iadd, 1) := by decide +kernel
theorem dX5_keep_34 : decode cX5_keep 34 = .ok (.putfield 111, 3) := by decide +kernel
theorem dX5_keep_37 : decode cX5_keep 37 = .ok (.aload_n 0, 1) := by decide +kernel
theorem dX5_keep_38 : decode cX5_keep 38 = .ok (.getfield 111, 3) := by decide +kernel
theorem dX5_keep_41 : decode cX5_keep 41 = .ok (.ireturn, 1) := by decide +kernel
theorem dX5_back_0 : decode cX5_back 0 = .ok (.aload_n 0, 1) := by decide +kernel
theorem dX5_back_1 : decode cX5_back 1 = .ok (.getfield 111, 3) := by decide +kernel
theorem dX5_back_4 : decode cX5_back 4 = .ok (.ifCond .gt 6, 3) := by decide +kernel
theorem dX5_back_7 : decode cX5_back 7 = .ok (.bipush (-2), 2) := by decide +kernel
theorem dX5_back_9 : decode cX5_back 9 = .ok (.ireturn, 1) := by decide +kernel
theorem dX5_back_10 : decode cX5_back 10 = .ok (.aload_n 0, 1) := by decide +kernel
theorem dX5_back_11 : decode cX5_back 11 = .ok (.dup, 1) := by decide +kernel
theorem dX5_back_12 : decode cX5_back 12 = .ok (.getfield 111, 3) := by decide +kernel
theorem dX5_back_15 : decode cX5_back 15 = .ok (.iconst 1, 1) := by decide +kernel
theorem dX5_back_16 : decode cX5_back 16 = .ok (.isub, 1) := by decide +kernel
theorem dX5_back_17 : decode cX5_back 17 = .ok (.putfield 111, 3) := by decide +kernel
theorem dX5_back_20 : decode cX5_back 20 = .ok (.aload_n 0, 1) := by decide +kernel
theorem dX5_back_21 : decode cX5_back 21 = .ok (.getfield 16, 3) := by decide +kernel
theorem dX5_back_24 : decode cX5_back 24 = .ok (.aload_n 0, 1) := by decide +kernel
theorem dX5_back_25 : decode cX5_back 25 = .ok (.getfield 36, 3) := by decide +kernel
theorem dX5_back_28 : decode cX5_back 28 = .ok (.aload_n 0, 1) := by decide +kernel
theorem dX5_back_29 : decode cX5_back 29 = .ok (.getfield 111, 3) := by decide +kernel
theorem dX5_back_32 : decode cX5_back 32 = .ok (.aaload, 1) := by decide +kernel
theorem dX5_back_33 : decode cX5_back 33 = .ok (.invokevirtual 104, 3) := by decide +kernel
theorem dX5_back_36 : decode cX5_back 36 = .ok (.aload_n 0, 1) := by decide +kernel
theorem dX5_back_37 : decode cX5_back 37 = .ok (.iconst 0, 1) := by decide +kernel
theorem dX5_back_38 : decode cX5_back 38 = .ok (.putfield 108, 3) := by decide +kernel
theorem dX5_back_41 : decode cX5_back 41 = .ok (.aload_n 0, 1) := by decide +kernel
theorem dX5_back_42 : decode cX5_back 42 = .ok (.invokevirtual 114, 3) := by decide +kernel
theorem dX5_back_45 : decode cX5_back 45 = .ok (.aload_n 0, 1) := by decide +kernel
theorem dX5_back_46 : decode cX5_back 46 = .ok (.getfield 111, 3) := by decide +kernel
theorem dX5_back_49 : decode cX5_back 49 = .ok (.ireturn, 1) := by decide +kernel
theorem dX5_count_0 : decode cX5_count 0 = .ok (.iload_n 1, 1) := by decide +kernel
theorem dX5_count_1 : decode cX5_count 1 = .ok (.tableswitch 78 0 5 #[39, 47, 55, 63, 68, 73], 39) := by decide +kernel
theorem dX5_count_40 : decode cX5_count 40 = .ok (.aload_n 0, 1) := by decide +kernel
theorem dX5_count_41 : decode cX5_count 41 = .ok (.getfield 16, 3) := by decide +kernel
theorem dX5_count_44 : decode cX5_count 44 = .ok (.getfield 101, 3) := by decide +kernel
theorem dX5_count_47 : decode cX5_count 47 = .ok (.ireturn, 1) := by decide +kernel
theorem dX5_count_48 : decode cX5_count 48 = .ok (.aload_n 0, 1) := by decide +kernel
theorem dX5_count_49 : decode cX5_count 49 = .ok (.getfield 16, 3) := by decide +kernel
theorem dX5_count_52 : decode cX5_count 52 = .ok (.invokevirtual 169, 3) := by decide +kernel
theorem dX5_count_55 : decode cX5_count 55 = .ok (.ireturn, 1) := by decide +kernel
theorem dX5_count_56 : decode cX5_count 56 = .ok (.aload_n 0, 1) := by decide +kernel
theorem dX5_count_57 : decode cX5_count 57 = .ok (.getfield 16, 3) := by decide +kernel
theorem dX5_count_60 : decode cX5_count 60 = .ok (.invokevirtual 236, 3) := by decide +kernel
theorem dX5_count_63 : decode cX5_count 63 = .ok (.ireturn, 1) := by decide +kernel
theorem dX5_count_64 : decode cX5_count 64 = .ok (.aload_n 0, 1) := by decide +kernel
theorem dX5_count_65 : decode cX5_count 65 = .ok (.getfield 108, 3) := by decide +kernel
theorem dX5_count_68 : decode cX5_count 68 = .ok (.ireturn, 1) := by decide +kernel
theorem dX5_count_69 : decode cX5_count 69 = .ok (.aload_n 0, 1) := by decide +kernel
theorem dX5_count_70 : decode cX5_count 70 = .ok (.getfield 111, 3) := by decide +kernel
theorem dX5_count_73 : decode cX5_count 73 = .ok (.ireturn, 1) := by decide +kernel
theorem dX5_count_74 : decode cX5_count 74 = .ok (.aload_n 0, 1) := by decide +kernel
theorem dX5_count_75 : decode cX5_count 75 = .ok (.getfield 94, 3) := by decide +kernel
theorem dX5_count_78 : decode cX5_count 78 = .ok (.ireturn, 1) := by decide +kernel
theorem dX5_count_79 : decode cX5_count 79 = .ok (.iconst (-1), 1) := by decide +kernel
theorem dX5_count_80 : decode cX5_count 80 = .ok (.ireturn, 1) := by decide +kernel
theorem dX5_isNode_0 : decode cX5_isNode 0 = .ok (.iload_n 1, 1) := by decide +kernel
theorem dX5_isNode_1 : decode cX5_isNode 1 = .ok (.iconst 0, 1) := by decide +kernel
theorem dX5_isNode_2 : decode cX5_isNode 2 = .ok (.aload_n 0, 1) := by decide +kernel
theorem dX5_isNode_3 : decode cX5_isNode 3 = .ok (.getfield 16, 3) := by decide +kernel
theorem dX5_isNode_6 : decode cX5_isNode 6 = .ok (.getfield 101, 3) := by decide +kernel
theorem dX5_isNode_9 : decode cX5_isNode 9 = .ok (.iconst 1, 1) := by decide +kernel
theorem dX5_isNode_10 : decode cX5_isNode 10 = .ok (.isub, 1) := by decide +kernel
theorem dX5_isNode_11 : decode cX5_isNode 11 = .ok (.invokestatic 90, 3) := by decide +kernel
theorem dX5_isNode_14 : decode cX5_isNode 14 = .ok (.ireturn, 1) := by decide +kernel
theorem dX5_isChoice_0 : decode cX5_isChoice 0 = .ok (.aload_n 0, 1) := by decide +kernel
theorem dX5_isChoice_1 : decode cX5_isChoice 1 = .ok (.iload_n 1, 1) := by decide +kernel
theorem dX5_isChoice_2 : decode cX5_isChoice 2 = .ok (.invokevirtual 117, 3) := by decide +kernel
theorem dX5_isChoice_5 : decode cX5_isChoice 5 = .ok (.ifCond .eq 26, 3) := by decide +kernel
theorem dX5_isChoice_8 : decode cX5_isChoice 8 = .ok (.iload_n 2, 1) := by decide +kernel
theorem dX5_isChoice_9 : decode cX5_isChoice 9 = .ok (.iconst 0, 1) := by decide +kernel
theorem dX5_isChoice_10 : decode cX5_isChoice 10 = .ok (.aload_n 0, 1) := by decide +kernel
theorem dX5_isChoice_11 : decode cX5_isChoice 11 = .ok (.getfield 16, 3) := by decide +kernel
theorem dX5_isChoice_14 : decode cX5_isChoice 14 = .ok (.getfield 125, 3) := by decide +kernel
theorem dX5_isChoice_17 : decode cX5_isChoice 17 = .ok (.iload_n 1, 1) := by decide +kernel
theorem dX5_isChoice_18 : decode cX5_isChoice 18 = .ok (.iaload, 1) := by decide +kernel
theorem dX5_isChoice_19 : decode cX5_isChoice 19 = .ok (.iconst 1, 1) := by decide +kernel
theorem dX5_isChoice_20 : decode cX5_isChoice 20 = .ok (.isub, 1) := by decide +kernel
theorem dX5_isChoice_21 : decode cX5_isChoice 21 = .ok (.invokestatic 90, 3) := by decide +kernel
theorem dX5_isChoice_24 : decode cX5_isChoice 24 = .ok (.ifCond .eq 7, 3) := by decide +kernel
theorem dX5_isChoice_27 : decode cX5_isChoice 27 = .ok (.iconst 1, 1) := by decide +kernel
theorem dX5_isChoice_28 : decode cX5_isChoice 28 = .ok (.goto 4, 3) := by decide +kernel
theorem dX5_isChoice_31 : decode cX5_isChoice 31 = .ok (.iconst 0, 1) := by decide +kernel
theorem dX5_isChoice_32 : decode cX5_isChoice 32 = .ok (.ireturn, 1) := by decide +kernel
theorem dX5_pinnedTo_0 : decode cX5_pinnedTo 0 = .ok (.aload_n 0, 1) := by decide +kernel
theorem dX5_pinnedTo_1 : decode cX5_pinnedTo 1 = .ok (.getfield 16, 3) := by decide +kernel
theorem dX5_pinnedTo_4 : decode cX5_pinnedTo 4 = .ok (.getfield 180, 3) := by decide +kernel
theorem dX5_pinnedTo_7 : decode cX5_pinnedTo 7 = .ok (.iload_n 1, 1) := by decide +kernel
theorem dX5_pinnedTo_8 : decode cX5_pinnedTo 8 = .ok (.iaload, 1) := by decide +kernel
theorem dX5_pinnedTo_9 : decode cX5_pinnedTo 9 = .ok (.iconst (-1), 1) := by decide +kernel
theorem dX5_pinnedTo_10 : decode cX5_pinnedTo 10 = .ok (.if_icmp .ne 8, 3) := by decide +kernel
theorem dX5_pinnedTo_13 : decode cX5_pinnedTo 13 = .ok (.bipush (-4), 2) := by decide +kernel
theorem dX5_pinnedTo_15 : decode cX5_pinnedTo 15 = .ok (.goto 12, 3) := by decide +kernel
theorem dX5_pinnedTo_18 : decode cX5_pinnedTo 18 = .ok (.aload_n 0, 1) := by decide +kernel
theorem dX5_pinnedTo_19 : decode cX5_pinnedTo 19 = .ok (.getfield 16, 3) := by decide +kernel
theorem dX5_pinnedTo_22 : decode cX5_pinnedTo 22 = .ok (.getfield 180, 3) := by decide +kernel
theorem dX5_pinnedTo_25 : decode cX5_pinnedTo 25 = .ok (.iload_n 1, 1) := by decide +kernel
theorem dX5_pinnedTo_26 : decode cX5_pinnedTo 26 = .ok (.iaload, 1) := by decide +kernel
theorem dX5_pinnedTo_27 : decode cX5_pinnedTo 27 = .ok (.ireturn, 1) := by decide +kernel
theorem dX5_beginAct_0 : decode cX5_beginAct 0 = .ok (.aload_n 0, 1) := by decide +kernel
theorem dX5_beginAct_1 : decode cX5_beginAct 1 = .ok (.getfield 108, 3) := by decide +kernel
theorem dX5_beginAct_4 : decode cX5_beginAct 4 = .ok (.bipush 8, 2) := by decide +kernel
theorem dX5_beginAct_6 : decode cX5_beginAct 6 = .ok (.if_icmp .lt 7, 3) := by decide +kernel
theorem dX5_beginAct_9 : decode cX5_beginAct 9 = .ok (.aload_n 0, 1) := by decide +kernel
theorem dX5_beginAct_10 : decode cX5_beginAct 10 = .ok (.invokevirtual 239, 3) := by decide +kernel
theorem dX5_beginAct_13 : decode cX5_beginAct 13 = .ok (.aload_n 0, 1) := by decide +kernel
theorem dX5_beginAct_14 : decode cX5_beginAct 14 = .ok (.getfield 32, 3) := by decide +kernel
theorem dX5_beginAct_17 : decode cX5_beginAct 17 = .ok (.aload_n 0, 1) := by decide +kernel
theorem dX5_beginAct_18 : decode cX5_beginAct 18 = .ok (.getfield 108, 3) := by decide +kernel
theorem dX5_beginAct_21 : decode cX5_beginAct 21 = .ok (.aaload, 1) := by decide +kernel
theorem dX5_beginAct_22 : decode cX5_beginAct 22 = .ok (.aload_n 0, 1) := by decide +kernel
theorem dX5_beginAct_23 : decode cX5_beginAct 23 = .ok (.getfield 16, 3) := by decide +kernel
theorem dX5_beginAct_26 : decode cX5_beginAct 26 = .ok (.invokevirtual 104, 3) := by decide +kernel
theorem dX5_beginAct_29 : decode cX5_beginAct 29 = .ok (.aload_n 0, 1) := by decide +kernel
theorem dX5_beginAct_30 : decode cX5_beginAct 30 = .ok (.dup, 1) := by decide +kernel
theorem dX5_beginAct_31 : decode cX5_beginAct 31 = .ok (.getfield 108, 3) := by decide +kernel
theorem dX5_beginAct_34 : decode cX5_beginAct 34 = .ok (.iconst 1, 1) := by decide +kernel
theorem dX5_beginAct_35 : decode cX5_beginAct 35 = .ok (.iadd, 1) := by decide +kernel
theorem dX5_beginAct_36 : decode cX5_beginAct 36 = .ok (.putfield 108, 3) := by decide +kernel
theorem dX5_beginAct_39 : decode cX5_beginAct 39 = .ok (.aload_n 0, 1) := by decide +kernel
theorem dX5_beginAct_40 : decode cX5_beginAct 40 = .ok (.invokevirtual 114, 3) := by decide +kernel
theorem dX5_beginAct_43 : decode cX5_beginAct 43 = .ok (.return_, 1) := by decide +kernel
theorem dX5_dropOldest_0 : decode cX5_dropOldest 0 = .ok (.aload_n 0, 1) := by decide +kernel
theorem dX5_dropOldest_1 : decode cX5_dropOldest 1 = .ok (.getfield 32, 3) := by decide +kernel
theorem dX5_dropOldest_4 : decode cX5_dropOldest 4 = .ok (.iconst 0, 1) := by decide +kernel
theorem dX5_dropOldest_5 : decode cX5_dropOldest 5 = .ok (.aaload, 1) := by decide +kernel
theorem dX5_dropOldest_6 : decode cX5_dropOldest 6 = .ok (.astore_n 1, 1) := by decide +kernel
theorem dX5_dropOldest_7 : decode cX5_dropOldest 7 = .ok (.iconst 1, 1) := by decide +kernel
theorem dX5_dropOldest_8 : decode cX5_dropOldest 8 = .ok (.istore_n 2, 1) := by decide +kernel
theorem dX5_dropOldest_9 : decode cX5_dropOldest 9 = .ok (.iload_n 2, 1) := by decide +kernel
theorem dX5_dropOldest_10 : decode cX5_dropOldest 10 = .ok (.bipush 8, 2) := by decide +kernel
theorem dX5_dropOldest_12 : decode cX5_dropOldest 12 = .ok (.if_icmp .ge 23, 3) := by decide +kernel
theorem dX5_dropOldest_15 : decode cX5_dropOldest 15 = .ok (.aload_n 0, 1) := by decide +kernel
theorem dX5_dropOldest_16 : decode cX5_dropOldest 16 = .ok (.getfield 32, 3) := by decide +kernel
theorem dX5_dropOldest_19 : decode cX5_dropOldest 19 = .ok (.iload_n 2, 1) := by decide +kernel
theorem dX5_dropOldest_20 : decode cX5_dropOldest 20 = .ok (.iconst 1, 1) := by decide +kernel
theorem dX5_dropOldest_21 : decode cX5_dropOldest 21 = .ok (.isub, 1) := by decide +kernel
theorem dX5_dropOldest_22 : decode cX5_dropOldest 22 = .ok (.aload_n 0, 1) := by decide +kernel
theorem dX5_dropOldest_23 : decode cX5_dropOldest 23 = .ok (.getfield 32, 3) := by decide +kernel
theorem dX5_dropOldest_26 : decode cX5_dropOldest 26 = .ok (.iload_n 2, 1) := by decide +kernel
theorem dX5_dropOldest_27 : decode cX5_dropOldest 27 = .ok (.aaload, 1) := by decide +kernel
theorem dX5_dropOldest_28 : decode cX5_dropOldest 28 = .ok (.aastore, 1) := by decide +kernel
theorem dX5_dropOldest_29 : decode cX5_dropOldest 29 = .ok (.iinc 2 1, 3) := by decide +kernel
theorem dX5_dropOldest_32 : decode cX5_dropOldest 32 = .ok (.goto (-23), 3) := by decide +kernel
theorem dX5_dropOldest_35 : decode cX5_dropOldest 35 = .ok (.aload_n 0, 1) := by decide +kernel
theorem dX5_dropOldest_36 : decode cX5_dropOldest 36 = .ok (.getfield 32, 3) := by decide +kernel
theorem dX5_dropOldest_39 : decode cX5_dropOldest 39 = .ok (.bipush 7, 2) := by decide +kernel
theorem dX5_dropOldest_41 : decode cX5_dropOldest 41 = .ok (.aload_n 1, 1) := by decide +kernel
theorem dX5_dropOldest_42 : decode cX5_dropOldest 42 = .ok (.aastore, 1) := by decide +kernel
theorem dX5_dropOldest_43 : decode cX5_dropOldest 43 = .ok (.aload_n 0, 1) := by decide +kernel
theorem dX5_dropOldest_44 : decode cX5_dropOldest 44 = .ok (.bipush 7, 2) := by decide +kernel
theorem dX5_dropOldest_46 : decode cX5_dropOldest 46 = .ok (.putfield 108, 3) := by decide +kernel
theorem dX5_dropOldest_49 : decode cX5_dropOldest 49 = .ok (.return_, 1) := by decide +kernel
theorem dX5_forgetAnswers_0 : decode cX5_forgetAnswers 0 = .ok (.aload_n 0, 1) := by decide +kernel
theorem dX5_forgetAnswers_1 : decode cX5_forgetAnswers 1 = .ok (.iconst 0, 1) := by decide +kernel
theorem dX5_forgetAnswers_2 : decode cX5_forgetAnswers 2 = .ok (.putfield 242, 3) := by decide +kernel
theorem dX5_forgetAnswers_5 : decode cX5_forgetAnswers 5 = .ok (.aload_n 0, 1) := by decide +kernel
theorem dX5_forgetAnswers_6 : decode cX5_forgetAnswers 6 = .ok (.iconst 0, 1) := by decide +kernel
theorem dX5_forgetAnswers_7 : decode cX5_forgetAnswers 7 = .ok (.putfield 245, 3) := by decide +kernel
theorem dX5_forgetAnswers_10 : decode cX5_forgetAnswers 10 = .ok (.aload_n 0, 1) := by decide +kernel
theorem dX5_forgetAnswers_11 : decode cX5_forgetAnswers 11 = .ok (.iconst 0, 1) := by decide +kernel
theorem dX5_forgetAnswers_12 : decode cX5_forgetAnswers 12 = .ok (.putfield 248, 3) := by decide +kernel
theorem dX5_forgetAnswers_15 : decode cX5_forgetAnswers 15 = .ok (.return_, 1) := by decide +kernel
theorem dX5_bringWeights_0 : decode cX5_bringWeights 0 = .ok (.aload_n 0, 1) := by decide +kernel
theorem dX5_bringWeights_1 : decode cX5_bringWeights 1 = .ok (.getfield 242, 3) := by decide +kernel
theorem dX5_bringWeights_4 : decode cX5_bringWeights 4 = .ok (.ifCond .ne 19, 3) := by decide +kernel
theorem dX5_bringWeights_7 : decode cX5_bringWeights 7 = .ok (.aload_n 0, 1) := by decide +kernel
theorem dX5_bringWeights_8 : decode cX5_bringWeights 8 = .ok (.getfield 42, 3) := by decide +kernel
theorem dX5_bringWeights_11 : decode cX5_bringWeights 11 = .ok (.aload_n 0, 1) := by decide +kernel
theorem dX5_bringWeights_12 : decode cX5_bringWeights 12 = .ok (.getfield 16, 3) := by decide +kernel
theorem dX5_bringWeights_15 : decode cX5_bringWeights 15 = .ok (.invokevirtual 225, 3) := by decide +kernel
theorem dX5_bringWeights_18 : decode cX5_bringWeights 18 = .ok (.aload_n 0, 1) := by decide +kernel
theorem dX5_bringWeights_19 : decode cX5_bringWeights 19 = .ok (.iconst 1, 1) := by decide +kernel
theorem dX5_bringWeights_20 : decode cX5_bringWeights 20 = .ok (.putfield 242, 3) := by decide +kernel
theorem dX5_bringWeights_23 : decode cX5_bringWeights 23 = .ok (.return_, 1) := by decide +kernel
theorem dX5_bringReduction_0 : decode cX5_bringReduction 0 = .ok (.aload_n 0, 1) := by decide +kernel
theorem dX5_bringReduction_1 : decode cX5_bringReduction 1 = .ok (.invokevirtual 251, 3) := by decide +kernel
theorem dX5_bringReduction_4 : decode cX5_bringReduction 4 = .ok (.aload_n 0, 1) := by decide +kernel
theorem dX5_bringReduction_5 : decode cX5_bringReduction 5 = .ok (.getfield 245, 3) := by decide +kernel
theorem dX5_bringReduction_8 : decode cX5_bringReduction 8 = .ok (.ifCond .ne 19, 3) := by decide +kernel
theorem dX5_bringReduction_11 : decode cX5_bringReduction 11 = .ok (.aload_n 0, 1) := by decide +kernel
theorem dX5_bringReduction_12 : decode cX5_bringReduction 12 = .ok (.getfield 52, 3) := by decide +kernel
theorem dX5_bringReduction_15 : decode cX5_bringReduction 15 = .ok (.aload_n 0, 1) := by decide +kernel
theorem dX5_bringReduction_16 : decode cX5_bringReduction 16 = .ok (.getfield 16, 3) := by decide +kernel
theorem dX5_bringReduction_19 : decode cX5_bringReduction 19 = .ok (.invokevirtual 254, 3) := by decide +kernel
theorem dX5_bringReduction_22 : decode cX5_bringReduction 22 = .ok (.aload_n 0, 1) := by decide +kernel
theorem dX5_bringReduction_23 : decode cX5_bringReduction 23 = .ok (.iconst 1, 1) := by decide +kernel
theorem dX5_bringReduction_24 : decode cX5_bringReduction 24 = .ok (.putfield 245, 3) := by decide +kernel
theorem dX5_bringReduction_27 : decode cX5_bringReduction 27 = .ok (.return_, 1) := by decide +kernel
theorem dX5_bringSearch_0 : decode cX5_bringSearch 0 = .ok (.aload_n 0, 1) := by decide +kernel
theorem dX5_bringSearch_1 : decode cX5_bringSearch 1 = .ok (.invokevirtual 251, 3) := by decide +kernel
theorem dX5_bringSearch_4 : decode cX5_bringSearch 4 = .ok (.aload_n 0, 1) := by decide +kernel
theorem dX5_bringSearch_5 : decode cX5_bringSearch 5 = .ok (.getfield 248, 3) := by decide +kernel
theorem dX5_bringSearch_8 : decode cX5_bringSearch 8 = .ok (.ifCond .ne 15, 3) := by decide +kernel
theorem dX5_bringSearch_11 : decode cX5_bringSearch 11 = .ok (.aload_n 0, 1) := by decide +kernel
theorem dX5_bringSearch_12 : decode cX5_bringSearch 12 = .ok (.getfield 61, 3) := by decide +kernel
theorem dX5_bringSearch_15 : decode cX5_bringSearch 15 = .ok (.invokevirtual 232, 3) := by decide +kernel
theorem dX5_bringSearch_18 : decode cX5_bringSearch 18 = .ok (.aload_n 0, 1) := by decide +kernel
theorem dX5_bringSearch_19 : decode cX5_bringSearch 19 = .ok (.iconst 1, 1) := by decide +kernel
theorem dX5_bringSearch_20 : decode cX5_bringSearch 20 = .ok (.putfield 248, 3) := by decide +kernel
theorem dX5_bringSearch_23 : decode cX5_bringSearch 23 = .ok (.return_, 1) := by decide +kernel
theorem dX5_isWithin_0 : decode cX5_isWithin 0 = .ok (.iload_n 1, 1) := by decide +kernel
theorem dX5_isWithin_1 : decode cX5_isWithin 1 = .ok (.iload_n 0, 1) := by decide +kernel
theorem dX5_isWithin_2 : decode cX5_isWithin 2 = .ok (.if_icmp .gt 12, 3) := by decide +kernel
theorem dX5_isWithin_5 : decode cX5_isWithin 5 = .ok (.iload_n 0, 1) := by decide +kernel
theorem dX5_isWithin_6 : decode cX5_isWithin 6 = .ok (.iload_n 2, 1) := by decide +kernel
theorem dX5_isWithin_7 : decode cX5_isWithin 7 = .ok (.if_icmp .gt 7, 3) := by decide +kernel
theorem dX5_isWithin_10 : decode cX5_isWithin 10 = .ok (.iconst 1, 1) := by decide +kernel
theorem dX5_isWithin_11 : decode cX5_isWithin 11 = .ok (.goto 4, 3) := by decide +kernel
theorem dX5_isWithin_14 : decode cX5_isWithin 14 = .ok (.iconst 0, 1) := by decide +kernel
theorem dX5_isWithin_15 : decode cX5_isWithin 15 = .ok (.ireturn, 1) := by decide +kernel
theorem dX5_capped_0 : decode cX5_capped 0 = .ok (.iload_n 0, 1) := by decide +kernel
theorem dX5_capped_1 : decode cX5_capped 1 = .ok (.ldc 218, 2) := by decide +kernel
theorem dX5_capped_3 : decode cX5_capped 3 = .ok (.invokestatic 256, 3) := by decide +kernel
theorem dX5_capped_6 : decode cX5_capped 6 = .ok (.ireturn, 1) := by decide +kernel
theorem dX5_choicePlace_0 : decode cX5_choicePlace 0 = .ok (.iload_n 0, 1) := by decide +kernel
theorem dX5_choicePlace_1 : decode cX5_choicePlace 1 = .ok (.iconst 4, 1) := by decide +kernel
theorem dX5_choicePlace_2 : decode cX5_choicePlace 2 = .ok (.imul, 1) := by decide +kernel
theorem dX5_choicePlace_3 : decode cX5_choicePlace 3 = .ok (.iload_n 1, 1) := by decide +kernel
theorem dX5_choicePlace_4 : decode cX5_choicePlace 4 = .ok (.iadd, 1) := by decide +kernel
theorem dX5_choicePlace_5 : decode cX5_choicePlace 5 = .ok (.ireturn, 1) := by decide +kernel
theorem dX5_entryPlace_0 : decode cX5_entryPlace 0 = .ok (.iload_n 0, 1) := by decide +kernel
theorem dX5_entryPlace_1 : decode cX5_entryPlace 1 = .ok (.iload_n 1, 1) := by decide +kernel
theorem dX5_entryPlace_2 : decode cX5_entryPlace 2 = .ok (.if_icmp .ge 22, 3) := by decide +kernel
theorem dX5_entryPlace_5 : decode cX5_entryPlace 5 = .ok (.iload_n 1, 1) := by decide +kernel
theorem dX5_entryPlace_6 : decode cX5_entryPlace 6 = .ok (.iload_n 1, 1) := by decide +kernel
theorem dX5_entryPlace_7 : decode cX5_entryPlace 7 = .ok (.iconst 1, 1) := by decide +kernel
theorem dX5_entryPlace_8 : decode cX5_entryPlace 8 = .ok (.isub, 1) := by decide +kernel
theorem dX5_entryPlace_9 : decode cX5_entryPlace 9 = .ok (.imul, 1) := by decide +kernel
theorem dX5_entryPlace_10 : decode cX5_entryPlace 10 = .ok (.iconst 2, 1) := by decide +kernel
theorem dX5_entryPlace_11 : decode cX5_entryPlace 11 = .ok (.idiv, 1) := by decide +kernel
theorem dX5_entryPlace_12 : decode cX5_entryPlace 12 = .ok (.iload_n 0, 1) := by decide +kernel
theorem dX5_entryPlace_13 : decode cX5_entryPlace 13 = .ok (.iadd, 1) := by decide +kernel
theorem dX5_entryPlace_14 : decode cX5_entryPlace 14 = .ok (.bipush 16, 2) := by decide +kernel
theorem dX5_entryPlace_16 : decode cX5_entryPlace 16 = .ok (.imul, 1) := by decide +kernel
theorem dX5_entryPlace_17 : decode cX5_entryPlace 17 = .ok (.iload_n 2, 1) := by decide +kernel
theorem dX5_entryPlace_18 : decode cX5_entryPlace 18 = .ok (.iconst 4, 1) := by decide +kernel
theorem dX5_entryPlace_19 : decode cX5_entryPlace 19 = .ok (.imul, 1) := by decide +kernel
theorem dX5_entryPlace_20 : decode cX5_entryPlace 20 = .ok (.iadd, 1) := by decide +kernel
theorem dX5_entryPlace_21 : decode cX5_entryPlace 21 = .ok (.iload_n 3, 1) := by decide +kernel
theorem dX5_entryPlace_22 : decode cX5_entryPlace 22 = .ok (.iadd, 1) := by decide +kernel
theorem dX5_entryPlace_23 : decode cX5_entryPlace 23 = .ok (.ireturn, 1) := by decide +kernel
theorem dX5_entryPlace_24 : decode cX5_entryPlace 24 = .ok (.iload_n 0, 1) := by decide +kernel
theorem dX5_entryPlace_25 : decode cX5_entryPlace 25 = .ok (.iload_n 0, 1) := by decide +kernel
theorem dX5_entryPlace_26 : decode cX5_entryPlace 26 = .ok (.iconst 1, 1) := by decide +kernel
theorem dX5_entryPlace_27 : decode cX5_entryPlace 27 = .ok (.isub, 1) := by decide +kernel
theorem dX5_entryPlace_28 : decode cX5_entryPlace 28 = .ok (.imul, 1) := by decide +kernel
theorem dX5_entryPlace_29 : decode cX5_entryPlace 29 = .ok (.iconst 2, 1) := by decide +kernel
theorem dX5_entryPlace_30 : decode cX5_entryPlace 30 = .ok (.idiv, 1) := by decide +kernel
theorem dX5_entryPlace_31 : decode cX5_entryPlace 31 = .ok (.iload_n 1, 1) := by decide +kernel
theorem dX5_entryPlace_32 : decode cX5_entryPlace 32 = .ok (.iadd, 1) := by decide +kernel
theorem dX5_entryPlace_33 : decode cX5_entryPlace 33 = .ok (.bipush 16, 2) := by decide +kernel
theorem dX5_entryPlace_35 : decode cX5_entryPlace 35 = .ok (.imul, 1) := by decide +kernel
theorem dX5_entryPlace_36 : decode cX5_entryPlace 36 = .ok (.iload_n 3, 1) := by decide +kernel
theorem dX5_entryPlace_37 : decode cX5_entryPlace 37 = .ok (.iconst 4, 1) := by decide +kernel
theorem dX5_entryPlace_38 : decode cX5_entryPlace 38 = .ok (.imul, 1) := by decide +kernel
theorem dX5_entryPlace_39 : decode cX5_entryPlace 39 = .ok (.iadd, 1) := by decide +kernel
theorem dX5_entryPlace_40 : decode cX5_entryPlace 40 = .ok (.iload_n 2, 1) := by decide +kernel
theorem dX5_entryPlace_41 : decode cX5_entryPlace 41 = .ok (.iadd, 1) := by decide +kernel
theorem dX5_entryPlace_42 : decode cX5_entryPlace 42 = .ok (.ireturn, 1) := by decide +kernel
theorem dX5_hasBit_0 : decode cX5_hasBit 0 = .ok (.iload_n 0, 1) := by decide +kernel
theorem dX5_hasBit_1 : decode cX5_hasBit 1 = .ok (.iload_n 1, 1) := by decide +kernel
theorem dX5_hasBit_2 : decode cX5_hasBit 2 = .ok (.ishr, 1) := by decide +kernel
theorem dX5_hasBit_3 : decode cX5_hasBit 3 = .ok (.iconst 1, 1) := by decide +kernel
theorem dX5_hasBit_4 : decode cX5_hasBit 4 = .ok (.iand, 1) := by decide +kernel
theorem dX5_hasBit_5 : decode cX5_hasBit 5 = .ok (.ifCond .eq 7, 3) := by decide +kernel
theorem dX5_hasBit_8 : decode cX5_hasBit 8 = .ok (.iconst 1, 1) := by decide +kernel
theorem dX5_hasBit_9 : decode cX5_hasBit 9 = .ok (.goto 4, 3) := by decide +kernel
theorem dX5_hasBit_12 : decode cX5_hasBit 12 = .ok (.iconst 0, 1) := by decide +kernel
theorem dX5_hasBit_13 : decode cX5_hasBit 13 = .ok (.ireturn, 1) := by decide +kernel
theorem dX5_joinByNoughts_0 : decode cX5_joinByNoughts 0 = .ok (.aload_n 0, 1) := by decide +kernel
theorem dX5_joinByNoughts_1 : decode cX5_joinByNoughts 1 = .ok (.iload_n 2, 1) := by decide +kernel
theorem dX5_joinByNoughts_2 : decode cX5_joinByNoughts 2 = .ok (.dup2, 1) := by decide +kernel
theorem dX5_joinByNoughts_3 : decode cX5_joinByNoughts 3 = .ok (.iaload, 1) := by decide +kernel
theorem dX5_joinByNoughts_4 : decode cX5_joinByNoughts 4 = .ok (.iconst 1, 1) := by decide +kernel
theorem dX5_joinByNoughts_5 : decode cX5_joinByNoughts 5 = .ok (.iload_n 3, 1) := by decide +kernel
theorem dX5_joinByNoughts_6 : decode cX5_joinByNoughts 6 = .ok (.ishl, 1) := by decide +kernel
theorem dX5_joinByNoughts_7 : decode cX5_joinByNoughts 7 = .ok (.ior, 1) := by decide +kernel
theorem dX5_joinByNoughts_8 : decode cX5_joinByNoughts 8 = .ok (.iastore, 1) := by decide +kernel
theorem dX5_joinByNoughts_9 : decode cX5_joinByNoughts 9 = .ok (.aload_n 0, 1) := by decide +kernel
theorem dX5_joinByNoughts_10 : decode cX5_joinByNoughts 10 = .ok (.iload_n 3, 1) := by decide +kernel
theorem dX5_joinByNoughts_11 : decode cX5_joinByNoughts 11 = .ok (.dup2, 1) := by decide +kernel
theorem dX5_joinByNoughts_12 : decode cX5_joinByNoughts 12 = .ok (.iaload, 1) := by decide +kernel
theorem dX5_joinByNoughts_13 : decode cX5_joinByNoughts 13 = .ok (.iconst 1, 1) := by decide +kernel
theorem dX5_joinByNoughts_14 : decode cX5_joinByNoughts 14 = .ok (.iload_n 2, 1) := by decide +kernel
theorem dX5_joinByNoughts_15 : decode cX5_joinByNoughts 15 = .ok (.ishl, 1) := by decide +kernel
theorem dX5_joinByNoughts_16 : decode cX5_joinByNoughts 16 = .ok (.ior, 1) := by decide +kernel
theorem dX5_joinByNoughts_17 : decode cX5_joinByNoughts 17 = .ok (.iastore, 1) := by decide +kernel
theorem dX5_joinByNoughts_18 : decode cX5_joinByNoughts 18 = .ok (.iload_n 2, 1) := by decide +kernel
theorem dX5_joinByNoughts_19 : decode cX5_joinByNoughts 19 = .ok (.iload_n 3, 1) := by decide +kernel
theorem dX5_joinByNoughts_20 : decode cX5_joinByNoughts 20 = .ok (.iconst 0, 1) := by decide +kernel
theorem dX5_joinByNoughts_21 : decode cX5_joinByNoughts 21 = .ok (.iconst 0, 1) := by decide +kernel
theorem dX5_joinByNoughts_22 : decode cX5_joinByNoughts 22 = .ok (.invokestatic 166, 3) := by decide +kernel
theorem dX5_joinByNoughts_25 : decode cX5_joinByNoughts 25 = .ok (.istore 4, 2) := by decide +kernel
theorem dX5_joinByNoughts_27 : decode cX5_joinByNoughts 27 = .ok (.iconst 0, 1) := by decide +kernel
theorem dX5_joinByNoughts_28 : decode cX5_joinByNoughts 28 = .ok (.istore 5, 2) := by decide +kernel
theorem dX5_joinByNoughts_30 : decode cX5_joinByNoughts 30 = .ok (.iload 5, 2) := by decide +kernel
theorem dX5_joinByNoughts_32 : decode cX5_joinByNoughts 32 = .ok (.bipush 16, 2) := by decide +kernel
theorem dX5_joinByNoughts_34 : decode cX5_joinByNoughts 34 = .ok (.if_icmp .ge 17, 3) := by decide +kernel
theorem dX5_joinByNoughts_37 : decode cX5_joinByNoughts 37 = .ok (.aload_n 1, 1) := by decide +kernel
theorem dX5_joinByNoughts_38 : decode cX5_joinByNoughts 38 = .ok (.iload 4, 2) := by decide +kernel
theorem dX5_joinByNoughts_40 : decode cX5_joinByNoughts 40 = .ok (.iload 5, 2) := by decide +kernel
theorem dX5_joinByNoughts_42 : decode cX5_joinByNoughts 42 = .ok (.iadd, 1) := by decide +kernel
theorem dX5_joinByNoughts_43 : decode cX5_joinByNoughts 43 = .ok (.iconst 0, 1) := by decide +kernel
theorem dX5_joinByNoughts_44 : decode cX5_joinByNoughts 44 = .ok (.iastore, 1) := by decide +kernel
theorem dX5_joinByNoughts_45 : decode cX5_joinByNoughts 45 = .ok (.iinc 5 1, 3) := by decide +kernel
theorem dX5_joinByNoughts_48 : decode cX5_joinByNoughts 48 = .ok (.goto (-18), 3) := by decide +kernel
theorem dX5_joinByNoughts_51 : decode cX5_joinByNoughts 51 = .ok (.return_, 1) := by decide +kernel
theorem dX5_part_0 : decode cX5_part 0 = .ok (.aload_n 0, 1) := by decide +kernel
theorem dX5_part_1 : decode cX5_part 1 = .ok (.iload_n 1, 1) := by decide +kernel
theorem dX5_part_2 : decode cX5_part 2 = .ok (.dup2, 1) := by decide +kernel
theorem dX5_part_3 : decode cX5_part 3 = .ok (.iaload, 1) := by decide +kernel
theorem dX5_part_4 : decode cX5_part 4 = .ok (.iconst 1, 1) := by decide +kernel
theorem dX5_part_5 : decode cX5_part 5 = .ok (.iload_n 2, 1) := by decide +kernel
theorem dX5_part_6 : decode cX5_part 6 = .ok (.ishl, 1) := by decide +kernel
theorem dX5_part_7 : decode cX5_part 7 = .ok (.iconst (-1), 1) := by decide +kernel
theorem dX5_part_8 : decode cX5_part 8 = .ok (.ixor, 1) := by decide +kernel
theorem dX5_part_9 : decode cX5_part 9 = .ok (.iand, 1) := by decide +kernel
theorem dX5_part_10 : decode cX5_part 10 = .ok (.iastore, 1) := by decide +kernel
theorem dX5_part_11 : decode cX5_part 11 = .ok (.aload_n 0, 1) := by decide +kernel
theorem dX5_part_12 : decode cX5_part 12 = .ok (.iload_n 2, 1) := by decide +kernel
theorem dX5_part_13 : decode cX5_part 13 = .ok (.dup2, 1) := by decide +kernel
theorem dX5_part_14 : decode cX5_part 14 = .ok (.iaload, 1) := by decide +kernel
theorem dX5_part_15 : decode cX5_part 15 = .ok (.iconst 1, 1) := by decide +kernel
theorem dX5_part_16 : decode cX5_part 16 = .ok (.iload_n 1, 1) := by decide +kernel
theorem dX5_part_17 : decode cX5_part 17 = .ok (.ishl, 1) := by decide +kernel
theorem dX5_part_18 : decode cX5_part 18 = .ok (.iconst (-1), 1) := by decide +kernel
theorem dX5_part_19 : decode cX5_part 19 = .ok (.ixor, 1) := by decide +kernel
theorem dX5_part_20 : decode cX5_part 20 = .ok (.iand, 1) := by decide +kernel
theorem dX5_part_21 : decode cX5_part 21 = .ok (.iastore, 1) := by decide +kernel
theorem dX5_part_22 : decode cX5_part 22 = .ok (.return_, 1) := by decide +kernel
theorem dX5_copyRow_0 : decode cX5_copyRow 0 = .ok (.aload_n 0, 1) := by decide +kernel
theorem dX5_copyRow_1 : decode cX5_copyRow 1 = .ok (.iconst 0, 1) := by decide +kernel
theorem dX5_copyRow_2 : decode cX5_copyRow 2 = .ok (.aload_n 1, 1) := by decide +kernel
theorem dX5_copyRow_3 : decode cX5_copyRow 3 = .ok (.iconst 0, 1) := by decide +kernel
theorem dX5_copyRow_4 : decode cX5_copyRow 4 = .ok (.aload_n 0, 1) := by decide +kernel
theorem dX5_copyRow_5 : decode cX5_copyRow 5 = .ok (.arraylength, 1) := by decide +kernel
theorem dX5_copyRow_6 : decode cX5_copyRow 6 = .ok (.aload_n 1, 1) := by decide +kernel
theorem dX5_copyRow_7 : decode cX5_copyRow 7 = .ok (.arraylength, 1) := by decide +kernel
theorem dX5_copyRow_8 : decode cX5_copyRow 8 = .ok (.invokestatic 256, 3) := by decide +kernel
theorem dX5_copyRow_11 : decode cX5_copyRow 11 = .ok (.invokestatic 261, 3) := by decide +kernel
theorem dX5_copyRow_14 : decode cX5_copyRow 14 = .ok (.return_, 1) := by decide +kernel
end
section
theorem dX6_init_0 : decode cX6_init 0 = .ok (.aload_n 0, 1) := by decide +kernel
theorem dX6_init_1 : decode cX6_init 1 = .ok (.invokespecial 1, 3) := by decide +kernel
theorem dX6_init_4 : decode cX6_init 4 = .ok (.aload_n 0, 1) := by decide +kernel
theorem dX6_init_5 : decode cX6_init 5 = .ok (.sipush 200, 3) := by decide +kernel
theorem dX6_init_8 : decode cX6_init 8 = .ok (.newarray .int, 2) := by decide +kernel
theorem dX6_init_10 : decode cX6_init 10 = .ok (.putfield 7, 3) := by decide +kernel
theorem dX6_init_13 : decode cX6_init 13 = .ok (.aload_n 0, 1) := by decide +kernel
theorem dX6_init_14 : decode cX6_init 14 = .ok (.bipush 8, 2) := by decide +kernel
theorem dX6_init_16 : decode cX6_init 16 = .ok (.newarray .int, 2) := by decide +kernel
theorem dX6_init_18 : decode cX6_init 18 = .ok (.putfield 13, 3) := by decide +kernel
theorem dX6_init_21 : decode cX6_init 21 = .ok (.aload_n 0, 1) := by decide +kernel
theorem dX6_init_22 : decode cX6_init 22 = .ok (.bipush 8, 2) := by decide +kernel
theorem dX6_init_24 : decode cX6_init 24 = .ok (.newarray .int, 2) := by decide +kernel
theorem dX6_init_26 : decode cX6_init 26 = .ok (.putfield 16, 3) := by decide +kernel
theorem dX6_init_29 : decode cX6_init 29 = .ok (.aload_n 0, 1) := by decide +kernel
theorem dX6_init_30 : decode cX6_init 30 = .ok (.sipush 500, 3) := by decide +kernel
theorem dX6_init_33 : decode cX6_init 33 = .ok (.newarray .int, 2) := by decide +kernel
theorem dX6_init_35 : decode cX6_init 35 = .ok (.putfield 19, 3) := by decide +kernel
theorem dX6_init_38 : decode cX6_init 38 = .ok (.aload_n 0, 1) := by decide +kernel
theorem dX6_init_39 : decode cX6_init 39 = .ok (.sipush 500, 3) := by decide +kernel
theorem dX6_init_42 : decode cX6_init 42 = .ok (.newarray .int, 2) := by decide +kernel
theorem dX6_init_44 : decode cX6_init 44 = .ok (.putfield 22, 3) := by decide +kernel
theorem dX6_init_47 : decode cX6_init 47 = .ok (.aload_n 0, 1) := by decide +kernel
theorem dX6_init_48 : decode cX6_init 48 = .ok (.sipush 4000, 3) := by decide +kernel
theorem dX6_init_51 : decode cX6_init 51 = .ok (.newarray .int, 2) := by decide +kernel
theorem dX6_init_53 : decode cX6_init 53 = .ok (.putfield 25, 3) := by decide +kernel
theorem dX6_init_56 : decode cX6_init 56 = .ok (.aload_n 0, 1) := by decide +kernel
theorem dX6_init_57 : decode cX6_init 57 = .ok (.sipush 1000, 3) := by decide +kernel
theorem dX6_init_60 : decode cX6_init 60 = .ok (.newarray .int, 2) := by decide +kernel
theorem dX6_init_62 : decode cX6_init 62 = .ok (.putfield 28, 3) := by decide +kernel
theorem dX6_init_65 : decode cX6_init 65 = .ok (.aload_n 0, 1) := by decide +kernel
theorem dX6_init_66 : decode cX6_init 66 = .ok (.bipush 32, 2) := by decide +kernel
theorem dX6_init_68 : decode cX6_init 68 = .ok (.newarray .int, 2) := by decide +kernel
theorem dX6_init_70 : decode cX6_init 70 = .ok (.putfield 31, 3) := by decide +kernel
theorem dX6_init_73 : decode cX6_init 73 = .ok (.aload_n 0, 1) := by decide +kernel
theorem dX6_init_74 : decode cX6_init 74 = .ok (.sipush 1024, 3) := by decide +kernel
theorem dX6_init_77 : decode cX6_init 77 = .ok (.newarray .int, 2) := by decide +kernel
theorem dX6_init_79 : decode cX6_init 79 = .ok (.putfield 34, 3) := by decide +kernel
theorem dX6_init_82 : decode cX6_init 82 = .ok (.aload_n 0, 1) := by decide +kernel
theorem dX6_init_83 : decode cX6_init 83 = .ok (.bipush 8, 2) := by decide +kernel
theorem dX6_init_85 : decode cX6_init 85 = .ok (.newarray .int, 2) := by decide +kernel
theorem dX6_init_87 : decode cX6_init 87 = .ok (.putfield 37, 3) := by decide +kernel
theorem dX6_init_90 : decode cX6_init 90 = .ok (.aload_n 0, 1) := by decide +kernel
theorem dX6_init_91 : decode cX6_init 91 = .ok (.bipush 8, 2) := by decide +kernel
theorem dX6_init_93 : decode cX6_init 93 = .ok (.newarray .int, 2) := by decide +kernel
theorem dX6_init_95 : decode cX6_init 95 = .ok (.putfield 40, 3) := by decide +kernel
theorem dX6_init_98 : decode cX6_init 98 = .ok (.aload_n 0, 1) := by decide +kernel
theorem dX6_init_99 : decode cX6_init 99 = .ok (.bipush 8, 2) := by decide +kernel
theorem dX6_init_101 : decode cX6_init 101 = .ok (.newarray .int, 2) := by decide +kernel
theorem dX6_init_103 : decode cX6_init 103 = .ok (.putfield 43, 3) := by decide +kernel
theorem dX6_init_106 : decode cX6_init 106 = .ok (.aload_n 0, 1) := by decide +kernel
theorem dX6_init_107 : decode cX6_init 107 = .ok (.bipush 8, 2) := by decide +kernel
theorem dX6_init_109 : decode cX6_init 109 = .ok (.newarray .int, 2) := by decide +kernel
theorem dX6_init_111 : decode cX6_init 111 = .ok (.putfield 46, 3) := by decide +kernel
theorem dX6_init_114 : decode cX6_init 114 = .ok (.aload_n 0, 1) := by decide +kernel
theorem dX6_init_115 : decode cX6_init 115 = .ok (.bipush 8, 2) := by decide +kernel
theorem dX6_init_117 : decode cX6_init 117 = .ok (.newarray .int, 2) := by decide +kernel
theorem dX6_init_119 : decode cX6_init 119 = .ok (.putfield 49, 3) := by decide +kernel
theorem dX6_init_122 : decode cX6_init 122 = .ok (.aload_n 0, 1) := by decide +kernel
theorem dX6_init_123 : decode cX6_init 123 = .ok (.bipush 8, 2) := by decide +kernel
theorem dX6_init_125 : decode cX6_init 125 = .ok (.newarray .int, 2) := by decide +kernel
theorem dX6_init_127 : decode cX6_init 127 = .ok (.putfield 52, 3) := by decide +kernel
theorem dX6_init_130 : decode cX6_init 130 = .ok (.aload_n 0, 1) := by decide +kernel
theorem dX6_init_131 : decode cX6_init 131 = .ok (.bipush 8, 2) := by decide +kernel
theorem dX6_init_133 : decode cX6_init 133 = .ok (.newarray .int, 2) := by decide +kernel
theorem dX6_init_135 : decode cX6_init 135 = .ok (.putfield 55, 3) := by decide +kernel
theorem dX6_init_138 : decode cX6_init 138 = .ok (.aload_n 0, 1) := by decide +kernel
theorem dX6_init_139 : decode cX6_init 139 = .ok (.bipush 16, 2) := by decide +kernel
theorem dX6_init_141 : decode cX6_init 141 = .ok (.newarray .int, 2) := by decide +kernel
theorem dX6_init_143 : decode cX6_init 143 = .ok (.putfield 58, 3) := by decide +kernel
theorem dX6_init_146 : decode cX6_init 146 = .ok (.aload_n 0, 1) := by decide +kernel
theorem dX6_init_147 : decode cX6_init 147 = .ok (.invokevirtual 61, 3) := by decide +kernel
theorem dX6_init_150 : decode cX6_init 150 = .ok (.aload_n 0, 1) := by decide +kernel
theorem dX6_init_151 : decode cX6_init 151 = .ok (.iconst 0, 1) := by decide +kernel
theorem dX6_init_152 : decode cX6_init 152 = .ok (.iconst 3, 1) := by decide +kernel
theorem dX6_init_153 : decode cX6_init 153 = .ok (.iconst 5, 1) := by decide +kernel
theorem dX6_init_154 : decode cX6_init 154 = .ok (.iconst 2, 1) := by decide +kernel
theorem dX6_init_155 : decode cX6_init 155 = .ok (.bipush 7, 2) := by decide +kernel
theorem dX6_init_157 : decode cX6_init 157 = .ok (.invokevirtual 64, 3) := by decide +kernel
theorem dX6_init_160 : decode cX6_init 160 = .ok (.aload_n 0, 1) := by decide +kernel
theorem dX6_init_161 : decode cX6_init 161 = .ok (.iconst 1, 1) := by decide +kernel
theorem dX6_init_162 : decode cX6_init 162 = .ok (.iconst 2, 1) := by decide +kernel
theorem dX6_init_163 : decode cX6_init 163 = .ok (.iconst 3, 1) := by decide +kernel
theorem dX6_init_164 : decode cX6_init 164 = .ok (.iconst 1, 1) := by decide +kernel
theorem dX6_init_165 : decode cX6_init 165 = .ok (.iconst 0, 1) := by decide +kernel
theorem dX6_init_166 : decode cX6_init 166 = .ok (.invokevirtual 64, 3) := by decide +kernel
theorem dX6_init_169 : decode cX6_init 169 = .ok (.aload_n 0, 1) := by decide +kernel
theorem dX6_init_170 : decode cX6_init 170 = .ok (.iconst 2, 1) := by decide +kernel
theorem dX6_init_171 : decode cX6_init 171 = .ok (.iconst 2, 1) := by decide +kernel
theorem dX6_init_172 : decode cX6_init 172 = .ok (.iconst 0, 1) := by decide +kernel
theorem dX6_init_173 : decode cX6_init 173 = .ok (.iconst 4, 1) := by decide +kernel
theorem dX6_init_174 : decode cX6_init 174 = .ok (.iconst 0, 1) := by decide +kernel
theorem dX6_init_175 : decode cX6_init 175 = .ok (.invokevirtual 64, 3) := by decide +kernel
theorem dX6_init_178 : decode cX6_init 178 = .ok (.aload_n 0, 1) := by decide +kernel
theorem dX6_init_179 : decode cX6_init 179 = .ok (.iconst 0, 1) := by decide +kernel
theorem dX6_init_180 : decode cX6_init 180 = .ok (.iconst 2, 1) := by decide +kernel
theorem dX6_init_181 : decode cX6_init 181 = .ok (.bipush 6, 2) := by decide +kernel
theorem dX6_init_183 : decode cX6_init 183 = .ok (.bipush 6, 2) := by decide +kernel
theorem dX6_init_185 : decode cX6_init 185 = .ok (.iconst 0, 1) := by decide +kernel
theorem dX6_init_186 : decode cX6_init 186 = .ok (.invokevirtual 64, 3) := by decide +kernel
theorem dX6_init_189 : decode cX6_init 189 = .ok (.aload_n 0, 1) := by decide +kernel
theorem dX6_init_190 : decode cX6_init 190 = .ok (.iconst 3, 1) := by decide +kernel
theorem dX6_init_191 : decode cX6_init 191 = .ok (.iconst 3, 1) := by decide +kernel
theorem dX6_init_192 : decode cX6_init 192 = .ok (.bipush 9, 2) := by decide +kernel
theorem dX6_init_194 : decode cX6_init 194 = .ok (.bipush 10, 2) := by decide +kernel
theorem dX6_init_196 : decode cX6_init 196 = .ok (.iconst 1, 1) := by decide +kernel
theorem dX6_init_197 : decode cX6_init 197 = .ok (.invokevirtual 64, 3) := by decide +kernel
theorem dX6_init_200 : decode cX6_init 200 = .ok (.aload_n 0, 1) := by decide +kernel
theorem dX6_init_201 : decode cX6_init 201 = .ok (.iconst 0, 1) := by decide +kernel
theorem dX6_init_202 : decode cX6_init 202 = .ok (.iconst 1, 1) := by decide +kernel
theorem dX6_init_203 : decode cX6_init 203 = .ok (.sipush 19200, 3) := by decide +kernel
theorem dX6_init_206 : decode cX6_init 206 = .ok (.invokevirtual 68, 3) := by decide +kernel
theorem dX6_init_209 : decode cX6_init 209 = .ok (.aload_n 0, 1) := by decide +kernel
theorem dX6_init_210 : decode cX6_init 210 = .ok (.iconst 0, 1) := by decide +kernel
theorem dX6_init_211 : decode cX6_init 211 = .ok (.iconst 2, 1) := by decide +kernel
theorem dX6_init_212 : decode cX6_init 212 = .ok (.ldc 72, 2) := by decide +kernel
theorem dX6_init_214 : decode cX6_init 214 = .ok (.invokevirtual 68, 3) := by decide +kernel
theorem dX6_init_217 : decode cX6_init 217 = .ok (.aload_n 0, 1) := by decide +kernel
theorem dX6_init_218 : decode cX6_init 218 = .ok (.iconst 1, 1) := by decide +kernel
theorem dX6_init_219 : decode cX6_init 219 = .ok (.iconst 2, 1) := by decide +kernel
theorem dX6_init_220 : decode cX6_init 220 = .ok (.sipush 990, 3) := by decide +kernel
theorem dX6_init_223 : decode cX6_init 223 = .ok (.invokevirtual 68, 3) := by decide +kernel
theorem dX6_init_226 : decode cX6_init 226 = .ok (.aload_n 0, 1) := by decide +kernel
theorem dX6_init_227 : decode cX6_init 227 = .ok (.iconst 2, 1) := by decide +kernel
theorem dX6_init_228 : decode cX6_init 228 = .ok (.iconst 3, 1) := by decide +kernel
theorem dX6_init_229 : decode cX6_init 229 = .ok (.sipush 440, 3) := by decide +kernel
theorem dX6_init_232 : decode cX6_init 232 = .ok (.invokevirtual 68, 3) := by decide +kernel
theorem dX6_init_235 : decode cX6_init 235 = .ok (.aload_n 0, 1) := by decide +kernel
theorem dX6_init_236 : decode cX6_init 236 = .ok (.iconst 3, 1) := by decide +kernel
theorem dX6_init_237 : decode cX6_init 237 = .ok (.iconst 4, 1) := by decide +kernel
theorem dX6_init_238 : decode cX6_init 238 = .ok (.ldc 73, 2) := by decide +kernel
theorem dX6_init_240 : decode cX6_init 240 = .ok (.invokevirtual 68, 3) := by decide +kernel
theorem dX6_init_243 : decode cX6_init 243 = .ok (.aload_n 0, 1) := by decide +kernel
theorem dX6_init_244 : decode cX6_init 244 = .ok (.invokevirtual 74, 3) := by decide +kernel
theorem dX6_init_247 : decode cX6_init 247 = .ok (.return_, 1) := by decide +kernel
theorem dX6_in_0 : decode cX6_in 0 = .ok (.lload_n 0, 1) := by decide +kernel
theorem dX6_in_1 : decode cX6_in 1 = .ok (.lload_n 2, 1) := by decide +kernel
theorem dX6_in_2 : decode cX6_in 2 = .ok (.lcmp, 1) := by decide +kernel
theorem dX6_in_3 : decode cX6_in 3 = .ok (.ifCond .lt 14, 3) := by decide +kernel
theorem dX6_in_6 : decode cX6_in 6 = .ok (.lload_n 0, 1) := by decide +kernel
theorem dX6_in_7 : decode cX6_in 7 = .ok (.lload 4, 2) := by decide +kernel
theorem dX6_in_9 : decode cX6_in 9 = .ok (.lcmp, 1) := by decide +kernel
theorem dX6_in_10 : decode cX6_in 10 = .ok (.ifCond .gt 7, 3) := by decide +kernel
theorem dX6_in_13 : decode cX6_in 13 = .ok (.iconst 1, 1) := by decide +kernel
theorem dX6_in_14 : decode cX6_in 14 = .ok (.goto 4, 3) := by decide +kernel
theorem dX6_in_17 : decode cX6_in 17 = .ok (.iconst 0, 1) := by decide +kernel
theorem dX6_in_18 : decode cX6_in 18 = .ok (.ireturn, 1) := by decide +kernel
theorem dX6_readNone_0 : decode cX6_readNone 0 = .ok (.aload_n 0, 1) := by decide +kernel
theorem dX6_readNone_1 : decode cX6_readNone 1 = .ok (.iconst 0, 1) := by decide +kernel
theorem dX6_readNone_2 : decode cX6_readNone 2 = .ok (.putfield 77, 3) := by decide +kernel
theorem dX6_readNone_5 : decode cX6_readNone 5 = .ok (.iconst 0, 1) := by decide +kernel
theorem dX6_readNone_6 : decode cX6_readNone 6 = .ok (.istore_n 1, 1) := by decide +kernel
theorem dX6_readNone_7 : decode cX6_readNone 7 = .ok (.iload_n 1, 1) := by decide +kernel
theorem dX6_readNone_8 : decode cX6_readNone 8 = .ok (.sipush 500, 3) := by decide +kernel
theorem dX6_readNone_11 : decode cX6_readNone 11 = .ok (.if_icmp .ge 16, 3) := by decide +kernel
theorem dX6_readNone_14 : decode cX6_readNone 14 = .ok (.aload_n 0, 1) := by decide +kernel
theorem dX6_readNone_15 : decode cX6_readNone 15 = .ok (.getfield 19, 3) := by decide +kernel
theorem dX6_readNone_18 : decode cX6_readNone 18 = .ok (.iload_n 1, 1) := by decide +kernel
theorem dX6_readNone_19 : decode cX6_readNone 19 = .ok (.iconst 0, 1) := by decide +kernel
theorem dX6_readNone_20 : decode cX6_readNone 20 = .ok (.iastore, 1) := by decide +kernel
theorem dX6_readNone_21 : decode cX6_readNone 21 = .ok (.iinc 1 1, 3) := by decide +kernel
theorem dX6_readNone_24 : decode cX6_readNone 24 = .ok (.goto (-17), 3) := by decide +kernel
theorem dX6_readNone_27 : decode cX6_readNone 27 = .ok (.return_, 1) := by decide +kernel
theorem dX6_nodeIs_0 : decode cX6_nodeIs 0 = .ok (.iconst 4, 1) := by decide +kernel
theorem dX6_nodeIs_1 : decode cX6_nodeIs 1 = .ok (.aload_n 0, 1) := by decide +kernel
theorem dX6_nodeIs_2 : decode cX6_nodeIs 2 = .ok (.getfield 77, 3) := by decide +kernel
theorem dX6_nodeIs_5 : decode cX6_nodeIs 5 = .ok (.imul, 1) := by decide +kernel
theorem dX6_nodeIs_6 : decode cX6_nodeIs 6 = .ok (.istore 6, 2) := by decide +kernel
theorem dX6_nodeIs_8 : decode cX6_nodeIs 8 = .ok (.aload_n 0, 1) := by decide +kernel
theorem dX6_nodeIs_9 : decode cX6_nodeIs 9 = .ok (.getfield 19, 3) := by decide +kernel
theorem dX6_nodeIs_12 : decode cX6_nodeIs 12 = .ok (.iload 6, 2) := by decide +kernel
theorem dX6_nodeIs_14 : decode cX6_nodeIs 14 = .ok (.iload_n 3, 1) := by decide +kernel
theorem dX6_nodeIs_15 : decode cX6_nodeIs 15 = .ok (.iastore, 1) := by decide +kernel
theorem dX6_nodeIs_16 : decode cX6_nodeIs 16 = .ok (.aload_n 0, 1) := by decide +kernel
theorem dX6_nodeIs_17 : decode cX6_nodeIs 17 = .ok (.getfield 19, 3) := by decide +kernel
theorem dX6_nodeIs_20 : decode cX6_nodeIs 20 = .ok (.iload 6, 2) := by decide +kernel
theorem dX6_nodeIs_22 : decode cX6_nodeIs 22 = .ok (.iconst 1, 1) := by decide +kernel
theorem dX6_nodeIs_23 : decode cX6_nodeIs 23 = .ok (.iadd, 1) := by decide +kernel
theorem dX6_nodeIs_24 : decode cX6_nodeIs 24 = .ok (.iload 4, 2) := by decide +kernel
theorem dX6_nodeIs_26 : decode cX6_nodeIs 26 = .ok (.iastore, 1) := by decide +kernel
theorem dX6_nodeIs_27 : decode cX6_nodeIs 27 = .ok (.aload_n 0, 1) := by decide +kernel
theorem dX6_nodeIs_28 : decode cX6_nodeIs 28 = .ok (.getfield 19, 3) := by decide +kernel
theorem dX6_nodeIs_31 : decode cX6_nodeIs 31 = .ok (.iload 6, 2) := by decide +kernel
theorem dX6_nodeIs_33 : decode cX6_nodeIs 33 = .ok (.iconst 2, 1) := by decide +kernel
theorem dX6_nodeIs_34 : decode cX6_nodeIs 34 = .ok (.iadd, 1) := by decide +kernel
theorem dX6_nodeIs_35 : decode cX6_nodeIs 35 = .ok (.iload 5, 2) := by decide +kernel
theorem dX6_nodeIs_37 : decode cX6_nodeIs 37 = .ok (.iastore, 1) := by decide +kernel
theorem dX6_nodeIs_38 : decode cX6_nodeIs 38 = .ok (.aload_n 0, 1) := by decide +kernel
theorem dX6_nodeIs_39 : decode cX6_nodeIs 39 = .ok (.getfield 19, 3) := by decide +kernel
theorem dX6_nodeIs_42 : decode cX6_nodeIs 42 = .ok (.bipush 32, 2) := by decide +kernel
theorem dX6_nodeIs_44 : decode cX6_nodeIs 44 = .ok (.aload_n 0, 1) := by decide +kernel
theorem dX6_nodeIs_45 : decode cX6_nodeIs 45 = .ok (.getfield 77, 3) := by decide +kernel
theorem dX6_nodeIs_48 : decode cX6_nodeIs 48 = .ok (.iadd, 1) := by decide +kernel
theorem dX6_nodeIs_49 : decode cX6_nodeIs 49 = .ok (.iload_n 1, 1) := by decide +kernel
theorem dX6_nodeIs_50 : decode cX6_nodeIs 50 = .ok (.iastore, 1) := by decide +kernel
theorem dX6_nodeIs_51 : decode cX6_nodeIs 51 = .ok (.aload_n 0, 1) := by decide +kernel
theorem dX6_nodeIs_52 : decode cX6_nodeIs 52 = .ok (.getfield 16, 3) := by decide +kernel
theorem dX6_nodeIs_55 : decode cX6_nodeIs 55 = .ok (.aload_n 0, 1) := by decide +kernel
theorem dX6_nodeIs_56 : decode cX6_nodeIs 56 = .ok (.getfield 77, 3) := by decide +kernel
theorem dX6_nodeIs_59 : decode cX6_nodeIs 59 = .ok (.iload_n 2, 1) := by decide +kernel
theorem dX6_nodeIs_60 : decode cX6_nodeIs 60 = .ok (.iastore, 1) := by decide +kernel
theorem dX6_nodeIs_61 : decode cX6_nodeIs 61 = .ok (.aload_n 0, 1) := by decide +kernel
theorem dX6_nodeIs_62 : decode cX6_nodeIs 62 = .ok (.dup, 1) := by decide +kernel
theorem dX6_nodeIs_63 : decode cX6_nodeIs 63 = .ok (.getfield 77, 3) := by decide +kernel
theorem dX6_nodeIs_66 : decode cX6_nodeIs 66 = .ok (.iconst 1, 1) := by decide +kernel
theorem dX6_nodeIs_67 : decode cX6_nodeIs 67 = .ok (.iadd, 1) := by decide +kernel
theorem dX6_nodeIs_68 : decode cX6_nodeIs 68 = .ok (.putfield 77, 3) := by decide +kernel
theorem dX6_nodeIs_71 : decode cX6_nodeIs 71 = .ok (.return_, 1) := by decide +kernel
theorem dX6_entryAt_0 : decode cX6_entryAt 0 = .ok (.iload_n 0, 1) := by decide +kernel
theorem dX6_entryAt_1 : decode cX6_entryAt 1 = .ok (.iload_n 1, 1) := by decide +kernel
theorem dX6_entryAt_2 : decode cX6_entryAt 2 = .ok (.if_icmp .ge 7, 3) := by decide +kernel
theorem dX6_entryAt_5 : decode cX6_entryAt 5 = .ok (.iload_n 0, 1) := by decide +kernel
theorem dX6_entryAt_6 : decode cX6_entryAt 6 = .ok (.goto 4, 3) := by decide +kernel
theorem dX6_entryAt_9 : decode cX6_entryAt 9 = .ok (.iload_n 1, 1) := by decide +kernel
theorem dX6_entryAt_10 : decode cX6_entryAt 10 = .ok (.istore 4, 2) := by decide +kernel
theorem dX6_entryAt_12 : decode cX6_entryAt 12 = .ok (.iload_n 0, 1) := by decide +kernel
theorem dX6_entryAt_13 : decode cX6_entryAt 13 = .ok (.iload_n 1, 1) := by decide +kernel
theorem dX6_entryAt_14 : decode cX6_entryAt 14 = .ok (.if_icmp .ge 7, 3) := by decide +kernel
theorem dX6_entryAt_17 : decode cX6_entryAt 17 = .ok (.iload_n 1, 1) := by decide +kernel
theorem dX6_entryAt_18 : decode cX6_entryAt 18 = .ok (.goto 4, 3) := by decide +kernel
theorem dX6_entryAt_21 : decode cX6_entryAt 21 = .ok (.iload_n 0, 1) := by decide +kernel
theorem dX6_entryAt_22 : decode cX6_entryAt 22 = .ok (.istore 5, 2) := by decide +kernel
theorem dX6_entryAt_24 : decode cX6_entryAt 24 = .ok (.iload 5, 2) := by decide +kernel
theorem dX6_entryAt_26 : decode cX6_entryAt 26 = .ok (.iload 5, 2) := by decide +kernel
theorem dX6_entryAt_28 : decode cX6_entryAt 28 = .ok (.iconst 1, 1) := by decide +kernel
theorem dX6_entryAt_29 : decode cX6_entryAt 29 = .ok (.isub, 1) := by decide +kernel
theorem dX6_entryAt_30 : decode cX6_entryAt 30 = .ok (.imul, 1) := by decide +kernel
theorem dX6_entryAt_31 : decode cX6_entryAt 31 = .ok (.iconst 2, 1) := by decide +kernel
theorem dX6_entryAt_32 : decode cX6_entryAt 32 = .ok (.idiv, 1) := by decide +kernel
theorem dX6_entryAt_33 : decode cX6_entryAt 33 = .ok (.iload 4, 2) := by decide +kernel
theorem dX6_entryAt_35 : decode cX6_entryAt 35 = .ok (.iadd, 1) := by decide +kernel
theorem dX6_entryAt_36 : decode cX6_entryAt 36 = .ok (.istore 6, 2) := by decide +kernel
theorem dX6_entryAt_38 : decode cX6_entryAt 38 = .ok (.bipush 52, 2) := by decide +kernel
theorem dX6_entryAt_40 : decode cX6_entryAt 40 = .ok (.bipush 16, 2) := by decide +kernel
theorem dX6_entryAt_42 : decode cX6_entryAt 42 = .ok (.iload 6, 2) := by decide +kernel
theorem dX6_entryAt_44 : decode cX6_entryAt 44 = .ok (.imul, 1) := by decide +kernel
theorem dX6_entryAt_45 : decode cX6_entryAt 45 = .ok (.iadd, 1) := by decide +kernel
theorem dX6_entryAt_46 : decode cX6_entryAt 46 = .ok (.iconst 4, 1) := by decide +kernel
theorem dX6_entryAt_47 : decode cX6_entryAt 47 = .ok (.iload_n 0, 1) := by decide +kernel
theorem dX6_entryAt_48 : decode cX6_entryAt 48 = .ok (.iload_n 1, 1) := by decide +kernel
theorem dX6_entryAt_49 : decode cX6_entryAt 49 = .ok (.if_icmp .ge 7, 3) := by decide +kernel
theorem dX6_entryAt_52 : decode cX6_entryAt 52 = .ok (.iload_n 2, 1) := by decide +kernel
theorem dX6_entryAt_53 : decode cX6_entryAt 53 = .ok (.goto 4, 3) := by decide +kernel
theorem dX6_entryAt_56 : decode cX6_entryAt 56 = .ok (.iload_n 3, 1) := by decide +kernel
theorem dX6_entryAt_57 : decode cX6_entryAt 57 = .ok (.imul, 1) := by decide +kernel
theorem dX6_entryAt_58 : decode cX6_entryAt 58 = .ok (.iadd, 1) := by decide +kernel
theorem dX6_entryAt_59 : decode cX6_entryAt 59 = .ok (.iload_n 0, 1) := by decide +kernel
theorem dX6_entryAt_60 : decode cX6_entryAt 60 = .ok (.iload_n 1, 1) := by decide +kernel
theorem dX6_entryAt_61 : decode cX6_entryAt 61 = .ok (.if_icmp .ge 7, 3) := by decide +kernel
theorem dX6_entryAt_64 : decode cX6_entryAt 64 = .ok (.iload_n 3, 1) := by decide +kernel
theorem dX6_entryAt_65 : decode cX6_entryAt 65 = .ok (.goto 4, 3) := by decide +kernel
theorem dX6_entryAt_68 : decode cX6_entryAt 68 = .ok (.iload_n 2, 1) := by decide +kernel
theorem dX6_entryAt_69 : decode cX6_entryAt 69 = .ok (.iadd, 1) := by decide +kernel
theorem dX6_entryAt_70 : decode cX6_entryAt 70 = .ok (.ireturn, 1) := by decide +kernel
theorem dX6_tableIs_0 : decode cX6_tableIs 0 = .ok (.iload_n 3, 1) := by decide +kernel
theorem dX6_tableIs_1 : decode cX6_tableIs 1 = .ok (.istore 4, 2) := by decide +kernel
theorem dX6_tableIs_3 : decode cX6_tableIs 3 = .ok (.aload_n 0, 1) := by decide +kernel
theorem dX6_tableIs_4 : decode cX6_tableIs 4 = .ok (.getfield 16, 3) := by decide +kernel
theorem dX6_tableIs_7 : decode cX6_tableIs 7 = .ok (.iload_n 1, 1) := by decide +kernel
theorem dX6_tableIs_8 : decode cX6_tableIs 8 = .ok (.iaload, 1) := by decide +kernel
theorem dX6_tableIs_9 : decode cX6_tableIs 9 = .ok (.aload_n 0, 1) := by decide +kernel
theorem dX6_tableIs_10 : decode cX6_tableIs 10 = .ok (.getfield 16, 3) := by decide +kernel
theorem dX6_tableIs_13 : decode cX6_tableIs 13 = .ok (.iload_n 2, 1) := by decide +kernel
theorem dX6_tableIs_14 : decode cX6_tableIs 14 = .ok (.iaload, 1) := by decide +kernel
theorem dX6_tableIs_15 : decode cX6_tableIs 15 = .ok (.imul, 1) := by decide +kernel
theorem dX6_tableIs_16 : decode cX6_tableIs 16 = .ok (.iconst 1, 1) := by decide +kernel
theorem dX6_tableIs_17 : decode cX6_tableIs 17 = .ok (.isub, 1) := by decide +kernel
theorem dX6_tableIs_18 : decode cX6_tableIs 18 = .ok (.istore 5, 2) := by decide +kernel
theorem dX6_tableIs_20 : decode cX6_tableIs 20 = .ok (.iload 5, 2) := by decide +kernel
theorem dX6_tableIs_22 : decode cX6_tableIs 22 = .ok (.ifCond .lt 51, 3) := by decide +kernel
theorem dX6_tableIs_25 : decode cX6_tableIs 25 = .ok (.aload_n 0, 1) := by decide +kernel
theorem dX6_tableIs_26 : decode cX6_tableIs 26 = .ok (.getfield 19, 3) := by decide +kernel
theorem dX6_tableIs_29 : decode cX6_tableIs 29 = .ok (.iload_n 1, 1) := by decide +kernel
theorem dX6_tableIs_30 : decode cX6_tableIs 30 = .ok (.iload_n 2, 1) := by decide +kernel
theorem dX6_tableIs_31 : decode cX6_tableIs 31 = .ok (.iload 5, 2) := by decide +kernel
theorem dX6_tableIs_33 : decode cX6_tableIs 33 = .ok (.aload_n 0, 1) := by decide +kernel
theorem dX6_tableIs_34 : decode cX6_tableIs 34 = .ok (.getfield 16, 3) := by decide +kernel
theorem dX6_tableIs_37 : decode cX6_tableIs 37 = .ok (.iload_n 2, 1) := by decide +kernel
theorem dX6_tableIs_38 : decode cX6_tableIs 38 = .ok (.iaload, 1) := by decide +kernel
theorem dX6_tableIs_39 : decode cX6_tableIs 39 = .ok (.idiv, 1) := by decide +kernel
theorem dX6_tableIs_40 : decode cX6_tableIs 40 = .ok (.iload 5, 2) := by decide +kernel
theorem dX6_tableIs_42 : decode cX6_tableIs 42 = .ok (.aload_n 0, 1) := by decide +kernel
theorem dX6_tableIs_43 : decode cX6_tableIs 43 = .ok (.getfield 16, 3) := by decide +kernel
theorem dX6_tableIs_46 : decode cX6_tableIs 46 = .ok (.iload_n 2, 1) := by decide +kernel
theorem dX6_tableIs_47 : decode cX6_tableIs 47 = .ok (.iaload, 1) := by decide +kernel
theorem dX6_tableIs_48 : decode cX6_tableIs 48 = .ok (.irem, 1) := by decide +kernel
theorem dX6_tableIs_49 : decode cX6_tableIs 49 = .ok (.invokestatic 81, 3) := by decide +kernel
theorem dX6_tableIs_52 : decode cX6_tableIs 52 = .ok (.iconst 1, 1) := by decide +kernel
theorem dX6_tableIs_53 : decode cX6_tableIs 53 = .ok (.iload 4, 2) := by decide +kernel
theorem dX6_tableIs_55 : decode cX6_tableIs 55 = .ok (.bipush 10, 2) := by decide +kernel
theorem dX6_tableIs_57 : decode cX6_tableIs 57 = .ok (.irem, 1) := by decide +kernel
theorem dX6_tableIs_58 : decode cX6_tableIs 58 = .ok (.iadd, 1) := by decide +kernel
theorem dX6_tableIs_59 : decode cX6_tableIs 59 = .ok (.iastore, 1) := by decide +kernel
theorem dX6_tableIs_60 : decode cX6_tableIs 60 = .ok (.iload 4, 2) := by decide +kernel
theorem dX6_tableIs_62 : decode cX6_tableIs 62 = .ok (.bipush 10, 2) := by decide +kernel
theorem dX6_tableIs_64 : decode cX6_tableIs 64 = .ok (.idiv, 1) := by decide +kernel
theorem dX6_tableIs_65 : decode cX6_tableIs 65 = .ok (.istore 4, 2) := by decide +kernel
theorem dX6_tableIs_67 : decode cX6_tableIs 67 = .ok (.iinc 5 (-1), 3) := by decide +kernel
theorem dX6_tableIs_70 : decode cX6_tableIs 70 = .ok (.goto (-50), 3) := by decide +kernel
theorem dX6_tableIs_73 : decode cX6_tableIs 73 = .ok (.return_, 1) := by decide +kernel
theorem dX6_write_0 : decode cX6_write 0 = .ok (.iload_n 1, 1) := by decide +kernel
theorem dX6_write_1 : decode cX6_write 1 = .ok (.i2l, 1) := by decide +kernel
theorem dX6_write_2 : decode cX6_write 2 = .ok (.ldc2_w 85, 3) := by decide +kernel
theorem dX6_write_5 : decode cX6_write 5 = .ok (.ldc2_w 87, 3) := by decide +kernel
theorem dX6_write_8 : decode cX6_write 8 = .ok (.invokestatic 89, 3) := by decide +kernel
theorem dX6_write_11 : decode cX6_write 11 = .ok (.ifCond .ne 5, 3) := by decide +kernel
theorem dX6_write_14 : decode cX6_write 14 = .ok (.iconst (-1), 1) := by decide +kernel
theorem dX6_write_15 : decode cX6_write 15 = .ok (.ireturn, 1) := by decide +kernel
theorem dX6_write_16 : decode cX6_write 16 = .ok (.aload_n 0, 1) := by decide +kernel
theorem dX6_write_17 : decode cX6_write 17 = .ok (.getfield 93, 3) := by decide +kernel
theorem dX6_write_20 : decode cX6_write 20 = .ok (.sipush 200, 3) := by decide +kernel
theorem dX6_write_23 : decode cX6_write 23 = .ok (.if_icmp .ne 6, 3) := by decide +kernel
theorem dX6_write_26 : decode cX6_write 26 = .ok (.bipush (-3), 2) := by decide +kernel
theorem dX6_write_28 : decode cX6_write 28 = .ok (.ireturn, 1) := by decide +kernel
theorem dX6_write_29 : decode cX6_write 29 = .ok (.aload_n 0, 1) := by decide +kernel
theorem dX6_write_30 : decode cX6_write 30 = .ok (.getfield 7, 3) := by decide +kernel
theorem dX6_write_33 : decode cX6_write 33 = .ok (.aload_n 0, 1) := by decide +kernel
theorem dX6_write_34 : decode cX6_write 34 = .ok (.getfield 93, 3) := by decide +kernel
theorem dX6_write_37 : decode cX6_write 37 = .ok (.iload_n 1, 1) := by decide +kernel
theorem dX6_write_38 : decode cX6_write 38 = .ok (.iastore, 1) := by decide +kernel
theorem dX6_write_39 : decode cX6_write 39 = .ok (.aload_n 0, 1) := by decide +kernel
theorem dX6_write_40 : decode cX6_write 40 = .ok (.dup, 1) := by decide +kernel
theorem dX6_write_41 : decode cX6_write 41 = .ok (.getfield 93, 3) := by decide +kernel
theorem dX6_write_44 : decode cX6_write 44 = .ok (.iconst 1, 1) := by decide +kernel
theorem dX6_write_45 : decode cX6_write 45 = .ok (.iadd, 1) := by decide +kernel
theorem dX6_write_46 : decode cX6_write 46 = .ok (.putfield 93, 3) := by decide +kernel
theorem dX6_write_49 : decode cX6_write 49 = .ok (.aload_n 0, 1) := by decide +kernel
theorem dX6_write_50 : decode cX6_write 50 = .ok (.getfield 93, 3) := by decide +kernel
theorem dX6_write_53 : decode cX6_write 53 = .ok (.ireturn, 1) := by decide +kernel
theorem dX6_wipe_0 : decode cX6_wipe 0 = .ok (.aload_n 0, 1) := by decide +kernel
theorem dX6_wipe_1 : decode cX6_wipe 1 = .ok (.getfield 93, 3) := by decide +kernel
theorem dX6_wipe_4 : decode cX6_wipe 4 = .ok (.istore_n 1, 1) := by decide +kernel
theorem dX6_wipe_5 : decode cX6_wipe 5 = .ok (.aload_n 0, 1) := by decide +kernel
theorem dX6_wipe_6 : decode cX6_wipe 6 = .ok (.iconst 0, 1) := by decide +kernel
theorem dX6_wipe_7 : decode cX6_wipe 7 = .ok (.putfield 93, 3) := by decide +kernel
theorem dX6_wipe_10 : decode cX6_wipe 10 = .ok (.iload_n 1, 1) := by decide +kernel
theorem dX6_wipe_11 : decode cX6_wipe 11 = .ok (.ireturn, 1) := by decide +kernel
theorem dX6_letterAt_0 : decode cX6_letterAt 0 = .ok (.iload_n 1, 1) := by decide +kernel
theorem dX6_letterAt_1 : decode cX6_letterAt 1 = .ok (.aload_n 0, 1) := by decide +kernel
theorem dX6_letterAt_2 : decode cX6_letterAt 2 = .ok (.getfield 93, 3) := by decide +kernel
theorem dX6_letterAt_5 : decode cX6_letterAt 5 = .ok (.if_icmp .ge 12, 3) := by decide +kernel
theorem dX6_letterAt_8 : decode cX6_letterAt 8 = .ok (.aload_n 0, 1) := by decide +kernel
theorem dX6_letterAt_9 : decode cX6_letterAt 9 = .ok (.getfield 7, 3) := by decide +kernel
theorem dX6_letterAt_12 : decode cX6_letterAt 12 = .ok (.iload_n 1, 1) := by decide +kernel
theorem dX6_letterAt_13 : decode cX6_letterAt 13 = .ok (.iaload, 1) := by decide +kernel
theorem dX6_letterAt_14 : decode cX6_letterAt 14 = .ok (.goto 4, 3) := by decide +kernel
theorem dX6_letterAt_17 : decode cX6_letterAt 17 = .ok (.iconst 0, 1) := by decide +kernel
theorem dX6_letterAt_18 : decode cX6_letterAt 18 = .ok (.ireturn, 1) := by decide +kernel
theorem dX6_isNumber_0 : decode cX6_isNumber 0 = .ok (.iconst 0, 1) := by decide +kernel
theorem dX6_isNumber_1 : decode cX6_isNumber 1 = .ok (.istore_n 1, 1) := by decide +kernel
theorem dX6_isNumber_2 : decode cX6_isNumber 2 = .ok (.iconst 0, 1) := by decide +kernel
theorem dX6_isNumber_3 : decode cX6_isNumber 3 = .ok (.istore_n 2, 1) := by decide +kernel
theorem dX6_isNumber_4 : decode cX6_isNumber 4 = .ok (.aload_n 0, 1) := by decide +kernel
theorem dX6_isNumber_5 : decode cX6_isNumber 5 = .ok (.aload_n 0, 1) := by decide +kernel
theorem dX6_isNumber_6 : decode cX6_isNumber 6 = .ok (.getfield 96, 3) := by decide +kernel
theorem dX6_isNumber_9 : decode cX6_isNumber 9 = .ok (.invokevirtual 99, 3) := by decide +kernel
theorem dX6_isNumber_12 : decode cX6_isNumber 12 = .ok (.i2l, 1) := by decide +kernel
theorem dX6_isNumber_13 : decode cX6_isNumber 13 = .ok (.ldc2_w 103, 3) := by decide +kernel
theorem dX6_isNumber_16 : decode cX6_isNumber 16 = .ok (.ldc2_w 105, 3) := by decide +kernel
theorem dX6_isNumber_19 : decode cX6_isNumber 19 = .ok (.invokestatic 89, 3) := by decide +kernel
theorem dX6_isNumber_22 : decode cX6_isNumber 22 = .ok (.ifCond .eq 41, 3) := by decide +kernel
theorem dX6_isNumber_25 : decode cX6_isNumber 25 = .ok (.iload_n 1, 1) := by decide +kernel
theorem dX6_isNumber_26 : decode cX6_isNumber 26 = .ok (.iconst 3, 1) := by decide +kernel
theorem dX6_isNumber_27 : decode cX6_isNumber 27 = .ok (.if_icmp .ge 36, 3) := by decide +kernel
theorem dX6_isNumber_30 : decode cX6_isNumber 30 = .ok (.bipush 10, 2) := by decide +kernel
theorem dX6_isNumber_32 : decode cX6_isNumber 32 = .ok (.iload_n 2, 1) := by decide +kernel
theorem dX6_isNumber_33 : decode cX6_isNumber 33 = .ok (.imul, 1) := by decide +kernel
theorem dX6_isNumber_34 : decode cX6_isNumber 34 = .ok (.aload_n 0, 1) := by decide +kernel
theorem dX6_isNumber_35 : decode cX6_isNumber 35 = .ok (.aload_n 0, 1) := by decide +kernel
theorem dX6_isNumber_36 : decode cX6_isNumber 36 = .ok (.getfield 96, 3) := by decide +kernel
theorem dX6_isNumber_39 : decode cX6_isNumber 39 = .ok (.invokevirtual 99, 3) := by decide +kernel
theorem dX6_isNumber_42 : decode cX6_isNumber 42 = .ok (.iadd, 1) := by decide +kernel
theorem dX6_isNumber_43 : decode cX6_isNumber 43 = .ok (.bipush 48, 2) := by decide +kernel
theorem dX6_isNumber_45 : decode cX6_isNumber 45 = .ok (.isub, 1) := by decide +kernel
theorem dX6_isNumber_46 : decode cX6_isNumber 46 = .ok (.istore_n 2, 1) := by decide +kernel
theorem dX6_isNumber_47 : decode cX6_isNumber 47 = .ok (.iinc 1 1, 3) := by decide +kernel
theorem dX6_isNumber_50 : decode cX6_isNumber 50 = .ok (.aload_n 0, 1) := by decide +kernel
theorem dX6_isNumber_51 : decode cX6_isNumber 51 = .ok (.dup, 1) := by decide +kernel
theorem dX6_isNumber_52 : decode cX6_isNumber 52 = .ok (.getfield 96, 3) := by decide +kernel
theorem dX6_isNumber_55 : decode cX6_isNumber 55 = .ok (.iconst 1, 1) := by decide +kernel
theorem dX6_isNumber_56 : decode cX6_isNumber 56 = .ok (.iadd, 1) := by decide +kernel
theorem dX6_isNumber_57 : decode cX6_isNumber 57 = .ok (.putfield 96, 3) := by decide +kernel
theorem dX6_isNumber_60 : decode cX6_isNumber 60 = .ok (.goto (-56), 3) := by decide +kernel
theorem dX6_isNumber_63 : decode cX6_isNumber 63 = .ok (.aload_n 0, 1) := by decide +kernel
theorem dX6_isNumber_64 : decode cX6_isNumber 64 = .ok (.iload_n 2, 1) := by decide +kernel
theorem dX6_isNumber_65 : decode cX6_isNumber 65 = .ok (.putfield 107, 3) := by decide +kernel
theorem dX6_isNumber_68 : decode cX6_isNumber 68 = .ok (.iload_n 1, 1) := by decide +kernel
theorem dX6_isNumber_69 : decode cX6_isNumber 69 = .ok (.i2l, 1) := by decide +kernel
theorem dX6_isNumber_70 : decode cX6_isNumber 70 = .ok (.lconst 1, 1) := by decide +kernel
theorem dX6_isNumber_71 : decode cX6_isNumber 71 = .ok (.ldc2_w 110, 3) := by decide +kernel
theorem dX6_isNumber_74 : decode cX6_isNumber 74 = .ok (.invokestatic 89, 3) := by decide +kernel
theorem dX6_isNumber_77 : decode cX6_isNumber 77 = .ok (.ireturn, 1) := by decide +kernel
theorem dX6_nodeItem_0 : decode cX6_nodeItem 0 = .ok (.aload_n 0, 1) := by decide +kernel
theorem dX6_nodeItem_1 : decode cX6_nodeItem 1 = .ok (.invokevirtual 112, 3) := by decide +kernel
theorem dX6_nodeItem_4 : decode cX6_nodeItem 4 = .ok (.ifCond .eq 33, 3) := by decide +kernel
theorem dX6_nodeItem_7 : decode cX6_nodeItem 7 = .ok (.aload_n 0, 1) := by decide +kernel
theorem dX6_nodeItem_8 : decode cX6_nodeItem 8 = .ok (.getfield 107, 3) := by decide +kernel
theorem dX6_nodeItem_11 : decode cX6_nodeItem 11 = .ok (.iconst 3, 1) := by decide +kernel
theorem dX6_nodeItem_12 : decode cX6_nodeItem 12 = .ok (.if_icmp .gt 25, 3) := by decide +kernel
theorem dX6_nodeItem_15 : decode cX6_nodeItem 15 = .ok (.aload_n 0, 1) := by decide +kernel
theorem dX6_nodeItem_16 : decode cX6_nodeItem 16 = .ok (.aload_n 0, 1) := by decide +kernel
theorem dX6_nodeItem_17 : decode cX6_nodeItem 17 = .ok (.getfield 96, 3) := by decide +kernel
theorem dX6_nodeItem_20 : decode cX6_nodeItem 20 = .ok (.invokevirtual 99, 3) := by decide +kernel
theorem dX6_nodeItem_23 : decode cX6_nodeItem 23 = .ok (.bipush 44, 2) := by decide +kernel
theorem dX6_nodeItem_25 : decode cX6_nodeItem 25 = .ok (.if_icmp .ne 12, 3) := by decide +kernel
theorem dX6_nodeItem_28 : decode cX6_nodeItem 28 = .ok (.aload_n 0, 1) := by decide +kernel
theorem dX6_nodeItem_29 : decode cX6_nodeItem 29 = .ok (.getfield 77, 3) := by decide +kernel
theorem dX6_nodeItem_32 : decode cX6_nodeItem 32 = .ok (.bipush 8, 2) := by decide +kernel
theorem dX6_nodeItem_34 : decode cX6_nodeItem 34 = .ok (.if_icmp .ne 5, 3) := by decide +kernel
theorem dX6_nodeItem_37 : decode cX6_nodeItem 37 = .ok (.iconst 0, 1) := by decide +kernel
theorem dX6_nodeItem_38 : decode cX6_nodeItem 38 = .ok (.ireturn, 1) := by decide +kernel
theorem dX6_nodeItem_39 : decode cX6_nodeItem 39 = .ok (.aload_n 0, 1) := by decide +kernel
theorem dX6_nodeItem_40 : decode cX6_nodeItem 40 = .ok (.getfield 19, 3) := by decide +kernel
theorem dX6_nodeItem_43 : decode cX6_nodeItem 43 = .ok (.bipush 32, 2) := by decide +kernel
theorem dX6_nodeItem_45 : decode cX6_nodeItem 45 = .ok (.aload_n 0, 1) := by decide +kernel
theorem dX6_nodeItem_46 : decode cX6_nodeItem 46 = .ok (.getfield 77, 3) := by decide +kernel
theorem dX6_nodeItem_49 : decode cX6_nodeItem 49 = .ok (.iadd, 1) := by decide +kernel
theorem dX6_nodeItem_50 : decode cX6_nodeItem 50 = .ok (.aload_n 0, 1) := by decide +kernel
theorem dX6_nodeItem_51 : decode cX6_nodeItem 51 = .ok (.getfield 107, 3) := by decide +kernel
theorem dX6_nodeItem_54 : decode cX6_nodeItem 54 = .ok (.iastore, 1) := by decide +kernel
theorem dX6_nodeItem_55 : decode cX6_nodeItem 55 = .ok (.iconst 0, 1) := by decide +kernel
theorem dX6_nodeItem_56 : decode cX6_nodeItem 56 = .ok (.istore_n 1, 1) := by decide +kernel
theorem dX6_nodeItem_57 : decode cX6_nodeItem 57 = .ok (.aload_n 0, 1) := by decide +kernel
theorem dX6_nodeItem_58 : decode cX6_nodeItem 58 = .ok (.aload_n 0, 1) := by decide +kernel
theorem dX6_nodeItem_59 : decode cX6_nodeItem 59 = .ok (.getfield 96, 3) := by decide +kernel
theorem dX6_nodeItem_62 : decode cX6_nodeItem 62 = .ok (.invokevirtual 99, 3) := by decide +kernel
theorem dX6_nodeItem_65 : decode cX6_nodeItem 65 = .ok (.bipush 44, 2) := by decide +kernel
theorem dX6_nodeItem_67 : decode cX6_nodeItem 67 = .ok (.if_icmp .ne 50, 3) := by decide +kernel
theorem dX6_nodeItem_70 : decode cX6_nodeItem 70 = .ok (.aload_n 0, 1) := by decide +kernel
theorem dX6_nodeItem_71 : decode cX6_nodeItem 71 = .ok (.dup, 1) := by decide +kernel
theorem dX6_nodeItem_72 : decode cX6_nodeItem 72 = .ok (.getfield 96, 3) := by decide +kernel
theorem dX6_nodeItem_75 : decode cX6_nodeItem 75 = .ok (.iconst 1, 1) := by decide +kernel
theorem dX6_nodeItem_76 : decode cX6_nodeItem 76 = .ok (.iadd, 1) := by decide +kernel
theorem dX6_nodeItem_77 : decode cX6_nodeItem 77 = .ok (.putfield 96, 3) := by decide +kernel
theorem dX6_nodeItem_80 : decode cX6_nodeItem 80 = .ok (.aload_n 0, 1) := by decide +kernel
theorem dX6_nodeItem_81 : decode cX6_nodeItem 81 = .ok (.invokevirtual 112, 3) := by decide +kernel
theorem dX6_nodeItem_84 : decode cX6_nodeItem 84 = .ok (.ifCond .eq 8, 3) := by decide +kernel
theorem dX6_nodeItem_87 : decode cX6_nodeItem 87 = .ok (.iload_n 1, 1) := by decide +kernel
theorem dX6_nodeItem_88 : decode cX6_nodeItem 88 = .ok (.iconst 4, 1) := by decide +kernel
theorem dX6_nodeItem_89 : decode cX6_nodeItem 89 = .ok (.if_icmp .ne 5, 3) := by decide +kernel
theorem dX6_nodeItem_92 : decode cX6_nodeItem 92 = .ok (.iconst 0, 1) := by decide +kernel
theorem dX6_nodeItem_93 : decode cX6_nodeItem 93 = .ok (.ireturn, 1) := by decide +kernel
theorem dX6_nodeItem_94 : decode cX6_nodeItem 94 = .ok (.aload_n 0, 1) := by decide +kernel
theorem dX6_nodeItem_95 : decode cX6_nodeItem 95 = .ok (.getfield 19, 3) := by decide +kernel
theorem dX6_nodeItem_98 : decode cX6_nodeItem 98 = .ok (.iconst 4, 1) := by decide +kernel
theorem dX6_nodeItem_99 : decode cX6_nodeItem 99 = .ok (.aload_n 0, 1) := by decide +kernel
theorem dX6_nodeItem_100 : decode cX6_nodeItem 100 = .ok (.getfield 77, 3) := by decide +kernel
theorem dX6_nodeItem_103 : decode cX6_nodeItem 103 = .ok (.imul, 1) := by decide +kernel
theorem dX6_nodeItem_104 : decode cX6_nodeItem 104 = .ok (.iload_n 1, 1) := by decide +kernel
theorem dX6_nodeItem_105 : decode cX6_nodeItem 105 = .ok (.iadd, 1) := by decide +kernel
theorem dX6_nodeItem_106 : decode cX6_nodeItem 106 = .ok (.aload_n 0, 1) := by decide +kernel
theorem dX6_nodeItem_107 : decode cX6_nodeItem 107 = .ok (.getfield 107, 3) := by decide +kernel
theorem dX6_nodeItem_110 : decode cX6_nodeItem 110 = .ok (.iastore, 1) := by decide +kernel
theorem dX6_nodeItem_111 : decode cX6_nodeItem 111 = .ok (.iinc 1 1, 3) := by decide +kernel
theorem dX6_nodeItem_114 : decode cX6_nodeItem 114 = .ok (.goto (-57), 3) := by decide +kernel
theorem dX6_nodeItem_117 : decode cX6_nodeItem 117 = .ok (.aload_n 0, 1) := by decide +kernel
theorem dX6_nodeItem_118 : decode cX6_nodeItem 118 = .ok (.getfield 16, 3) := by decide +kernel
theorem dX6_nodeItem_121 : decode cX6_nodeItem 121 = .ok (.aload_n 0, 1) := by decide +kernel
theorem dX6_nodeItem_122 : decode cX6_nodeItem 122 = .ok (.getfield 77, 3) := by decide +kernel
theorem dX6_nodeItem_125 : decode cX6_nodeItem 125 = .ok (.iload_n 1, 1) := by decide +kernel
theorem dX6_nodeItem_126 : decode cX6_nodeItem 126 = .ok (.iastore, 1) := by decide +kernel
theorem dX6_nodeItem_127 : decode cX6_nodeItem 127 = .ok (.aload_n 0, 1) := by decide +kernel
theorem dX6_nodeItem_128 : decode cX6_nodeItem 128 = .ok (.dup, 1) := by decide +kernel
theorem dX6_nodeItem_129 : decode cX6_nodeItem 129 = .ok (.getfield 77, 3) := by decide +kernel
theorem dX6_nodeItem_132 : decode cX6_nodeItem 132 = .ok (.iconst 1, 1) := by decide +kernel
theorem dX6_nodeItem_133 : decode cX6_nodeItem 133 = .ok (.iadd, 1) := by decide +kernel
theorem dX6_nodeItem_134 : decode cX6_nodeItem 134 = .ok (.putfield 77, 3) := by decide +kernel
theorem dX6_nodeItem_137 : decode cX6_nodeItem 137 = .ok (.aload_n 0, 1) := by decide +kernel
theorem dX6_nodeItem_138 : decode cX6_nodeItem 138 = .ok (.dup, 1) := by decide +kernel
theorem dX6_nodeItem_139 : decode cX6_nodeItem 139 = .ok (.getfield 96, 3) := by decide +kernel
theorem dX6_nodeItem_142 : decode cX6_nodeItem 142 = .ok (.iconst 1, 1) := by decide +kernel
theorem dX6_nodeItem_143 : decode cX6_nodeItem 143 = .ok (.iadd, 1) := by decide +kernel
theorem dX6_nodeItem_144 : decode cX6_nodeItem 144 = .ok (.putfield 96, 3) := by decide +kernel
theorem dX6_nodeItem_147 : decode cX6_nodeItem 147 = .ok (.aload_n 0, 1) := by decide +kernel
theorem dX6_nodeItem_148 : decode cX6_nodeItem 148 = .ok (.aload_n 0, 1) := by decide +kernel
theorem dX6_nodeItem_149 : decode cX6_nodeItem 149 = .ok (.getfield 96, 3) := by decide +kernel
theorem dX6_nodeItem_152 : decode cX6_nodeItem 152 = .ok (.iconst 1, 1) := by decide +kernel
theorem dX6_nodeItem_153 : decode cX6_nodeItem 153 = .ok (.isub, 1) := by decide +kernel
theorem dX6_nodeItem_154 : decode cX6_nodeItem 154 = .ok (.invokevirtual 99, 3) := by decide +kernel
theorem dX6_nodeItem_157 : decode cX6_nodeItem 157 = .ok (.bipush 59, 2) := by decide +kernel
theorem dX6_nodeItem_159 : decode cX6_nodeItem 159 = .ok (.if_icmp .ne 7, 3) := by decide +kernel
theorem dX6_nodeItem_162 : decode cX6_nodeItem 162 = .ok (.iconst 1, 1) := by decide +kernel
theorem dX6_nodeItem_163 : decode cX6_nodeItem 163 = .ok (.goto 4, 3) := by decide +kernel
theorem dX6_nodeItem_166 : decode cX6_nodeItem 166 = .ok (.iconst 0, 1) := by decide +kernel
theorem dX6_nodeItem_167 : decode cX6_nodeItem 167 = .ok (.ireturn, 1) := by decide +kernel
theorem dX6_tieItem_0 : decode cX6_tieItem 0 = .ok (.aload_n 0, 1) := by decide +kernel
theorem dX6_tieItem_1 : decode cX6_tieItem 1 = .ok (.invokevirtual 112, 3) := by decide +kernel
theorem dX6_tieItem_4 : decode cX6_tieItem 4 = .ok (.ifCond .eq 16, 3) := by decide +kernel
theorem dX6_tieItem_7 : decode cX6_tieItem 7 = .ok (.aload_n 0, 1) := by decide +kernel
theorem dX6_tieItem_8 : decode cX6_tieItem 8 = .ok (.aload_n 0, 1) := by decide +kernel
theorem dX6_tieItem_9 : decode cX6_tieItem 9 = .ok (.getfield 96, 3) := by decide +kernel
theorem dX6_tieItem_12 : decode cX6_tieItem 12 = .ok (.invokevirtual 99, 3) := by decide +kernel
theorem dX6_tieItem_15 : decode cX6_tieItem 15 = .ok (.bipush 44, 2) := by decide +kernel
theorem dX6_tieItem_17 : decode cX6_tieItem 17 = .ok (.if_icmp .eq 5, 3) := by decide +kernel
theorem dX6_tieItem_20 : decode cX6_tieItem 20 = .ok (.iconst 0, 1) := by decide +kernel
theorem dX6_tieItem_21 : decode cX6_tieItem 21 = .ok (.ireturn, 1) := by decide +kernel
theorem dX6_tieItem_22 : decode cX6_tieItem 22 = .ok (.aload_n 0, 1) := by decide +kernel
theorem dX6_tieItem_23 : decode cX6_tieItem 23 = .ok (.getfield 107, 3) := by decide +kernel
theorem dX6_tieItem_26 : decode cX6_tieItem 26 = .ok (.istore_n 1, 1) := by decide +kernel
theorem dX6_tieItem_27 : decode cX6_tieItem 27 = .ok (.aload_n 0, 1) := by decide +kernel
theorem dX6_tieItem_28 : decode cX6_tieItem 28 = .ok (.dup, 1) := by decide +kernel
theorem dX6_tieItem_29 : decode cX6_tieItem 29 = .ok (.getfield 96, 3) := by decide +kernel
theorem dX6_tieItem_32 : decode cX6_tieItem 32 = .ok (.iconst 1, 1) := by decide +kernel
theorem dX6_tieItem_33 : decode cX6_tieItem 33 = .ok (.iadd, 1) := by decide +kernel
theorem dX6_tieItem_34 : decode cX6_tieItem 34 = .ok (.putfield 96, 3) := by decide +kernel
theorem dX6_tieItem_37 : decode cX6_tieItem 37 = .ok (.aload_n 0, 1) := by decide +kernel
theorem dX6_tieItem_38 : decode cX6_tieItem 38 = .ok (.invokevirtual 112, 3) := by decide +kernel
theorem dX6_tieItem_41 : decode cX6_tieItem 41 = .ok (.ifCond .eq 16, 3) := by decide +kernel
theorem dX6_tieItem_44 : decode cX6_tieItem 44 = .ok (.aload_n 0, 1) := by decide +kernel
theorem dX6_tieItem_45 : decode cX6_tieItem 45 = .ok (.aload_n 0, 1) := by decide +kernel
theorem dX6_tieItem_46 : decode cX6_tieItem 46 = .ok (.getfield 96, 3) := by decide +kernel
theorem dX6_tieItem_49 : decode cX6_tieItem 49 = .ok (.invokevirtual 99, 3) := by decide +kernel
theorem dX6_tieItem_52 : decode cX6_tieItem 52 = .ok (.bipush 44, 2) := by decide +kernel
theorem dX6_tieItem_54 : decode cX6_tieItem 54 = .ok (.if_icmp .eq 5, 3) := by decide +kernel
theorem dX6_tieItem_57 : decode cX6_tieItem 57 = .ok (.iconst 0, 1) := by decide +kernel
theorem dX6_tieItem_58 : decode cX6_tieItem 58 = .ok (.ireturn, 1) := by decide +kernel
theorem dX6_tieItem_59 : decode cX6_tieItem 59 = .ok (.aload_n 0, 1) := by decide +kernel
theorem dX6_tieItem_60 : decode cX6_tieItem 60 = .ok (.getfield 107, 3) := by decide +kernel
theorem dX6_tieItem_63 : decode cX6_tieItem 63 = .ok (.istore_n 2, 1) := by decide +kernel
theorem dX6_tieItem_64 : decode cX6_tieItem 64 = .ok (.aload_n 0, 1) := by decide +kernel
theorem dX6_tieItem_65 : decode cX6_tieItem 65 = .ok (.dup, 1) := by decide +kernel
theorem dX6_tieItem_66 : decode cX6_tieItem 66 = .ok (.getfield 96, 3) := by decide +kernel
theorem dX6_tieItem_69 : decode cX6_tieItem 69 = .ok (.iconst 1, 1) := by decide +kernel
theorem dX6_tieItem_70 : decode cX6_tieItem 70 = .ok (.iadd, 1) := by decide +kernel
theorem dX6_tieItem_71 : decode cX6_tieItem 71 = .ok (.putfield 96, 3) := by decide +kernel
theorem dX6_tieItem_74 : decode cX6_tieItem 74 = .ok (.iload_n 1, 1) := by decide +kernel
theorem dX6_tieItem_75 : decode cX6_tieItem 75 = .ok (.iload_n 2, 1) := by decide +kernel
theorem dX6_tieItem_76 : decode cX6_tieItem 76 = .ok (.if_icmp .ge 38, 3) := by decide +kernel
theorem dX6_tieItem_79 : decode cX6_tieItem 79 = .ok (.iload_n 2, 1) := by decide +kernel
theorem dX6_tieItem_80 : decode cX6_tieItem 80 = .ok (.aload_n 0, 1) := by decide +kernel
theorem dX6_tieItem_81 : decode cX6_tieItem 81 = .ok (.getfield 77, 3) := by decide +kernel
theorem dX6_tieItem_84 : decode cX6_tieItem 84 = .ok (.if_icmp .ge 30, 3) := by decide +kernel
theorem dX6_tieItem_87 : decode cX6_tieItem 87 = .ok (.aload_n 0, 1) := by decide +kernel
theorem dX6_tieItem_88 : decode cX6_tieItem 88 = .ok (.getfield 19, 3) := by decide +kernel
theorem dX6_tieItem_91 : decode cX6_tieItem 91 = .ok (.iload_n 1, 1) := by decide +kernel
theorem dX6_tieItem_92 : decode cX6_tieItem 92 = .ok (.iload_n 2, 1) := by decide +kernel
theorem dX6_tieItem_93 : decode cX6_tieItem 93 = .ok (.iconst 0, 1) := by decide +kernel
theorem dX6_tieItem_94 : decode cX6_tieItem 94 = .ok (.iconst 0, 1) := by decide +kernel
theorem dX6_tieItem_95 : decode cX6_tieItem 95 = .ok (.invokestatic 81, 3) := by decide +kernel
theorem dX6_tieItem_98 : decode cX6_tieItem 98 = .ok (.iaload, 1) := by decide +kernel
theorem dX6_tieItem_99 : decode cX6_tieItem 99 = .ok (.ifCond .gt 15, 3) := by decide +kernel
theorem dX6_tieItem_102 : decode cX6_tieItem 102 = .ok (.aload_n 0, 1) := by decide +kernel
theorem dX6_tieItem_103 : decode cX6_tieItem 103 = .ok (.getfield 19, 3) := by decide +kernel
theorem dX6_tieItem_106 : decode cX6_tieItem 106 = .ok (.invokestatic 116, 3) := by decide +kernel
theorem dX6_tieItem_109 : decode cX6_tieItem 109 = .ok (.bipush 12, 2) := by decide +kernel
theorem dX6_tieItem_111 : decode cX6_tieItem 111 = .ok (.if_icmp .ne 5, 3) := by decide +kernel
theorem dX6_tieItem_114 : decode cX6_tieItem 114 = .ok (.iconst 0, 1) := by decide +kernel
theorem dX6_tieItem_115 : decode cX6_tieItem 115 = .ok (.ireturn, 1) := by decide +kernel
theorem dX6_tieItem_116 : decode cX6_tieItem 116 = .ok (.iconst 0, 1) := by decide +kernel
theorem dX6_tieItem_117 : decode cX6_tieItem 117 = .ok (.istore_n 3, 1) := by decide +kernel
theorem dX6_tieItem_118 : decode cX6_tieItem 118 = .ok (.iload_n 3, 1) := by decide +kernel
theorem dX6_tieItem_119 : decode cX6_tieItem 119 = .ok (.aload_n 0, 1) := by decide +kernel
theorem dX6_tieItem_120 : decode cX6_tieItem 120 = .ok (.getfield 16, 3) := by decide +kernel
theorem dX6_tieItem_123 : decode cX6_tieItem 123 = .ok (.iload_n 1, 1) := by decide +kernel
theorem dX6_tieItem_124 : decode cX6_tieItem 124 = .ok (.iaload, 1) := by decide +kernel
theorem dX6_tieItem_125 : decode cX6_tieItem 125 = .ok (.aload_n 0, 1) := by decide +kernel
theorem dX6_tieItem_126 : decode cX6_tieItem 126 = .ok (.getfield 16, 3) := by decide +kernel
theorem dX6_tieItem_129 : decode cX6_tieItem 129 = .ok (.iload_n 2, 1) := by decide +kernel
theorem dX6_tieItem_130 : decode cX6_tieItem 130 = .ok (.iaload, 1) := by decide +kernel
theorem dX6_tieItem_131 : decode cX6_tieItem 131 = .ok (.imul, 1) := by decide +kernel
theorem dX6_tieItem_132 : decode cX6_tieItem 132 = .ok (.if_icmp .ge 77, 3) := by decide +kernel
theorem dX6_tieItem_135 : decode cX6_tieItem 135 = .ok (.aload_n 0, 1) := by decide +kernel
theorem dX6_tieItem_136 : decode cX6_tieItem 136 = .ok (.aload_n 0, 1) := by decide +kernel
theorem dX6_tieItem_137 : decode cX6_tieItem 137 = .ok (.getfield 96, 3) := by decide +kernel
theorem dX6_tieItem_140 : decode cX6_tieItem 140 = .ok (.invokevirtual 99, 3) := by decide +kernel
theorem dX6_tieItem_143 : decode cX6_tieItem 143 = .ok (.bipush 48, 2) := by decide +kernel
theorem dX6_tieItem_145 : decode cX6_tieItem 145 = .ok (.isub, 1) := by decide +kernel
theorem dX6_tieItem_146 : decode cX6_tieItem 146 = .ok (.istore 4, 2) := by decide +kernel
theorem dX6_tieItem_148 : decode cX6_tieItem 148 = .ok (.iload 4, 2) := by decide +kernel
theorem dX6_tieItem_150 : decode cX6_tieItem 150 = .ok (.i2l, 1) := by decide +kernel
theorem dX6_tieItem_151 : decode cX6_tieItem 151 = .ok (.lconst 0, 1) := by decide +kernel
theorem dX6_tieItem_152 : decode cX6_tieItem 152 = .ok (.ldc2_w 120, 3) := by decide +kernel
theorem dX6_tieItem_155 : decode cX6_tieItem 155 = .ok (.invokestatic 89, 3) := by decide +kernel
theorem dX6_tieItem_158 : decode cX6_tieItem 158 = .ok (.ifCond .ne 5, 3) := by decide +kernel
theorem dX6_tieItem_161 : decode cX6_tieItem 161 = .ok (.iconst 0, 1) := by decide +kernel
theorem dX6_tieItem_162 : decode cX6_tieItem 162 = .ok (.ireturn, 1) := by decide +kernel
theorem dX6_tieItem_163 : decode cX6_tieItem 163 = .ok (.aload_n 0, 1) := by decide +kernel
theorem dX6_tieItem_164 : decode cX6_tieItem 164 = .ok (.getfield 19, 3) := by decide +kernel
theorem dX6_tieItem_167 : decode cX6_tieItem 167 = .ok (.iload_n 1, 1) := by decide +kernel
theorem dX6_tieItem_168 : decode cX6_tieItem 168 = .ok (.iload_n 2, 1) := by decide +kernel
theorem dX6_tieItem_169 : decode cX6_tieItem 169 = .ok (.iload_n 3, 1) := by decide +kernel
theorem dX6_tieItem_170 : decode cX6_tieItem 170 = .ok (.aload_n 0, 1) := by decide +kernel
theorem dX6_tieItem_171 : decode cX6_tieItem 171 = .ok (.getfield 16, 3) := by decide +kernel
theorem dX6_tieItem_174 : decode cX6_tieItem 174 = .ok (.iload_n 2, 1) := by decide +kernel
theorem dX6_tieItem_175 : decode cX6_tieItem 175 = .ok (.iaload, 1) := by decide +kernel
theorem dX6_tieItem_176 : decode cX6_tieItem 176 = .ok (.idiv, 1) := by decide +kernel
theorem dX6_tieItem_177 : decode cX6_tieItem 177 = .ok (.iload_n 3, 1) := by decide +kernel
theorem dX6_tieItem_178 : decode cX6_tieItem 178 = .ok (.aload_n 0, 1) := by decide +kernel
theorem dX6_tieItem_179 : decode cX6_tieItem 179 = .ok (.getfield 16, 3) := by decide +kernel
theorem dX6_tieItem_182 : decode cX6_tieItem 182 = .ok (.iload_n 2, 1) := by decide +kernel
theorem dX6_tieItem_183 : decode cX6_tieItem 183 = .ok (.iaload, 1) := by decide +kernel
theorem dX6_tieItem_184 : decode cX6_tieItem 184 = .ok (.irem, 1) := by decide +kernel
theorem dX6_tieItem_185 : decode cX6_tieItem 185 = .ok (.invokestatic 81, 3) := by decide +kernel
theorem dX6_tieItem_188 : decode cX6_tieItem 188 = .ok (.iconst 1, 1) := by decide +kernel
theorem dX6_tieItem_189 : decode cX6_tieItem 189 = .ok (.iload 4, 2) := by decide +kernel
theorem dX6_tieItem_191 : decode cX6_tieItem 191 = .ok (.iadd, 1) := by decide +kernel
theorem dX6_tieItem_192 : decode cX6_tieItem 192 = .ok (.iastore, 1) := by decide +kernel
theorem dX6_tieItem_193 : decode cX6_tieItem 193 = .ok (.aload_n 0, 1) := by decide +kernel
theorem dX6_tieItem_194 : decode cX6_tieItem 194 = .ok (.dup, 1) := by decide +kernel
theorem dX6_tieItem_195 : decode cX6_tieItem 195 = .ok (.getfield 96, 3) := by decide +kernel
theorem dX6_tieItem_198 : decode cX6_tieItem 198 = .ok (.iconst 1, 1) := by decide +kernel
theorem dX6_tieItem_199 : decode cX6_tieItem 199 = .ok (.iadd, 1) := by decide +kernel
theorem dX6_tieItem_200 : decode cX6_tieItem 200 = .ok (.putfield 96, 3) := by decide +kernel
theorem dX6_tieItem_203 : decode cX6_tieItem 203 = .ok (.iinc 3 1, 3) := by decide +kernel
theorem dX6_tieItem_206 : decode cX6_tieItem 206 = .ok (.goto (-88), 3) := by decide +kernel
theorem dX6_tieItem_209 : decode cX6_tieItem 209 = .ok (.aload_n 0, 1) := by decide +kernel
theorem dX6_tieItem_210 : decode cX6_tieItem 210 = .ok (.dup, 1) := by decide +kernel
theorem dX6_tieItem_211 : decode cX6_tieItem 211 = .ok (.getfield 96, 3) := by decide +kernel
theorem dX6_tieItem_214 : decode cX6_tieItem 214 = .ok (.iconst 1, 1) := by decide +kernel
theorem dX6_tieItem_215 : decode cX6_tieItem 215 = .ok (.iadd, 1) := by decide +kernel
theorem dX6_tieItem_216 : decode cX6_tieItem 216 = .ok (.putfield 96, 3) := by decide +kernel
theorem dX6_tieItem_219 : decode cX6_tieItem 219 = .ok (.aload_n 0, 1) := by decide +kernel
theorem dX6_tieItem_220 : decode cX6_tieItem 220 = .ok (.aload_n 0, 1) := by decide +kernel
theorem dX6_tieItem_221 : decode cX6_tieItem 221 = .ok (.getfield 96, 3) := by decide +kernel
theorem dX6_tieItem_224 : decode cX6_tieItem 224 = .ok (.iconst 1, 1) := by decide +kernel
theorem dX6_tieItem_225 : decode cX6_tieItem 225 = .ok (.isub, 1) := by decide +kernel
theorem dX6_tieItem_226 : decode cX6_tieItem 226 = .ok (.invokevirtual 99, 3) := by decide +kernel
theorem dX6_tieItem_229 : decode cX6_tieItem 229 = .ok (.bipush 59, 2) := by decide +kernel
theorem dX6_tieItem_231 : decode cX6_tieItem 231 = .ok (.if_icmp .ne 7, 3) := by decide +kernel
theorem dX6_tieItem_234 : decode cX6_tieItem 234 = .ok (.iconst 1, 1) := by decide +kernel
theorem dX6_tieItem_235 : decode cX6_tieItem 235 = .ok (.goto 4, 3) := by decide +kernel
theorem dX6_tieItem_238 : decode cX6_tieItem 238 = .ok (.iconst 0, 1) := by decide +kernel
theorem dX6_tieItem_239 : decode cX6_tieItem 239 = .ok (.ireturn, 1) := by decide +kernel
theorem dX6_tiesIn_0 : decode cX6_tiesIn 0 = .ok (.iconst 0, 1) := by decide +kernel
theorem dX6_tiesIn_1 : decode cX6_tiesIn 1 = .ok (.istore_n 1, 1) := by decide +kernel
theorem dX6_tiesIn_2 : decode cX6_tiesIn 2 = .ok (.iconst 0, 1) := by decide +kernel
theorem dX6_tiesIn_3 : decode cX6_tiesIn 3 = .ok (.istore_n 2, 1) := by decide +kernel
theorem dX6_tiesIn_4 : decode cX6_tiesIn 4 = .ok (.iload_n 2, 1) := by decide +kernel
theorem dX6_tiesIn_5 : decode cX6_tiesIn 5 = .ok (.bipush 28, 2) := by decide +kernel
theorem dX6_tiesIn_7 : decode cX6_tiesIn 7 = .ok (.if_icmp .ge 29, 3) := by decide +kernel
theorem dX6_tiesIn_10 : decode cX6_tiesIn 10 = .ok (.iload_n 1, 1) := by decide +kernel
theorem dX6_tiesIn_11 : decode cX6_tiesIn 11 = .ok (.aload_n 0, 1) := by decide +kernel
theorem dX6_tiesIn_12 : decode cX6_tiesIn 12 = .ok (.bipush 52, 2) := by decide +kernel
theorem dX6_tiesIn_14 : decode cX6_tiesIn 14 = .ok (.bipush 16, 2) := by decide +kernel
theorem dX6_tiesIn_16 : decode cX6_tiesIn 16 = .ok (.iload_n 2, 1) := by decide +kernel
theorem dX6_tiesIn_17 : decode cX6_tiesIn 17 = .ok (.imul, 1) := by decide +kernel
theorem dX6_tiesIn_18 : decode cX6_tiesIn 18 = .ok (.iadd, 1) := by decide +kernel
theorem dX6_tiesIn_19 : decode cX6_tiesIn 19 = .ok (.iaload, 1) := by decide +kernel
theorem dX6_tiesIn_20 : decode cX6_tiesIn 20 = .ok (.ifCond .le 7, 3) := by decide +kernel
theorem dX6_tiesIn_23 : decode cX6_tiesIn 23 = .ok (.iconst 1, 1) := by decide +kernel
theorem dX6_tiesIn_24 : decode cX6_tiesIn 24 = .ok (.goto 4, 3) := by decide +kernel
theorem dX6_tiesIn_27 : decode cX6_tiesIn 27 = .ok (.iconst 0, 1) := by decide +kernel
theorem dX6_tiesIn_28 : decode cX6_tiesIn 28 = .ok (.iadd, 1) := by decide +kernel
theorem dX6_tiesIn_29 : decode cX6_tiesIn 29 = .ok (.istore_n 1, 1) := by decide +kernel
theorem dX6_tiesIn_30 : decode cX6_tiesIn 30 = .ok (.iinc 2 1, 3) := by decide +kernel
theorem dX6_tiesIn_33 : decode cX6_tiesIn 33 = .ok (.goto (-29), 3) := by decide +kernel
theorem dX6_tiesIn_36 : decode cX6_tiesIn 36 = .ok (.iload_n 1, 1) := by decide +kernel
theorem dX6_tiesIn_37 : decode cX6_tiesIn 37 = .ok (.ireturn, 1) := by decide +kernel
theorem dX6_readAll_0 : decode cX6_readAll 0 = .ok (.aload_n 0, 1) := by decide +kernel
theorem dX6_readAll_1 : decode cX6_readAll 1 = .ok (.invokevirtual 61, 3) := by decide +kernel
theorem dX6_readAll_4 : decode cX6_readAll 4 = .ok (.aload_n 0, 1) := by decide +kernel
theorem dX6_readAll_5 : decode cX6_readAll 5 = .ok (.iconst 0, 1) := by decide +kernel
theorem dX6_readAll_6 : decode cX6_readAll 6 = .ok (.putfield 96, 3) := by decide +kernel
theorem dX6_readAll_9 : decode cX6_readAll 9 = .ok (.aload_n 0, 1) := by decide +kernel
theorem dX6_readAll_10 : decode cX6_readAll 10 = .ok (.getfield 96, 3) := by decide +kernel
theorem dX6_readAll_13 : decode cX6_readAll 13 = .ok (.aload_n 0, 1) := by decide +kernel
theorem dX6_readAll_14 : decode cX6_readAll 14 = .ok (.getfield 93, 3) := by decide +kernel
theorem dX6_readAll_17 : decode cX6_readAll 17 = .ok (.if_icmp .ge 61, 3) := by decide +kernel
theorem dX6_readAll_20 : decode cX6_readAll 20 = .ok (.aload_n 0, 1) := by decide +kernel
theorem dX6_readAll_21 : decode cX6_readAll 21 = .ok (.getfield 96, 3) := by decide +kernel
theorem dX6_readAll_24 : decode cX6_readAll 24 = .ok (.istore_n 1, 1) := by decide +kernel
theorem dX6_readAll_25 : decode cX6_readAll 25 = .ok (.aload_n 0, 1) := by decide +kernel
theorem dX6_readAll_26 : decode cX6_readAll 26 = .ok (.aload_n 0, 1) := by decide +kernel
theorem dX6_readAll_27 : decode cX6_readAll 27 = .ok (.getfield 96, 3) := by decide +kernel
theorem dX6_readAll_30 : decode cX6_readAll 30 = .ok (.invokevirtual 99, 3) := by decide +kernel
theorem dX6_readAll_33 : decode cX6_readAll 33 = .ok (.istore_n 2, 1) := by decide +kernel
theorem dX6_readAll_34 : decode cX6_readAll 34 = .ok (.aload_n 0, 1) := by decide +kernel
theorem dX6_readAll_35 : decode cX6_readAll 35 = .ok (.dup, 1) := by decide +kernel
theorem dX6_readAll_36 : decode cX6_readAll 36 = .ok (.getfield 96, 3) := by decide +kernel
theorem dX6_readAll_39 : decode cX6_readAll 39 = .ok (.iconst 1, 1) := by decide +kernel
theorem dX6_readAll_40 : decode cX6_readAll 40 = .ok (.iadd, 1) := by decide +kernel
theorem dX6_readAll_41 : decode cX6_readAll 41 = .ok (.putfield 96, 3) := by decide +kernel
theorem dX6_readAll_44 : decode cX6_readAll 44 = .ok (.iload_n 2, 1) := by decide +kernel
theorem dX6_readAll_45 : decode cX6_readAll 45 = .ok (.bipush 110, 2) := by decide +kernel
theorem dX6_readAll_47 : decode cX6_readAll 47 = .ok (.if_icmp .ne 13, 3) := by decide +kernel
theorem dX6_readAll_50 : decode cX6_readAll 50 = .ok (.aload_n 0, 1) := by decide +kernel
theorem dX6_readAll_51 : decode cX6_readAll 51 = .ok (.invokevirtual 122, 3) := by decide +kernel
theorem dX6_readAll_54 : decode cX6_readAll 54 = .ok (.ifCond .ne 21, 3) := by decide +kernel
theorem dX6_readAll_57 : decode cX6_readAll 57 = .ok (.goto 16, 3) := by decide +kernel
theorem dX6_readAll_60 : decode cX6_readAll 60 = .ok (.iload_n 2, 1) := by decide +kernel
theorem dX6_readAll_61 : decode cX6_readAll 61 = .ok (.bipush 101, 2) := by decide +kernel
theorem dX6_readAll_63 : decode cX6_readAll 63 = .ok (.if_icmp .ne 10, 3) := by decide +kernel
theorem dX6_readAll_66 : decode cX6_readAll 66 = .ok (.aload_n 0, 1) := by decide +kernel
theorem dX6_readAll_67 : decode cX6_readAll 67 = .ok (.invokevirtual 125, 3) := by decide +kernel
theorem dX6_readAll_70 : decode cX6_readAll 70 = .ok (.ifCond .ne 5, 3) := by decide +kernel
theorem dX6_readAll_73 : decode cX6_readAll 73 = .ok (.iload_n 1, 1) := by decide +kernel
theorem dX6_readAll_74 : decode cX6_readAll 74 = .ok (.ireturn, 1) := by decide +kernel
theorem dX6_readAll_75 : decode cX6_readAll 75 = .ok (.goto (-66), 3) := by decide +kernel
theorem dX6_readAll_78 : decode cX6_readAll 78 = .ok (.bipush (-4), 2) := by decide +kernel
theorem dX6_readAll_80 : decode cX6_readAll 80 = .ok (.ireturn, 1) := by decide +kernel
theorem dX6_fault_0 : decode cX6_fault 0 = .ok (.aload_n 0, 1) := by decide +kernel
theorem dX6_fault_1 : decode cX6_fault 1 = .ok (.invokevirtual 128, 3) := by decide +kernel
theorem dX6_fault_4 : decode cX6_fault 4 = .ok (.ireturn, 1) := by decide +kernel
theorem dX6_lay_0 : decode cX6_lay 0 = .ok (.aload_n 0, 1) := by decide +kernel
theorem dX6_lay_1 : decode cX6_lay 1 = .ok (.invokevirtual 128, 3) := by decide +kernel
theorem dX6_lay_4 : decode cX6_lay 4 = .ok (.bipush (-4), 2) := by decide +kernel
theorem dX6_lay_6 : decode cX6_lay 6 = .ok (.if_icmp .ne 10, 3) := by decide +kernel
theorem dX6_lay_9 : decode cX6_lay 9 = .ok (.aload_n 0, 1) := by decide +kernel
theorem dX6_lay_10 : decode cX6_lay 10 = .ok (.getfield 77, 3) := by decide +kernel
theorem dX6_lay_13 : decode cX6_lay 13 = .ok (.ifCond .ne 6, 3) := by decide +kernel
theorem dX6_lay_16 : decode cX6_lay 16 = .ok (.bipush (-2), 2) := by decide +kernel
theorem dX6_lay_18 : decode cX6_lay 18 = .ok (.ireturn, 1) := by decide +kernel
theorem dX6_lay_19 : decode cX6_lay 19 = .ok (.aload_n 0, 1) := by decide +kernel
theorem dX6_lay_20 : decode cX6_lay 20 = .ok (.invokevirtual 74, 3) := by decide +kernel
theorem dX6_lay_23 : decode cX6_lay 23 = .ok (.aload_n 0, 1) := by decide +kernel
theorem dX6_lay_24 : decode cX6_lay 24 = .ok (.getfield 132, 3) := by decide +kernel
theorem dX6_lay_27 : decode cX6_lay 27 = .ok (.ireturn, 1) := by decide +kernel
theorem dX6_begin_0 : decode cX6_begin 0 = .ok (.aload_n 0, 1) := by decide +kernel
theorem dX6_begin_1 : decode cX6_begin 1 = .ok (.aload_n 0, 1) := by decide +kernel
theorem dX6_begin_2 : decode cX6_begin 2 = .ok (.getfield 77, 3) := by decide +kernel
theorem dX6_begin_5 : decode cX6_begin 5 = .ok (.putfield 132, 3) := by decide +kernel
theorem dX6_begin_8 : decode cX6_begin 8 = .ok (.iconst 0, 1) := by decide +kernel
theorem dX6_begin_9 : decode cX6_begin 9 = .ok (.istore_n 1, 1) := by decide +kernel
theorem dX6_begin_10 : decode cX6_begin 10 = .ok (.iload_n 1, 1) := by decide +kernel
theorem dX6_begin_11 : decode cX6_begin 11 = .ok (.bipush 8, 2) := by decide +kernel
theorem dX6_begin_13 : decode cX6_begin 13 = .ok (.if_icmp .ge 21, 3) := by decide +kernel
theorem dX6_begin_16 : decode cX6_begin 16 = .ok (.aload_n 0, 1) := by decide +kernel
theorem dX6_begin_17 : decode cX6_begin 17 = .ok (.getfield 13, 3) := by decide +kernel
theorem dX6_begin_20 : decode cX6_begin 20 = .ok (.iload_n 1, 1) := by decide +kernel
theorem dX6_begin_21 : decode cX6_begin 21 = .ok (.aload_n 0, 1) := by decide +kernel
theorem dX6_begin_22 : decode cX6_begin 22 = .ok (.getfield 16, 3) := by decide +kernel
theorem dX6_begin_25 : decode cX6_begin 25 = .ok (.iload_n 1, 1) := by decide +kernel
theorem dX6_begin_26 : decode cX6_begin 26 = .ok (.iaload, 1) := by decide +kernel
theorem dX6_begin_27 : decode cX6_begin 27 = .ok (.iastore, 1) := by decide +kernel
theorem dX6_begin_28 : decode cX6_begin 28 = .ok (.iinc 1 1, 3) := by decide +kernel
theorem dX6_begin_31 : decode cX6_begin 31 = .ok (.goto (-21), 3) := by decide +kernel
theorem dX6_begin_34 : decode cX6_begin 34 = .ok (.iconst 0, 1) := by decide +kernel
theorem dX6_begin_35 : decode cX6_begin 35 = .ok (.istore_n 1, 1) := by decide +kernel
theorem dX6_begin_36 : decode cX6_begin 36 = .ok (.iload_n 1, 1) := by decide +kernel
theorem dX6_begin_37 : decode cX6_begin 37 = .ok (.sipush 500, 3) := by decide +kernel
theorem dX6_begin_40 : decode cX6_begin 40 = .ok (.if_icmp .ge 21, 3) := by decide +kernel
theorem dX6_begin_43 : decode cX6_begin 43 = .ok (.aload_n 0, 1) := by decide +kernel
theorem dX6_begin_44 : decode cX6_begin 44 = .ok (.getfield 22, 3) := by decide +kernel
theorem dX6_begin_47 : decode cX6_begin 47 = .ok (.iload_n 1, 1) := by decide +kernel
theorem dX6_begin_48 : decode cX6_begin 48 = .ok (.aload_n 0, 1) := by decide +kernel
theorem dX6_begin_49 : decode cX6_begin 49 = .ok (.getfield 19, 3) := by decide +kernel
theorem dX6_begin_52 : decode cX6_begin 52 = .ok (.iload_n 1, 1) := by decide +kernel
theorem dX6_begin_53 : decode cX6_begin 53 = .ok (.iaload, 1) := by decide +kernel
theorem dX6_begin_54 : decode cX6_begin 54 = .ok (.iastore, 1) := by decide +kernel
theorem dX6_begin_55 : decode cX6_begin 55 = .ok (.iinc 1 1, 3) := by decide +kernel
theorem dX6_begin_58 : decode cX6_begin 58 = .ok (.goto (-22), 3) := by decide +kernel
theorem dX6_begin_61 : decode cX6_begin 61 = .ok (.aload_n 0, 1) := by decide +kernel
theorem dX6_begin_62 : decode cX6_begin 62 = .ok (.iconst 0, 1) := by decide +kernel
theorem dX6_begin_63 : decode cX6_begin 63 = .ok (.putfield 135, 3) := by decide +kernel
theorem dX6_begin_66 : decode cX6_begin 66 = .ok (.aload_n 0, 1) := by decide +kernel
theorem dX6_begin_67 : decode cX6_begin 67 = .ok (.iconst 0, 1) := by decide +kernel
theorem dX6_begin_68 : decode cX6_begin 68 = .ok (.putfield 138, 3) := by decide +kernel
theorem dX6_begin_71 : decode cX6_begin 71 = .ok (.return_, 1) := by decide +kernel
theorem dX6_isNode_0 : decode cX6_isNode 0 = .ok (.iload_n 1, 1) := by decide +kernel
theorem dX6_isNode_1 : decode cX6_isNode 1 = .ok (.i2l, 1) := by decide +kernel
theorem dX6_isNode_2 : decode cX6_isNode 2 = .ok (.lconst 0, 1) := by decide +kernel
theorem dX6_isNode_3 : decode cX6_isNode 3 = .ok (.aload_n 0, 1) := by decide +kernel
theorem dX6_isNode_4 : decode cX6_isNode 4 = .ok (.getfield 132, 3) := by decide +kernel
theorem dX6_isNode_7 : decode cX6_isNode 7 = .ok (.iconst 1, 1) := by decide +kernel
theorem dX6_isNode_8 : decode cX6_isNode 8 = .ok (.isub, 1) := by decide +kernel
theorem dX6_isNode_9 : decode cX6_isNode 9 = .ok (.i2l, 1) := by decide +kernel
theorem dX6_isNode_10 : decode cX6_isNode 10 = .ok (.invokestatic 89, 3) := by decide +kernel
theorem dX6_isNode_13 : decode cX6_isNode 13 = .ok (.ireturn, 1) := by decide +kernel
theorem dX6_isChoice_0 : decode cX6_isChoice 0 = .ok (.aload_n 0, 1) := by decide +kernel
theorem dX6_isChoice_1 : decode cX6_isChoice 1 = .ok (.iload_n 1, 1) := by decide +kernel
theorem dX6_isChoice_2 : decode cX6_isChoice 2 = .ok (.invokevirtual 141, 3) := by decide +kernel
theorem dX6_isChoice_5 : decode cX6_isChoice 5 = .ok (.ifCond .eq 25, 3) := by decide +kernel
theorem dX6_isChoice_8 : decode cX6_isChoice 8 = .ok (.iload_n 2, 1) := by decide +kernel
theorem dX6_isChoice_9 : decode cX6_isChoice 9 = .ok (.i2l, 1) := by decide +kernel
theorem dX6_isChoice_10 : decode cX6_isChoice 10 = .ok (.lconst 0, 1) := by decide +kernel
theorem dX6_isChoice_11 : decode cX6_isChoice 11 = .ok (.aload_n 0, 1) := by decide +kernel
theorem dX6_isChoice_12 : decode cX6_isChoice 12 = .ok (.getfield 13, 3) := by decide +kernel
theorem dX6_isChoice_15 : decode cX6_isChoice 15 = .ok (.iload_n 1, 1) := by decide +kernel
theorem dX6_isChoice_16 : decode cX6_isChoice 16 = .ok (.iaload, 1) := by decide +kernel
theorem dX6_isChoice_17 : decode cX6_isChoice 17 = .ok (.iconst 1, 1) := by decide +kernel
theorem dX6_isChoice_18 : decode cX6_isChoice 18 = .ok (.isub, 1) := by decide +kernel
theorem dX6_isChoice_19 : decode cX6_isChoice 19 = .ok (.i2l, 1) := by decide +kernel
theorem dX6_isChoice_20 : decode cX6_isChoice 20 = .ok (.invokestatic 89, 3) := by decide +kernel
theorem dX6_isChoice_23 : decode cX6_isChoice 23 = .ok (.ifCond .eq 7, 3) := by decide +kernel
theorem dX6_isChoice_26 : decode cX6_isChoice 26 = .ok (.iconst 1, 1) := by decide +kernel
theorem dX6_isChoice_27 : decode cX6_isChoice 27 = .ok (.goto 4, 3) := by decide +kernel
theorem dX6_isChoice_30 : decode cX6_isChoice 30 = .ok (.iconst 0, 1) := by decide +kernel
theorem dX6_isChoice_31 : decode cX6_isChoice 31 = .ok (.ireturn, 1) := by decide +kernel
theorem dX6_isPair_0 : decode cX6_isPair 0 = .ok (.aload_n 0, 1) := by decide +kernel
theorem dX6_isPair_1 : decode cX6_isPair 1 = .ok (.iload_n 1, 1) := by decide +kernel
theorem dX6_isPair_2 : decode cX6_isPair 2 = .ok (.invokevirtual 141, 3) := by decide +kernel
theorem dX6_isPair_5 : decode cX6_isPair 5 = .ok (.ifCond .eq 20, 3) := by decide +kernel
theorem dX6_isPair_8 : decode cX6_isPair 8 = .ok (.aload_n 0, 1) := by decide +kernel
theorem dX6_isPair_9 : decode cX6_isPair 9 = .ok (.iload_n 2, 1) := by decide +kernel
theorem dX6_isPair_10 : decode cX6_isPair 10 = .ok (.invokevirtual 141, 3) := by decide +kernel
theorem dX6_isPair_13 : decode cX6_isPair 13 = .ok (.ifCond .eq 12, 3) := by decide +kernel
theorem dX6_isPair_16 : decode cX6_isPair 16 = .ok (.iload_n 1, 1) := by decide +kernel
theorem dX6_isPair_17 : decode cX6_isPair 17 = .ok (.iload_n 2, 1) := by decide +kernel
theorem dX6_isPair_18 : decode cX6_isPair 18 = .ok (.if_icmp .eq 7, 3) := by decide +kernel
theorem dX6_isPair_21 : decode cX6_isPair 21 = .ok (.iconst 1, 1) := by decide +kernel
theorem dX6_isPair_22 : decode cX6_isPair 22 = .ok (.goto 4, 3) := by decide +kernel
theorem dX6_isPair_25 : decode cX6_isPair 25 = .ok (.iconst 0, 1) := by decide +kernel
theorem dX6_isPair_26 : decode cX6_isPair 26 = .ok (.ireturn, 1) := by decide +kernel
theorem dX6_isTied_0 : decode cX6_isTied 0 = .ok (.iload_n 1, 1) := by decide +kernel
theorem dX6_isTied_1 : decode cX6_isTied 1 = .ok (.iload_n 2, 1) := by decide +kernel
theorem dX6_isTied_2 : decode cX6_isTied 2 = .ok (.if_icmp .eq 22, 3) := by decide +kernel
theorem dX6_isTied_5 : decode cX6_isTied 5 = .ok (.aload_n 0, 1) := by decide +kernel
theorem dX6_isTied_6 : decode cX6_isTied 6 = .ok (.getfield 22, 3) := by decide +kernel
theorem dX6_isTied_9 : decode cX6_isTied 9 = .ok (.iload_n 1, 1) := by decide +kernel
theorem dX6_isTied_10 : decode cX6_isTied 10 = .ok (.iload_n 2, 1) := by decide +kernel
theorem dX6_isTied_11 : decode cX6_isTied 11 = .ok (.iconst 0, 1) := by decide +kernel
theorem dX6_isTied_12 : decode cX6_isTied 12 = .ok (.iconst 0, 1) := by decide +kernel
theorem dX6_isTied_13 : decode cX6_isTied 13 = .ok (.invokestatic 81, 3) := by decide +kernel
theorem dX6_isTied_16 : decode cX6_isTied 16 = .ok (.iaload, 1) := by decide +kernel
theorem dX6_isTied_17 : decode cX6_isTied 17 = .ok (.ifCond .le 7, 3) := by decide +kernel
theorem dX6_isTied_20 : decode cX6_isTied 20 = .ok (.iconst 1, 1) := by decide +kernel
theorem dX6_isTied_21 : decode cX6_isTied 21 = .ok (.goto 4, 3) := by decide +kernel
theorem dX6_isTied_24 : decode cX6_isTied 24 = .ok (.iconst 0, 1) := by decide +kernel
theorem dX6_isTied_25 : decode cX6_isTied 25 = .ok (.ireturn, 1) := by decide +kernel
theorem dX6_atMost_0 : decode cX6_atMost 0 = .ok (.iload_n 0, 1) := by decide +kernel
theorem dX6_atMost_1 : decode cX6_atMost 1 = .ok (.ldc 145, 2) := by decide +kernel
theorem dX6_atMost_3 : decode cX6_atMost 3 = .ok (.if_icmp .le 8, 3) := by decide +kernel
theorem dX6_atMost_6 : decode cX6_atMost 6 = .ok (.ldc 145, 2) := by decide +kernel
theorem dX6_atMost_8 : decode cX6_atMost 8 = .ok (.goto 4, 3) := by decide +kernel
theorem dX6_atMost_11 : decode cX6_atMost 11 = .ok (.iload_n 0, 1) := by decide +kernel
theorem dX6_atMost_12 : decode cX6_atMost 12 = .ok (.ireturn, 1) := by decide +kernel
theorem dX6_costOf_0 : decode cX6_costOf 0 = .ok (.aload_n 0, 1) := by decide +kernel
theorem dX6_costOf_1 : decode cX6_costOf 1 = .ok (.getfield 22, 3) := by decide +kernel
theorem dX6_costOf_4 : decode cX6_costOf 4 = .ok (.bipush 40, 2) := by decide +kernel
theorem dX6_costOf_6 : decode cX6_costOf 6 = .ok (.iload_n 1, 1) := by decide +kernel
theorem dX6_costOf_7 : decode cX6_costOf 7 = .ok (.iadd, 1) := by decide +kernel
theorem dX6_costOf_8 : decode cX6_costOf 8 = .ok (.iaload, 1) := by decide +kernel
theorem dX6_costOf_9 : decode cX6_costOf 9 = .ok (.istore_n 3, 1) := by decide +kernel
theorem dX6_costOf_10 : decode cX6_costOf 10 = .ok (.aload_n 0, 1) := by decide +kernel
theorem dX6_costOf_11 : decode cX6_costOf 11 = .ok (.getfield 22, 3) := by decide +kernel
theorem dX6_costOf_14 : decode cX6_costOf 14 = .ok (.iconst 4, 1) := by decide +kernel
theorem dX6_costOf_15 : decode cX6_costOf 15 = .ok (.iload_n 1, 1) := by decide +kernel
theorem dX6_costOf_16 : decode cX6_costOf 16 = .ok (.imul, 1) := by decide +kernel
theorem dX6_costOf_17 : decode cX6_costOf 17 = .ok (.iload_n 2, 1) := by decide +kernel
theorem dX6_costOf_18 : decode cX6_costOf 18 = .ok (.iadd, 1) := by decide +kernel
theorem dX6_costOf_19 : decode cX6_costOf 19 = .ok (.iaload, 1) := by decide +kernel
theorem dX6_costOf_20 : decode cX6_costOf 20 = .ok (.istore 4, 2) := by decide +kernel
theorem dX6_costOf_22 : decode cX6_costOf 22 = .ok (.iload_n 3, 1) := by decide +kernel
theorem dX6_costOf_23 : decode cX6_costOf 23 = .ok (.ifCond .le 10, 3) := by decide +kernel
theorem dX6_costOf_26 : decode cX6_costOf 26 = .ok (.iload_n 3, 1) := by decide +kernel
theorem dX6_costOf_27 : decode cX6_costOf 27 = .ok (.iconst 1, 1) := by decide +kernel
theorem dX6_costOf_28 : decode cX6_costOf 28 = .ok (.isub, 1) := by decide +kernel
theorem dX6_costOf_29 : decode cX6_costOf 29 = .ok (.iload_n 2, 1) := by decide +kernel
theorem dX6_costOf_30 : decode cX6_costOf 30 = .ok (.if_icmp .ne 10, 3) := by decide +kernel
theorem dX6_costOf_33 : decode cX6_costOf 33 = .ok (.iload 4, 2) := by decide +kernel
theorem dX6_costOf_35 : decode cX6_costOf 35 = .ok (.bipush 99, 2) := by decide +kernel
theorem dX6_costOf_37 : decode cX6_costOf 37 = .ok (.if_icmp .ne 6, 3) := by decide +kernel
theorem dX6_costOf_40 : decode cX6_costOf 40 = .ok (.ldc 145, 2) := by decide +kernel
theorem dX6_costOf_42 : decode cX6_costOf 42 = .ok (.ireturn, 1) := by decide +kernel
theorem dX6_costOf_43 : decode cX6_costOf 43 = .ok (.aload_n 0, 1) := by decide +kernel
theorem dX6_costOf_44 : decode cX6_costOf 44 = .ok (.getfield 22, 3) := by decide +kernel
theorem dX6_costOf_47 : decode cX6_costOf 47 = .ok (.bipush 32, 2) := by decide +kernel
theorem dX6_costOf_49 : decode cX6_costOf 49 = .ok (.iload_n 1, 1) := by decide +kernel
theorem dX6_costOf_50 : decode cX6_costOf 50 = .ok (.iadd, 1) := by decide +kernel
theorem dX6_costOf_51 : decode cX6_costOf 51 = .ok (.iaload, 1) := by decide +kernel
theorem dX6_costOf_52 : decode cX6_costOf 52 = .ok (.tableswitch 41 0 2 #[28, 31, 36], 28) := by decide +kernel
theorem dX6_costOf_80 : decode cX6_costOf 80 = .ok (.iload 4, 2) := by decide +kernel
theorem dX6_costOf_82 : decode cX6_costOf 82 = .ok (.ireturn, 1) := by decide +kernel
theorem dX6_costOf_83 : decode cX6_costOf 83 = .ok (.iconst 2, 1) := by decide +kernel
theorem dX6_costOf_84 : decode cX6_costOf 84 = .ok (.iload 4, 2) := by decide +kernel
theorem dX6_costOf_86 : decode cX6_costOf 86 = .ok (.imul, 1) := by decide +kernel
theorem dX6_costOf_87 : decode cX6_costOf 87 = .ok (.ireturn, 1) := by decide +kernel
theorem dX6_costOf_88 : decode cX6_costOf 88 = .ok (.iload 4, 2) := by decide +kernel
theorem dX6_costOf_90 : decode cX6_costOf 90 = .ok (.iload_n 2, 1) := by decide +kernel
theorem dX6_costOf_91 : decode cX6_costOf 91 = .ok (.iadd, 1) := by decide +kernel
theorem dX6_costOf_92 : decode cX6_costOf 92 = .ok (.ireturn, 1) := by decide +kernel
theorem dX6_costOf_93 : decode cX6_costOf 93 = .ok (.iload 4, 2) := by decide +kernel
theorem dX6_costOf_95 : decode cX6_costOf 95 = .ok (.bipush 10, 2) := by decide +kernel
theorem dX6_costOf_97 : decode cX6_costOf 97 = .ok (.if_icmp .le 8, 3) := by decide +kernel
theorem dX6_costOf_100 : decode cX6_costOf 100 = .ok (.ldc 145, 2) := by decide +kernel
theorem dX6_costOf_102 : decode cX6_costOf 102 = .ok (.goto 7, 3) := by decide +kernel
theorem dX6_costOf_105 : decode cX6_costOf 105 = .ok (.iconst 2, 1) := by decide +kernel
theorem dX6_costOf_106 : decode cX6_costOf 106 = .ok (.iload 4, 2) := by decide +kernel
theorem dX6_costOf_108 : decode cX6_costOf 108 = .ok (.imul, 1) := by decide +kernel
theorem dX6_costOf_109 : decode cX6_costOf 109 = .ok (.ireturn, 1) := by decide +kernel
theorem dX6_tieOf_0 : decode cX6_tieOf 0 = .ok (.aload_n 0, 1) := by decide +kernel
theorem dX6_tieOf_1 : decode cX6_tieOf 1 = .ok (.getfield 22, 3) := by decide +kernel
theorem dX6_tieOf_4 : decode cX6_tieOf 4 = .ok (.iload_n 1, 1) := by decide +kernel
theorem dX6_tieOf_5 : decode cX6_tieOf 5 = .ok (.iload_n 2, 1) := by decide +kernel
theorem dX6_tieOf_6 : decode cX6_tieOf 6 = .ok (.iload_n 3, 1) := by decide +kernel
theorem dX6_tieOf_7 : decode cX6_tieOf 7 = .ok (.iload 4, 2) := by decide +kernel
theorem dX6_tieOf_9 : decode cX6_tieOf 9 = .ok (.invokestatic 81, 3) := by decide +kernel
theorem dX6_tieOf_12 : decode cX6_tieOf 12 = .ok (.iaload, 1) := by decide +kernel
theorem dX6_tieOf_13 : decode cX6_tieOf 13 = .ok (.iconst 1, 1) := by decide +kernel
theorem dX6_tieOf_14 : decode cX6_tieOf 14 = .ok (.isub, 1) := by decide +kernel
theorem dX6_tieOf_15 : decode cX6_tieOf 15 = .ok (.istore 5, 2) := by decide +kernel
theorem dX6_tieOf_17 : decode cX6_tieOf 17 = .ok (.iload 5, 2) := by decide +kernel
theorem dX6_tieOf_19 : decode cX6_tieOf 19 = .ok (.bipush 9, 2) := by decide +kernel
theorem dX6_tieOf_21 : decode cX6_tieOf 21 = .ok (.if_icmp .ne 8, 3) := by decide +kernel
theorem dX6_tieOf_24 : decode cX6_tieOf 24 = .ok (.ldc 145, 2) := by decide +kernel
theorem dX6_tieOf_26 : decode cX6_tieOf 26 = .ok (.goto 5, 3) := by decide +kernel
theorem dX6_tieOf_29 : decode cX6_tieOf 29 = .ok (.iload 5, 2) := by decide +kernel
theorem dX6_tieOf_31 : decode cX6_tieOf 31 = .ok (.ireturn, 1) := by decide +kernel
theorem dX6_tiedMany_0 : decode cX6_tiedMany 0 = .ok (.iconst 0, 1) := by decide +kernel
theorem dX6_tiedMany_1 : decode cX6_tiedMany 1 = .ok (.istore_n 2, 1) := by decide +kernel
theorem dX6_tiedMany_2 : decode cX6_tiedMany 2 = .ok (.iconst 0, 1) := by decide +kernel
theorem dX6_tiedMany_3 : decode cX6_tiedMany 3 = .ok (.istore_n 3, 1) := by decide +kernel
theorem dX6_tiedMany_4 : decode cX6_tiedMany 4 = .ok (.iload_n 3, 1) := by decide +kernel
theorem dX6_tiedMany_5 : decode cX6_tiedMany 5 = .ok (.aload_n 0, 1) := by decide +kernel
theorem dX6_tiedMany_6 : decode cX6_tiedMany 6 = .ok (.getfield 132, 3) := by decide +kernel
theorem dX6_tiedMany_9 : decode cX6_tiedMany 9 = .ok (.if_icmp .ge 26, 3) := by decide +kernel
theorem dX6_tiedMany_12 : decode cX6_tiedMany 12 = .ok (.iload_n 2, 1) := by decide +kernel
theorem dX6_tiedMany_13 : decode cX6_tiedMany 13 = .ok (.aload_n 0, 1) := by decide +kernel
theorem dX6_tiedMany_14 : decode cX6_tiedMany 14 = .ok (.iload_n 1, 1) := by decide +kernel
theorem dX6_tiedMany_15 : decode cX6_tiedMany 15 = .ok (.iload_n 3, 1) := by decide +kernel
theorem dX6_tiedMany_16 : decode cX6_tiedMany 16 = .ok (.invokevirtual 146, 3) := by decide +kernel
theorem dX6_tiedMany_19 : decode cX6_tiedMany 19 = .ok (.ifCond .eq 7, 3) := by decide +kernel
theorem dX6_tiedMany_22 : decode cX6_tiedMany 22 = .ok (.iconst 1, 1) := by decide +kernel
theorem dX6_tiedMany_23 : decode cX6_tiedMany 23 = .ok (.goto 4, 3) := by decide +kernel
theorem dX6_tiedMany_26 : decode cX6_tiedMany 26 = .ok (.iconst 0, 1) := by decide +kernel
theorem dX6_tiedMany_27 : decode cX6_tiedMany 27 = .ok (.iadd, 1) := by decide +kernel
theorem dX6_tiedMany_28 : decode cX6_tiedMany 28 = .ok (.istore_n 2, 1) := by decide +kernel
theorem dX6_tiedMany_29 : decode cX6_tiedMany 29 = .ok (.iinc 3 1, 3) := by decide +kernel
theorem dX6_tiedMany_32 : decode cX6_tiedMany 32 = .ok (.goto (-28), 3) := by decide +kernel
theorem dX6_tiedMany_35 : decode cX6_tiedMany 35 = .ok (.iload_n 2, 1) := by decide +kernel
theorem dX6_tiedMany_36 : decode cX6_tiedMany 36 = .ok (.ireturn, 1) := by decide +kernel
theorem dX6_node_0 : decode cX6_node 0 = .ok (.aload_n 0, 1) := by decide +kernel
theorem dX6_node_1 : decode cX6_node 1 = .ok (.iload_n 1, 1) := by decide +kernel
theorem dX6_node_2 : decode cX6_node 2 = .ok (.invokevirtual 141, 3) := by decide +kernel
theorem dX6_node_5 : decode cX6_node 5 = .ok (.ifCond .eq 15, 3) := by decide +kernel
theorem dX6_node_8 : decode cX6_node 8 = .ok (.iload_n 2, 1) := by decide +kernel
theorem dX6_node_9 : decode cX6_node 9 = .ok (.i2l, 1) := by decide +kernel
theorem dX6_node_10 : decode cX6_node 10 = .ok (.lconst 0, 1) := by decide +kernel
theorem dX6_node_11 : decode cX6_node 11 = .ok (.ldc2_w 150, 3) := by decide +kernel
theorem dX6_node_14 : decode cX6_node 14 = .ok (.invokestatic 89, 3) := by decide +kernel
theorem dX6_node_17 : decode cX6_node 17 = .ok (.ifCond .ne 5, 3) := by decide +kernel
theorem dX6_node_20 : decode cX6_node 20 = .ok (.iconst (-1), 1) := by decide +kernel
theorem dX6_node_21 : decode cX6_node 21 = .ok (.ireturn, 1) := by decide +kernel
theorem dX6_node_22 : decode cX6_node 22 = .ok (.iload_n 2, 1) := by decide +kernel
theorem dX6_node_23 : decode cX6_node 23 = .ok (.tableswitch 48 0 2 #[25, 35, 42], 25) := by decide +kernel
theorem dX6_node_48 : decode cX6_node 48 = .ok (.aload_n 0, 1) := by decide +kernel
theorem dX6_node_49 : decode cX6_node 49 = .ok (.getfield 22, 3) := by decide +kernel
theorem dX6_node_52 : decode cX6_node 52 = .ok (.bipush 32, 2) := by decide +kernel
theorem dX6_node_54 : decode cX6_node 54 = .ok (.iload_n 1, 1) := by decide +kernel
theorem dX6_node_55 : decode cX6_node 55 = .ok (.iadd, 1) := by decide +kernel
theorem dX6_node_56 : decode cX6_node 56 = .ok (.iaload, 1) := by decide +kernel
theorem dX6_node_57 : decode cX6_node 57 = .ok (.ireturn, 1) := by decide +kernel
theorem dX6_node_58 : decode cX6_node 58 = .ok (.aload_n 0, 1) := by decide +kernel
theorem dX6_node_59 : decode cX6_node 59 = .ok (.getfield 13, 3) := by decide +kernel
theorem dX6_node_62 : decode cX6_node 62 = .ok (.iload_n 1, 1) := by decide +kernel
theorem dX6_node_63 : decode cX6_node 63 = .ok (.iaload, 1) := by decide +kernel
theorem dX6_node_64 : decode cX6_node 64 = .ok (.ireturn, 1) := by decide +kernel
theorem dX6_node_65 : decode cX6_node 65 = .ok (.aload_n 0, 1) := by decide +kernel
theorem dX6_node_66 : decode cX6_node 66 = .ok (.iload_n 1, 1) := by decide +kernel
theorem dX6_node_67 : decode cX6_node 67 = .ok (.invokevirtual 152, 3) := by decide +kernel
theorem dX6_node_70 : decode cX6_node 70 = .ok (.ireturn, 1) := by decide +kernel
theorem dX6_node_71 : decode cX6_node 71 = .ok (.aload_n 0, 1) := by decide +kernel
theorem dX6_node_72 : decode cX6_node 72 = .ok (.getfield 22, 3) := by decide +kernel
theorem dX6_node_75 : decode cX6_node 75 = .ok (.bipush 40, 2) := by decide +kernel
theorem dX6_node_77 : decode cX6_node 77 = .ok (.iload_n 1, 1) := by decide +kernel
theorem dX6_node_78 : decode cX6_node 78 = .ok (.iadd, 1) := by decide +kernel
theorem dX6_node_79 : decode cX6_node 79 = .ok (.iaload, 1) := by decide +kernel
theorem dX6_node_80 : decode cX6_node 80 = .ok (.ifCond .ne 8, 3) := by decide +kernel
theorem dX6_node_83 : decode cX6_node 83 = .ok (.bipush (-4), 2) := by decide +kernel
theorem dX6_node_85 : decode cX6_node 85 = .ok (.goto 14, 3) := by decide +kernel
theorem dX6_node_88 : decode cX6_node 88 = .ok (.aload_n 0, 1) := by decide +kernel
theorem dX6_node_89 : decode cX6_node 89 = .ok (.getfield 22, 3) := by decide +kernel
theorem dX6_node_92 : decode cX6_node 92 = .ok (.bipush 40, 2) := by decide +kernel
theorem dX6_node_94 : decode cX6_node 94 = .ok (.iload_n 1, 1) := by decide +kernel
theorem dX6_node_95 : decode cX6_node 95 = .ok (.iadd, 1) := by decide +kernel
theorem dX6_node_96 : decode cX6_node 96 = .ok (.iaload, 1) := by decide +kernel
theorem dX6_node_97 : decode cX6_node 97 = .ok (.iconst 1, 1) := by decide +kernel
theorem dX6_node_98 : decode cX6_node 98 = .ok (.isub, 1) := by decide +kernel
theorem dX6_node_99 : decode cX6_node 99 = .ok (.ireturn, 1) := by decide +kernel
theorem dX6_cost_0 : decode cX6_cost 0 = .ok (.aload_n 0, 1) := by decide +kernel
theorem dX6_cost_1 : decode cX6_cost 1 = .ok (.iload_n 1, 1) := by decide +kernel
theorem dX6_cost_2 : decode cX6_cost 2 = .ok (.iload_n 2, 1) := by decide +kernel
theorem dX6_cost_3 : decode cX6_cost 3 = .ok (.invokevirtual 155, 3) := by decide +kernel
theorem dX6_cost_6 : decode cX6_cost 6 = .ok (.ifCond .eq 12, 3) := by decide +kernel
theorem dX6_cost_9 : decode cX6_cost 9 = .ok (.aload_n 0, 1) := by decide +kernel
theorem dX6_cost_10 : decode cX6_cost 10 = .ok (.iload_n 1, 1) := by decide +kernel
theorem dX6_cost_11 : decode cX6_cost 11 = .ok (.iload_n 2, 1) := by decide +kernel
theorem dX6_cost_12 : decode cX6_cost 12 = .ok (.invokevirtual 158, 3) := by decide +kernel
theorem dX6_cost_15 : decode cX6_cost 15 = .ok (.goto 4, 3) := by decide +kernel
theorem dX6_cost_18 : decode cX6_cost 18 = .ok (.iconst (-1), 1) := by decide +kernel
theorem dX6_cost_19 : decode cX6_cost 19 = .ok (.ireturn, 1) := by decide +kernel
theorem dX6_tie_0 : decode cX6_tie 0 = .ok (.iload_n 1, 1) := by decide +kernel
theorem dX6_tie_1 : decode cX6_tie 1 = .ok (.iload_n 2, 1) := by decide +kernel
theorem dX6_tie_2 : decode cX6_tie 2 = .ok (.if_icmp .eq 22, 3) := by decide +kernel
theorem dX6_tie_5 : decode cX6_tie 5 = .ok (.aload_n 0, 1) := by decide +kernel
theorem dX6_tie_6 : decode cX6_tie 6 = .ok (.iload_n 1, 1) := by decide +kernel
theorem dX6_tie_7 : decode cX6_tie 7 = .ok (.iload_n 3, 1) := by decide +kernel
theorem dX6_tie_8 : decode cX6_tie 8 = .ok (.invokevirtual 155, 3) := by decide +kernel
theorem dX6_tie_11 : decode cX6_tie 11 = .ok (.ifCond .eq 13, 3) := by decide +kernel
theorem dX6_tie_14 : decode cX6_tie 14 = .ok (.aload_n 0, 1) := by decide +kernel
theorem dX6_tie_15 : decode cX6_tie 15 = .ok (.iload_n 2, 1) := by decide +kernel
theorem dX6_tie_16 : decode cX6_tie 16 = .ok (.iload 4, 2) := by decide +kernel
theorem dX6_tie_18 : decode cX6_tie 18 = .ok (.invokevirtual 155, 3) := by decide +kernel
theorem dX6_tie_21 : decode cX6_tie 21 = .ok (.ifCond .ne 5, 3) := by decide +kernel
theorem dX6_tie_24 : decode cX6_tie 24 = .ok (.iconst (-1), 1) := by decide +kernel
theorem dX6_tie_25 : decode cX6_tie 25 = .ok (.ireturn, 1) := by decide +kernel
theorem dX6_tie_26 : decode cX6_tie 26 = .ok (.aload_n 0, 1) := by decide +kernel
theorem dX6_tie_27 : decode cX6_tie 27 = .ok (.iload_n 1, 1) := by decide +kernel
theorem dX6_tie_28 : decode cX6_tie 28 = .ok (.iload_n 2, 1) := by decide +kernel
theorem dX6_tie_29 : decode cX6_tie 29 = .ok (.invokevirtual 146, 3) := by decide +kernel
theorem dX6_tie_32 : decode cX6_tie 32 = .ok (.ifCond .eq 15, 3) := by decide +kernel
theorem dX6_tie_35 : decode cX6_tie 35 = .ok (.aload_n 0, 1) := by decide +kernel
theorem dX6_tie_36 : decode cX6_tie 36 = .ok (.iload_n 1, 1) := by decide +kernel
theorem dX6_tie_37 : decode cX6_tie 37 = .ok (.iload_n 2, 1) := by decide +kernel
theorem dX6_tie_38 : decode cX6_tie 38 = .ok (.iload_n 3, 1) := by decide +kernel
theorem dX6_tie_39 : decode cX6_tie 39 = .ok (.iload 4, 2) := by decide +kernel
theorem dX6_tie_41 : decode cX6_tie 41 = .ok (.invokevirtual 162, 3) := by decide +kernel
theorem dX6_tie_44 : decode cX6_tie 44 = .ok (.goto 5, 3) := by decide +kernel
theorem dX6_tie_47 : decode cX6_tie 47 = .ok (.bipush (-4), 2) := by decide +kernel
theorem dX6_tie_49 : decode cX6_tie 49 = .ok (.ireturn, 1) := by decide +kernel
theorem dX6_note_0 : decode cX6_note 0 = .ok (.aload_n 0, 1) := by decide +kernel
theorem dX6_note_1 : decode cX6_note 1 = .ok (.getfield 135, 3) := by decide +kernel
theorem dX6_note_4 : decode cX6_note 4 = .ok (.bipush 8, 2) := by decide +kernel
theorem dX6_note_6 : decode cX6_note 6 = .ok (.if_icmp .ne 44, 3) := by decide +kernel
theorem dX6_note_9 : decode cX6_note 9 = .ok (.iconst 0, 1) := by decide +kernel
theorem dX6_note_10 : decode cX6_note 10 = .ok (.istore_n 1, 1) := by decide +kernel
theorem dX6_note_11 : decode cX6_note 11 = .ok (.iload_n 1, 1) := by decide +kernel
theorem dX6_note_12 : decode cX6_note 12 = .ok (.sipush 3500, 3) := by decide +kernel
theorem dX6_note_15 : decode cX6_note 15 = .ok (.if_icmp .ge 25, 3) := by decide +kernel
theorem dX6_note_18 : decode cX6_note 18 = .ok (.aload_n 0, 1) := by decide +kernel
theorem dX6_note_19 : decode cX6_note 19 = .ok (.getfield 25, 3) := by decide +kernel
theorem dX6_note_22 : decode cX6_note 22 = .ok (.iload_n 1, 1) := by decide +kernel
theorem dX6_note_23 : decode cX6_note 23 = .ok (.aload_n 0, 1) := by decide +kernel
theorem dX6_note_24 : decode cX6_note 24 = .ok (.getfield 25, 3) := by decide +kernel
theorem dX6_note_27 : decode cX6_note 27 = .ok (.sipush 500, 3) := by decide +kernel
theorem dX6_note_30 : decode cX6_note 30 = .ok (.iload_n 1, 1) := by decide +kernel
theorem dX6_note_31 : decode cX6_note 31 = .ok (.iadd, 1) := by decide +kernel
theorem dX6_note_32 : decode cX6_note 32 = .ok (.iaload, 1) := by decide +kernel
theorem dX6_note_33 : decode cX6_note 33 = .ok (.iastore, 1) := by decide +kernel
theorem dX6_note_34 : decode cX6_note 34 = .ok (.iinc 1 1, 3) := by decide +kernel
theorem dX6_note_37 : decode cX6_note 37 = .ok (.goto (-26), 3) := by decide +kernel
theorem dX6_note_40 : decode cX6_note 40 = .ok (.aload_n 0, 1) := by decide +kernel
theorem dX6_note_41 : decode cX6_note 41 = .ok (.dup, 1) := by decide +kernel
theorem dX6_note_42 : decode cX6_note 42 = .ok (.getfield 135, 3) := by decide +kernel
theorem dX6_note_45 : decode cX6_note 45 = .ok (.iconst 1, 1) := by decide +kernel
theorem dX6_note_46 : decode cX6_note 46 = .ok (.isub, 1) := by decide +kernel
theorem dX6_note_47 : decode cX6_note 47 = .ok (.putfield 135, 3) := by decide +kernel
theorem dX6_note_50 : decode cX6_note 50 = .ok (.iconst 0, 1) := by decide +kernel
theorem dX6_note_51 : decode cX6_note 51 = .ok (.istore_n 1, 1) := by decide +kernel
theorem dX6_note_52 : decode cX6_note 52 = .ok (.iload_n 1, 1) := by decide +kernel
theorem dX6_note_53 : decode cX6_note 53 = .ok (.sipush 500, 3) := by decide +kernel
theorem dX6_note_56 : decode cX6_note 56 = .ok (.if_icmp .ge 30, 3) := by decide +kernel
theorem dX6_note_59 : decode cX6_note 59 = .ok (.aload_n 0, 1) := by decide +kernel
theorem dX6_note_60 : decode cX6_note 60 = .ok (.getfield 25, 3) := by decide +kernel
theorem dX6_note_63 : decode cX6_note 63 = .ok (.sipush 500, 3) := by decide +kernel
theorem dX6_note_66 : decode cX6_note 66 = .ok (.aload_n 0, 1) := by decide +kernel
theorem dX6_note_67 : decode cX6_note 67 = .ok (.getfield 135, 3) := by decide +kernel
theorem dX6_note_70 : decode cX6_note 70 = .ok (.imul, 1) := by decide +kernel
theorem dX6_note_71 : decode cX6_note 71 = .ok (.iload_n 1, 1) := by decide +kernel
theorem dX6_note_72 : decode cX6_note 72 = .ok (.iadd, 1) := by decide +kernel
theorem dX6_note_73 : decode cX6_note 73 = .ok (.aload_n 0, 1) := by decide +kernel
theorem dX6_note_74 : decode cX6_note 74 = .ok (.getfield 22, 3) := by decide +kernel
theorem dX6_note_77 : decode cX6_note 77 = .ok (.iload_n 1, 1) := by decide +kernel
theorem dX6_note_78 : decode cX6_note 78 = .ok (.iaload, 1) := by decide +kernel
theorem dX6_note_79 : decode cX6_note 79 = .ok (.iastore, 1) := by decide +kernel
theorem dX6_note_80 : decode cX6_note 80 = .ok (.iinc 1 1, 3) := by decide +kernel
theorem dX6_note_83 : decode cX6_note 83 = .ok (.goto (-31), 3) := by decide +kernel
theorem dX6_note_86 : decode cX6_note 86 = .ok (.aload_n 0, 1) := by decide +kernel
theorem dX6_note_87 : decode cX6_note 87 = .ok (.dup, 1) := by decide +kernel
theorem dX6_note_88 : decode cX6_note 88 = .ok (.getfield 135, 3) := by decide +kernel
theorem dX6_note_91 : decode cX6_note 91 = .ok (.iconst 1, 1) := by decide +kernel
theorem dX6_note_92 : decode cX6_note 92 = .ok (.iadd, 1) := by decide +kernel
theorem dX6_note_93 : decode cX6_note 93 = .ok (.putfield 135, 3) := by decide +kernel
theorem dX6_note_96 : decode cX6_note 96 = .ok (.return_, 1) := by decide +kernel
theorem dX6_price_0 : decode cX6_price 0 = .ok (.aload_n 0, 1) := by decide +kernel
theorem dX6_price_1 : decode cX6_price 1 = .ok (.iload_n 1, 1) := by decide +kernel
theorem dX6_price_2 : decode cX6_price 2 = .ok (.iload_n 2, 1) := by decide +kernel
theorem dX6_price_3 : decode cX6_price 3 = .ok (.invokevirtual 155, 3) := by decide +kernel
theorem dX6_price_6 : decode cX6_price 6 = .ok (.ifCond .eq 15, 3) := by decide +kernel
theorem dX6_price_9 : decode cX6_price 9 = .ok (.iload_n 3, 1) := by decide +kernel
theorem dX6_price_10 : decode cX6_price 10 = .ok (.i2l, 1) := by decide +kernel
theorem dX6_price_11 : decode cX6_price 11 = .ok (.lconst 0, 1) := by decide +kernel
theorem dX6_price_12 : decode cX6_price 12 = .ok (.ldc2_w 165, 3) := by decide +kernel
theorem dX6_price_15 : decode cX6_price 15 = .ok (.invokestatic 89, 3) := by decide +kernel
theorem dX6_price_18 : decode cX6_price 18 = .ok (.ifCond .ne 5, 3) := by decide +kernel
theorem dX6_price_21 : decode cX6_price 21 = .ok (.iconst (-1), 1) := by decide +kernel
theorem dX6_price_22 : decode cX6_price 22 = .ok (.ireturn, 1) := by decide +kernel
theorem dX6_price_23 : decode cX6_price 23 = .ok (.aload_n 0, 1) := by decide +kernel
theorem dX6_price_24 : decode cX6_price 24 = .ok (.getfield 22, 3) := by decide +kernel
theorem dX6_price_27 : decode cX6_price 27 = .ok (.iconst 4, 1) := by decide +kernel
theorem dX6_price_28 : decode cX6_price 28 = .ok (.iload_n 1, 1) := by decide +kernel
theorem dX6_price_29 : decode cX6_price 29 = .ok (.imul, 1) := by decide +kernel
theorem dX6_price_30 : decode cX6_price 30 = .ok (.iload_n 2, 1) := by decide +kernel
theorem dX6_price_31 : decode cX6_price 31 = .ok (.iadd, 1) := by decide +kernel
theorem dX6_price_32 : decode cX6_price 32 = .ok (.iaload, 1) := by decide +kernel
theorem dX6_price_33 : decode cX6_price 33 = .ok (.istore 4, 2) := by decide +kernel
theorem dX6_price_35 : decode cX6_price 35 = .ok (.iload 4, 2) := by decide +kernel
theorem dX6_price_37 : decode cX6_price 37 = .ok (.iload_n 3, 1) := by decide +kernel
theorem dX6_price_38 : decode cX6_price 38 = .ok (.if_icmp .ne 6, 3) := by decide +kernel
theorem dX6_price_41 : decode cX6_price 41 = .ok (.bipush (-2), 2) := by decide +kernel
theorem dX6_price_43 : decode cX6_price 43 = .ok (.ireturn, 1) := by decide +kernel
theorem dX6_price_44 : decode cX6_price 44 = .ok (.aload_n 0, 1) := by decide +kernel
theorem dX6_price_45 : decode cX6_price 45 = .ok (.invokevirtual 167, 3) := by decide +kernel
theorem dX6_price_48 : decode cX6_price 48 = .ok (.aload_n 0, 1) := by decide +kernel
theorem dX6_price_49 : decode cX6_price 49 = .ok (.getfield 22, 3) := by decide +kernel
theorem dX6_price_52 : decode cX6_price 52 = .ok (.iconst 4, 1) := by decide +kernel
theorem dX6_price_53 : decode cX6_price 53 = .ok (.iload_n 1, 1) := by decide +kernel
theorem dX6_price_54 : decode cX6_price 54 = .ok (.imul, 1) := by decide +kernel
theorem dX6_price_55 : decode cX6_price 55 = .ok (.iload_n 2, 1) := by decide +kernel
theorem dX6_price_56 : decode cX6_price 56 = .ok (.iadd, 1) := by decide +kernel
theorem dX6_price_57 : decode cX6_price 57 = .ok (.iload_n 3, 1) := by decide +kernel
theorem dX6_price_58 : decode cX6_price 58 = .ok (.iastore, 1) := by decide +kernel
theorem dX6_price_59 : decode cX6_price 59 = .ok (.iload 4, 2) := by decide +kernel
theorem dX6_price_61 : decode cX6_price 61 = .ok (.ireturn, 1) := by decide +kernel
theorem dX6_table_0 : decode cX6_table 0 = .ok (.iload_n 1, 1) := by decide +kernel
theorem dX6_table_1 : decode cX6_table 1 = .ok (.iload_n 2, 1) := by decide +kernel
theorem dX6_table_2 : decode cX6_table 2 = .ok (.if_icmp .eq 35, 3) := by decide +kernel
theorem dX6_table_5 : decode cX6_table 5 = .ok (.aload_n 0, 1) := by decide +kernel
theorem dX6_table_6 : decode cX6_table 6 = .ok (.iload_n 1, 1) := by decide +kernel
theorem dX6_table_7 : decode cX6_table 7 = .ok (.iload_n 3, 1) := by decide +kernel
theorem dX6_table_8 : decode cX6_table 8 = .ok (.invokevirtual 155, 3) := by decide +kernel
theorem dX6_table_11 : decode cX6_table 11 = .ok (.ifCond .eq 26, 3) := by decide +kernel
theorem dX6_table_14 : decode cX6_table 14 = .ok (.aload_n 0, 1) := by decide +kernel
theorem dX6_table_15 : decode cX6_table 15 = .ok (.iload_n 2, 1) := by decide +kernel
theorem dX6_table_16 : decode cX6_table 16 = .ok (.iload 4, 2) := by decide +kernel
theorem dX6_table_18 : decode cX6_table 18 = .ok (.invokevirtual 155, 3) := by decide +kernel
theorem dX6_table_21 : decode cX6_table 21 = .ok (.ifCond .eq 16, 3) := by decide +kernel
theorem dX6_table_24 : decode cX6_table 24 = .ok (.iload 5, 2) := by decide +kernel
theorem dX6_table_26 : decode cX6_table 26 = .ok (.i2l, 1) := by decide +kernel
theorem dX6_table_27 : decode cX6_table 27 = .ok (.lconst 0, 1) := by decide +kernel
theorem dX6_table_28 : decode cX6_table 28 = .ok (.ldc2_w 120, 3) := by decide +kernel
theorem dX6_table_31 : decode cX6_table 31 = .ok (.invokestatic 89, 3) := by decide +kernel
theorem dX6_table_34 : decode cX6_table 34 = .ok (.ifCond .ne 5, 3) := by decide +kernel
theorem dX6_table_37 : decode cX6_table 37 = .ok (.iconst (-1), 1) := by decide +kernel
theorem dX6_table_38 : decode cX6_table 38 = .ok (.ireturn, 1) := by decide +kernel
theorem dX6_table_39 : decode cX6_table 39 = .ok (.aload_n 0, 1) := by decide +kernel
theorem dX6_table_40 : decode cX6_table 40 = .ok (.iload_n 1, 1) := by decide +kernel
theorem dX6_table_41 : decode cX6_table 41 = .ok (.iload_n 2, 1) := by decide +kernel
theorem dX6_table_42 : decode cX6_table 42 = .ok (.invokevirtual 146, 3) := by decide +kernel
theorem dX6_table_45 : decode cX6_table 45 = .ok (.istore 6, 2) := by decide +kernel
theorem dX6_table_47 : decode cX6_table 47 = .ok (.iload 6, 2) := by decide +kernel
theorem dX6_table_49 : decode cX6_table 49 = .ok (.ifCond .eq 21, 3) := by decide +kernel
theorem dX6_table_52 : decode cX6_table 52 = .ok (.aload_n 0, 1) := by decide +kernel
theorem dX6_table_53 : decode cX6_table 53 = .ok (.getfield 22, 3) := by decide +kernel
theorem dX6_table_56 : decode cX6_table 56 = .ok (.iload_n 1, 1) := by decide +kernel
theorem dX6_table_57 : decode cX6_table 57 = .ok (.iload_n 2, 1) := by decide +kernel
theorem dX6_table_58 : decode cX6_table 58 = .ok (.iload_n 3, 1) := by decide +kernel
theorem dX6_table_59 : decode cX6_table 59 = .ok (.iload 4, 2) := by decide +kernel
theorem dX6_table_61 : decode cX6_table 61 = .ok (.invokestatic 81, 3) := by decide +kernel
theorem dX6_table_64 : decode cX6_table 64 = .ok (.iaload, 1) := by decide +kernel
theorem dX6_table_65 : decode cX6_table 65 = .ok (.iconst 1, 1) := by decide +kernel
theorem dX6_table_66 : decode cX6_table 66 = .ok (.isub, 1) := by decide +kernel
theorem dX6_table_67 : decode cX6_table 67 = .ok (.goto 4, 3) := by decide +kernel
theorem dX6_table_70 : decode cX6_table 70 = .ok (.iconst 0, 1) := by decide +kernel
theorem dX6_table_71 : decode cX6_table 71 = .ok (.istore 7, 2) := by decide +kernel
theorem dX6_table_73 : decode cX6_table 73 = .ok (.iload 6, 2) := by decide +kernel
theorem dX6_table_75 : decode cX6_table 75 = .ok (.ifCond .eq 13, 3) := by decide +kernel
theorem dX6_table_78 : decode cX6_table 78 = .ok (.iload 7, 2) := by decide +kernel
theorem dX6_table_80 : decode cX6_table 80 = .ok (.iload 5, 2) := by decide +kernel
theorem dX6_table_82 : decode cX6_table 82 = .ok (.if_icmp .ne 6, 3) := by decide +kernel
theorem dX6_table_85 : decode cX6_table 85 = .ok (.bipush (-2), 2) := by decide +kernel
theorem dX6_table_87 : decode cX6_table 87 = .ok (.ireturn, 1) := by decide +kernel
theorem dX6_table_88 : decode cX6_table 88 = .ok (.iload 6, 2) := by decide +kernel
theorem dX6_table_90 : decode cX6_table 90 = .ok (.ifCond .ne 18, 3) := by decide +kernel
theorem dX6_table_93 : decode cX6_table 93 = .ok (.aload_n 0, 1) := by decide +kernel
theorem dX6_table_94 : decode cX6_table 94 = .ok (.getfield 22, 3) := by decide +kernel
theorem dX6_table_97 : decode cX6_table 97 = .ok (.invokestatic 116, 3) := by decide +kernel
theorem dX6_table_100 : decode cX6_table 100 = .ok (.bipush 12, 2) := by decide +kernel
theorem dX6_table_102 : decode cX6_table 102 = .ok (.if_icmp .ne 6, 3) := by decide +kernel
theorem dX6_table_105 : decode cX6_table 105 = .ok (.bipush (-3), 2) := by decide +kernel
theorem dX6_table_107 : decode cX6_table 107 = .ok (.ireturn, 1) := by decide +kernel
theorem dX6_table_108 : decode cX6_table 108 = .ok (.aload_n 0, 1) := by decide +kernel
theorem dX6_table_109 : decode cX6_table 109 = .ok (.invokevirtual 167, 3) := by decide +kernel
theorem dX6_table_112 : decode cX6_table 112 = .ok (.iconst 0, 1) := by decide +kernel
theorem dX6_table_113 : decode cX6_table 113 = .ok (.istore 8, 2) := by decide +kernel
theorem dX6_table_115 : decode cX6_table 115 = .ok (.iload 8, 2) := by decide +kernel
theorem dX6_table_117 : decode cX6_table 117 = .ok (.aload_n 0, 1) := by decide +kernel
theorem dX6_table_118 : decode cX6_table 118 = .ok (.getfield 13, 3) := by decide +kernel
theorem dX6_table_121 : decode cX6_table 121 = .ok (.iload_n 1, 1) := by decide +kernel
theorem dX6_table_122 : decode cX6_table 122 = .ok (.iaload, 1) := by decide +kernel
theorem dX6_table_123 : decode cX6_table 123 = .ok (.aload_n 0, 1) := by decide +kernel
theorem dX6_table_124 : decode cX6_table 124 = .ok (.getfield 13, 3) := by decide +kernel
theorem dX6_table_127 : decode cX6_table 127 = .ok (.iload_n 2, 1) := by decide +kernel
theorem dX6_table_128 : decode cX6_table 128 = .ok (.iaload, 1) := by decide +kernel
theorem dX6_table_129 : decode cX6_table 129 = .ok (.imul, 1) := by decide +kernel
theorem dX6_table_130 : decode cX6_table 130 = .ok (.if_icmp .ge 43, 3) := by decide +kernel
theorem dX6_table_133 : decode cX6_table 133 = .ok (.iload 6, 2) := by decide +kernel
theorem dX6_table_135 : decode cX6_table 135 = .ok (.ifCond .ne 38, 3) := by decide +kernel
theorem dX6_table_138 : decode cX6_table 138 = .ok (.aload_n 0, 1) := by decide +kernel
theorem dX6_table_139 : decode cX6_table 139 = .ok (.getfield 22, 3) := by decide +kernel
theorem dX6_table_142 : decode cX6_table 142 = .ok (.iload_n 1, 1) := by decide +kernel
theorem dX6_table_143 : decode cX6_table 143 = .ok (.iload_n 2, 1) := by decide +kernel
theorem dX6_table_144 : decode cX6_table 144 = .ok (.iload 8, 2) := by decide +kernel
theorem dX6_table_146 : decode cX6_table 146 = .ok (.aload_n 0, 1) := by decide +kernel
theorem dX6_table_147 : decode cX6_table 147 = .ok (.getfield 13, 3) := by decide +kernel
theorem dX6_table_150 : decode cX6_table 150 = .ok (.iload_n 2, 1) := by decide +kernel
theorem dX6_table_151 : decode cX6_table 151 = .ok (.iaload, 1) := by decide +kernel
theorem dX6_table_152 : decode cX6_table 152 = .ok (.idiv, 1) := by decide +kernel
theorem dX6_table_153 : decode cX6_table 153 = .ok (.iload 8, 2) := by decide +kernel
theorem dX6_table_155 : decode cX6_table 155 = .ok (.aload_n 0, 1) := by decide +kernel
theorem dX6_table_156 : decode cX6_table 156 = .ok (.getfield 13, 3) := by decide +kernel
theorem dX6_table_159 : decode cX6_table 159 = .ok (.iload_n 2, 1) := by decide +kernel
theorem dX6_table_160 : decode cX6_table 160 = .ok (.iaload, 1) := by decide +kernel
theorem dX6_table_161 : decode cX6_table 161 = .ok (.irem, 1) := by decide +kernel
theorem dX6_table_162 : decode cX6_table 162 = .ok (.invokestatic 81, 3) := by decide +kernel
theorem dX6_table_165 : decode cX6_table 165 = .ok (.iconst 1, 1) := by decide +kernel
theorem dX6_table_166 : decode cX6_table 166 = .ok (.iastore, 1) := by decide +kernel
theorem dX6_table_167 : decode cX6_table 167 = .ok (.iinc 8 1, 3) := by decide +kernel
theorem dX6_table_170 : decode cX6_table 170 = .ok (.goto (-55), 3) := by decide +kernel
theorem dX6_table_173 : decode cX6_table 173 = .ok (.aload_n 0, 1) := by decide +kernel
theorem dX6_table_174 : decode cX6_table 174 = .ok (.getfield 22, 3) := by decide +kernel
theorem dX6_table_177 : decode cX6_table 177 = .ok (.iload_n 1, 1) := by decide +kernel
theorem dX6_table_178 : decode cX6_table 178 = .ok (.iload_n 2, 1) := by decide +kernel
theorem dX6_table_179 : decode cX6_table 179 = .ok (.iload_n 3, 1) := by decide +kernel
theorem dX6_table_180 : decode cX6_table 180 = .ok (.iload 4, 2) := by decide +kernel
theorem dX6_table_182 : decode cX6_table 182 = .ok (.invokestatic 81, 3) := by decide +kernel
theorem dX6_table_185 : decode cX6_table 185 = .ok (.iconst 1, 1) := by decide +kernel
theorem dX6_table_186 : decode cX6_table 186 = .ok (.iload 5, 2) := by decide +kernel
theorem dX6_table_188 : decode cX6_table 188 = .ok (.iadd, 1) := by decide +kernel
theorem dX6_table_189 : decode cX6_table 189 = .ok (.iastore, 1) := by decide +kernel
theorem dX6_table_190 : decode cX6_table 190 = .ok (.iload 7, 2) := by decide +kernel
theorem dX6_table_192 : decode cX6_table 192 = .ok (.ireturn, 1) := by decide +kernel
theorem dX6_loose_0 : decode cX6_loose 0 = .ok (.aload_n 0, 1) := by decide +kernel
theorem dX6_loose_1 : decode cX6_loose 1 = .ok (.iload_n 1, 1) := by decide +kernel
theorem dX6_loose_2 : decode cX6_loose 2 = .ok (.iload_n 2, 1) := by decide +kernel
theorem dX6_loose_3 : decode cX6_loose 3 = .ok (.invokevirtual 170, 3) := by decide +kernel
theorem dX6_loose_6 : decode cX6_loose 6 = .ok (.ifCond .ne 5, 3) := by decide +kernel
theorem dX6_loose_9 : decode cX6_loose 9 = .ok (.iconst (-1), 1) := by decide +kernel
theorem dX6_loose_10 : decode cX6_loose 10 = .ok (.ireturn, 1) := by decide +kernel
theorem dX6_loose_11 : decode cX6_loose 11 = .ok (.aload_n 0, 1) := by decide +kernel
theorem dX6_loose_12 : decode cX6_loose 12 = .ok (.iload_n 1, 1) := by decide +kernel
theorem dX6_loose_13 : decode cX6_loose 13 = .ok (.iload_n 2, 1) := by decide +kernel
theorem dX6_loose_14 : decode cX6_loose 14 = .ok (.invokevirtual 146, 3) := by decide +kernel
theorem dX6_loose_17 : decode cX6_loose 17 = .ok (.ifCond .ne 6, 3) := by decide +kernel
theorem dX6_loose_20 : decode cX6_loose 20 = .ok (.bipush (-2), 2) := by decide +kernel
theorem dX6_loose_22 : decode cX6_loose 22 = .ok (.ireturn, 1) := by decide +kernel
theorem dX6_loose_23 : decode cX6_loose 23 = .ok (.aload_n 0, 1) := by decide +kernel
theorem dX6_loose_24 : decode cX6_loose 24 = .ok (.invokevirtual 167, 3) := by decide +kernel
theorem dX6_loose_27 : decode cX6_loose 27 = .ok (.aload_n 0, 1) := by decide +kernel
theorem dX6_loose_28 : decode cX6_loose 28 = .ok (.iload_n 1, 1) := by decide +kernel
theorem dX6_loose_29 : decode cX6_loose 29 = .ok (.iload_n 2, 1) := by decide +kernel
theorem dX6_loose_30 : decode cX6_loose 30 = .ok (.invokevirtual 173, 3) := by decide +kernel
theorem dX6_loose_33 : decode cX6_loose 33 = .ok (.aload_n 0, 1) := by decide +kernel
theorem dX6_loose_34 : decode cX6_loose 34 = .ok (.getfield 22, 3) := by decide +kernel
theorem dX6_loose_37 : decode cX6_loose 37 = .ok (.invokestatic 116, 3) := by decide +kernel
theorem dX6_loose_40 : decode cX6_loose 40 = .ok (.ireturn, 1) := by decide +kernel
theorem dX6_looseNow_0 : decode cX6_looseNow 0 = .ok (.iconst 0, 1) := by decide +kernel
theorem dX6_looseNow_1 : decode cX6_looseNow 1 = .ok (.istore_n 3, 1) := by decide +kernel
theorem dX6_looseNow_2 : decode cX6_looseNow 2 = .ok (.iload_n 3, 1) := by decide +kernel
theorem dX6_looseNow_3 : decode cX6_looseNow 3 = .ok (.bipush 16, 2) := by decide +kernel
theorem dX6_looseNow_5 : decode cX6_looseNow 5 = .ok (.if_icmp .ge 26, 3) := by decide +kernel
theorem dX6_looseNow_8 : decode cX6_looseNow 8 = .ok (.aload_n 0, 1) := by decide +kernel
theorem dX6_looseNow_9 : decode cX6_looseNow 9 = .ok (.getfield 22, 3) := by decide +kernel
theorem dX6_looseNow_12 : decode cX6_looseNow 12 = .ok (.iload_n 1, 1) := by decide +kernel
theorem dX6_looseNow_13 : decode cX6_looseNow 13 = .ok (.iload_n 2, 1) := by decide +kernel
theorem dX6_looseNow_14 : decode cX6_looseNow 14 = .ok (.iload_n 3, 1) := by decide +kernel
theorem dX6_looseNow_15 : decode cX6_looseNow 15 = .ok (.iconst 4, 1) := by decide +kernel
theorem dX6_looseNow_16 : decode cX6_looseNow 16 = .ok (.idiv, 1) := by decide +kernel
theorem dX6_looseNow_17 : decode cX6_looseNow 17 = .ok (.iload_n 3, 1) := by decide +kernel
theorem dX6_looseNow_18 : decode cX6_looseNow 18 = .ok (.iconst 4, 1) := by decide +kernel
theorem dX6_looseNow_19 : decode cX6_looseNow 19 = .ok (.irem, 1) := by decide +kernel
theorem dX6_looseNow_20 : decode cX6_looseNow 20 = .ok (.invokestatic 81, 3) := by decide +kernel
theorem dX6_looseNow_23 : decode cX6_looseNow 23 = .ok (.iconst 0, 1) := by decide +kernel
theorem dX6_looseNow_24 : decode cX6_looseNow 24 = .ok (.iastore, 1) := by decide +kernel
theorem dX6_looseNow_25 : decode cX6_looseNow 25 = .ok (.iinc 3 1, 3) := by decide +kernel
theorem dX6_looseNow_28 : decode cX6_looseNow 28 = .ok (.goto (-26), 3) := by decide +kernel
theorem dX6_looseNow_31 : decode cX6_looseNow 31 = .ok (.return_, 1) := by decide +kernel
theorem dX6_pin_0 : decode cX6_pin 0 = .ok (.aload_n 0, 1) := by decide +kernel
theorem dX6_pin_1 : decode cX6_pin 1 = .ok (.iload_n 1, 1) := by decide +kernel
theorem dX6_pin_2 : decode cX6_pin 2 = .ok (.invokevirtual 141, 3) := by decide +kernel
theorem dX6_pin_5 : decode cX6_pin 5 = .ok (.ifCond .eq 23, 3) := by decide +kernel
theorem dX6_pin_8 : decode cX6_pin 8 = .ok (.iload_n 2, 1) := by decide +kernel
theorem dX6_pin_9 : decode cX6_pin 9 = .ok (.i2l, 1) := by decide +kernel
theorem dX6_pin_10 : decode cX6_pin 10 = .ok (.ldc2_w 177, 3) := by decide +kernel
theorem dX6_pin_13 : decode cX6_pin 13 = .ok (.aload_n 0, 1) := by decide +kernel
theorem dX6_pin_14 : decode cX6_pin 14 = .ok (.getfield 13, 3) := by decide +kernel
theorem dX6_pin_17 : decode cX6_pin 17 = .ok (.iload_n 1, 1) := by decide +kernel
theorem dX6_pin_18 : decode cX6_pin 18 = .ok (.iaload, 1) := by decide +kernel
theorem dX6_pin_19 : decode cX6_pin 19 = .ok (.iconst 1, 1) := by decide +kernel
theorem dX6_pin_20 : decode cX6_pin 20 = .ok (.isub, 1) := by decide +kernel
theorem dX6_pin_21 : decode cX6_pin 21 = .ok (.i2l, 1) := by decide +kernel
theorem dX6_pin_22 : decode cX6_pin 22 = .ok (.invokestatic 89, 3) := by decide +kernel
theorem dX6_pin_25 : decode cX6_pin 25 = .ok (.ifCond .ne 5, 3) := by decide +kernel
theorem dX6_pin_28 : decode cX6_pin 28 = .ok (.iconst (-1), 1) := by decide +kernel
theorem dX6_pin_29 : decode cX6_pin 29 = .ok (.ireturn, 1) := by decide +kernel
theorem dX6_pin_30 : decode cX6_pin 30 = .ok (.aload_n 0, 1) := by decide +kernel
theorem dX6_pin_31 : decode cX6_pin 31 = .ok (.getfield 22, 3) := by decide +kernel
theorem dX6_pin_34 : decode cX6_pin 34 = .ok (.bipush 40, 2) := by decide +kernel
theorem dX6_pin_36 : decode cX6_pin 36 = .ok (.iload_n 1, 1) := by decide +kernel
theorem dX6_pin_37 : decode cX6_pin 37 = .ok (.iadd, 1) := by decide +kernel
theorem dX6_pin_38 : decode cX6_pin 38 = .ok (.iaload, 1) := by decide +kernel
theorem dX6_pin_39 : decode cX6_pin 39 = .ok (.iconst 1, 1) := by decide +kernel
theorem dX6_pin_40 : decode cX6_pin 40 = .ok (.isub, 1) := by decide +kernel
theorem dX6_pin_41 : decode cX6_pin 41 = .ok (.istore_n 3, 1) := by decide +kernel
theorem dX6_pin_42 : decode cX6_pin 42 = .ok (.iload_n 3, 1) := by decide +kernel
theorem dX6_pin_43 : decode cX6_pin 43 = .ok (.iload_n 2, 1) := by decide +kernel
theorem dX6_pin_44 : decode cX6_pin 44 = .ok (.if_icmp .ne 6, 3) := by decide +kernel
theorem dX6_pin_47 : decode cX6_pin 47 = .ok (.bipush (-2), 2) := by decide +kernel
theorem dX6_pin_49 : decode cX6_pin 49 = .ok (.ireturn, 1) := by decide +kernel
theorem dX6_pin_50 : decode cX6_pin 50 = .ok (.aload_n 0, 1) := by decide +kernel
theorem dX6_pin_51 : decode cX6_pin 51 = .ok (.invokevirtual 167, 3) := by decide +kernel
theorem dX6_pin_54 : decode cX6_pin 54 = .ok (.aload_n 0, 1) := by decide +kernel
theorem dX6_pin_55 : decode cX6_pin 55 = .ok (.getfield 22, 3) := by decide +kernel
theorem dX6_pin_58 : decode cX6_pin 58 = .ok (.bipush 40, 2) := by decide +kernel
theorem dX6_pin_60 : decode cX6_pin 60 = .ok (.iload_n 1, 1) := by decide +kernel
theorem dX6_pin_61 : decode cX6_pin 61 = .ok (.iadd, 1) := by decide +kernel
theorem dX6_pin_62 : decode cX6_pin 62 = .ok (.iload_n 2, 1) := by decide +kernel
theorem dX6_pin_63 : decode cX6_pin 63 = .ok (.iconst 1, 1) := by decide +kernel
theorem dX6_pin_64 : decode cX6_pin 64 = .ok (.iadd, 1) := by decide +kernel
theorem dX6_pin_65 : decode cX6_pin 65 = .ok (.iastore, 1) := by decide +kernel
theorem dX6_pin_66 : decode cX6_pin 66 = .ok (.iload_n 3, 1) := by decide +kernel
theorem dX6_pin_67 : decode cX6_pin 67 = .ok (.ifCond .ge 8, 3) := by decide +kernel
theorem dX6_pin_70 : decode cX6_pin 70 = .ok (.bipush (-4), 2) := by decide +kernel
theorem dX6_pin_72 : decode cX6_pin 72 = .ok (.goto 4, 3) := by decide +kernel
theorem dX6_pin_75 : decode cX6_pin 75 = .ok (.iload_n 3, 1) := by decide +kernel
theorem dX6_pin_76 : decode cX6_pin 76 = .ok (.ireturn, 1) := by decide +kernel
theorem dX6_rename_0 : decode cX6_rename 0 = .ok (.aload_n 0, 1) := by decide +kernel
theorem dX6_rename_1 : decode cX6_rename 1 = .ok (.iload_n 1, 1) := by decide +kernel
theorem dX6_rename_2 : decode cX6_rename 2 = .ok (.invokevirtual 141, 3) := by decide +kernel
theorem dX6_rename_5 : decode cX6_rename 5 = .ok (.ifCond .eq 15, 3) := by decide +kernel
theorem dX6_rename_8 : decode cX6_rename 8 = .ok (.iload_n 2, 1) := by decide +kernel
theorem dX6_rename_9 : decode cX6_rename 9 = .ok (.i2l, 1) := by decide +kernel
theorem dX6_rename_10 : decode cX6_rename 10 = .ok (.lconst 0, 1) := by decide +kernel
theorem dX6_rename_11 : decode cX6_rename 11 = .ok (.ldc2_w 150, 3) := by decide +kernel
theorem dX6_rename_14 : decode cX6_rename 14 = .ok (.invokestatic 89, 3) := by decide +kernel
theorem dX6_rename_17 : decode cX6_rename 17 = .ok (.ifCond .ne 5, 3) := by decide +kernel
theorem dX6_rename_20 : decode cX6_rename 20 = .ok (.iconst (-1), 1) := by decide +kernel
theorem dX6_rename_21 : decode cX6_rename 21 = .ok (.ireturn, 1) := by decide +kernel
theorem dX6_rename_22 : decode cX6_rename 22 = .ok (.aload_n 0, 1) := by decide +kernel
theorem dX6_rename_23 : decode cX6_rename 23 = .ok (.getfield 22, 3) := by decide +kernel
theorem dX6_rename_26 : decode cX6_rename 26 = .ok (.bipush 32, 2) := by decide +kernel
theorem dX6_rename_28 : decode cX6_rename 28 = .ok (.iload_n 1, 1) := by decide +kernel
theorem dX6_rename_29 : decode cX6_rename 29 = .ok (.iadd, 1) := by decide +kernel
theorem dX6_rename_30 : decode cX6_rename 30 = .ok (.iaload, 1) := by decide +kernel
theorem dX6_rename_31 : decode cX6_rename 31 = .ok (.istore_n 3, 1) := by decide +kernel
theorem dX6_rename_32 : decode cX6_rename 32 = .ok (.iload_n 3, 1) := by decide +kernel
theorem dX6_rename_33 : decode cX6_rename 33 = .ok (.iload_n 2, 1) := by decide +kernel
theorem dX6_rename_34 : decode cX6_rename 34 = .ok (.if_icmp .ne 6, 3) := by decide +kernel
theorem dX6_rename_37 : decode cX6_rename 37 = .ok (.bipush (-2), 2) := by decide +kernel
theorem dX6_rename_39 : decode cX6_rename 39 = .ok (.ireturn, 1) := by decide +kernel
theorem dX6_rename_40 : decode cX6_rename 40 = .ok (.aload_n 0, 1) := by decide +kernel
theorem dX6_rename_41 : decode cX6_rename 41 = .ok (.invokevirtual 167, 3) := by decide +kernel
theorem dX6_rename_44 : decode cX6_rename 44 = .ok (.aload_n 0, 1) := by decide +kernel
theorem dX6_rename_45 : decode cX6_rename 45 = .ok (.getfield 22, 3) := by decide +kernel
theorem dX6_rename_48 : decode cX6_rename 48 = .ok (.bipush 32, 2) := by decide +kernel
theorem dX6_rename_50 : decode cX6_rename 50 = .ok (.iload_n 1, 1) := by decide +kernel
theorem dX6_rename_51 : decode cX6_rename 51 = .ok (.iadd, 1) := by decide +kernel
theorem dX6_rename_52 : decode cX6_rename 52 = .ok (.iload_n 2, 1) := by decide +kernel
theorem dX6_rename_53 : decode cX6_rename 53 = .ok (.iastore, 1) := by decide +kernel
theorem dX6_rename_54 : decode cX6_rename 54 = .ok (.iload_n 3, 1) := by decide +kernel
theorem dX6_rename_55 : decode cX6_rename 55 = .ok (.ireturn, 1) := by decide +kernel
theorem dX6_undo_0 : decode cX6_undo 0 = .ok (.aload_n 0, 1) := by decide +kernel
theorem dX6_undo_1 : decode cX6_undo 1 = .ok (.getfield 135, 3) := by decide +kernel
theorem dX6_undo_4 : decode cX6_undo 4 = .ok (.ifCond .ne 6, 3) := by decide +kernel
theorem dX6_undo_7 : decode cX6_undo 7 = .ok (.bipush (-2), 2) := by decide +kernel
theorem dX6_undo_9 : decode cX6_undo 9 = .ok (.ireturn, 1) := by decide +kernel
theorem dX6_undo_10 : decode cX6_undo 10 = .ok (.aload_n 0, 1) := by decide +kernel
theorem dX6_undo_11 : decode cX6_undo 11 = .ok (.dup, 1) := by decide +kernel
theorem dX6_undo_12 : decode cX6_undo 12 = .ok (.getfield 135, 3) := by decide +kernel
theorem dX6_undo_15 : decode cX6_undo 15 = .ok (.iconst 1, 1) := by decide +kernel
theorem dX6_undo_16 : decode cX6_undo 16 = .ok (.isub, 1) := by decide +kernel
theorem dX6_undo_17 : decode cX6_undo 17 = .ok (.putfield 135, 3) := by decide +kernel
theorem dX6_undo_20 : decode cX6_undo 20 = .ok (.iconst 0, 1) := by decide +kernel
theorem dX6_undo_21 : decode cX6_undo 21 = .ok (.istore_n 1, 1) := by decide +kernel
theorem dX6_undo_22 : decode cX6_undo 22 = .ok (.iload_n 1, 1) := by decide +kernel
theorem dX6_undo_23 : decode cX6_undo 23 = .ok (.sipush 500, 3) := by decide +kernel
theorem dX6_undo_26 : decode cX6_undo 26 = .ok (.if_icmp .ge 30, 3) := by decide +kernel
theorem dX6_undo_29 : decode cX6_undo 29 = .ok (.aload_n 0, 1) := by decide +kernel
theorem dX6_undo_30 : decode cX6_undo 30 = .ok (.getfield 22, 3) := by decide +kernel
theorem dX6_undo_33 : decode cX6_undo 33 = .ok (.iload_n 1, 1) := by decide +kernel
theorem dX6_undo_34 : decode cX6_undo 34 = .ok (.aload_n 0, 1) := by decide +kernel
theorem dX6_undo_35 : decode cX6_undo 35 = .ok (.getfield 25, 3) := by decide +kernel
theorem dX6_undo_38 : decode cX6_undo 38 = .ok (.sipush 500, 3) := by decide +kernel
theorem dX6_undo_41 : decode cX6_undo 41 = .ok (.aload_n 0, 1) := by decide +kernel
theorem dX6_undo_42 : decode cX6_undo 42 = .ok (.getfield 135, 3) := by decide +kernel
theorem dX6_undo_45 : decode cX6_undo 45 = .ok (.imul, 1) := by decide +kernel
theorem dX6_undo_46 : decode cX6_undo 46 = .ok (.iload_n 1, 1) := by decide +kernel
theorem dX6_undo_47 : decode cX6_undo 47 = .ok (.iadd, 1) := by decide +kernel
theorem dX6_undo_48 : decode cX6_undo 48 = .ok (.iaload, 1) := by decide +kernel
theorem dX6_undo_49 : decode cX6_undo 49 = .ok (.iastore, 1) := by decide +kernel
theorem dX6_undo_50 : decode cX6_undo 50 = .ok (.iinc 1 1, 3) := by decide +kernel
theorem dX6_undo_53 : decode cX6_undo 53 = .ok (.goto (-31), 3) := by decide +kernel
theorem dX6_undo_56 : decode cX6_undo 56 = .ok (.aload_n 0, 1) := by decide +kernel
theorem dX6_undo_57 : decode cX6_undo 57 = .ok (.getfield 135, 3) := by decide +kernel
theorem dX6_undo_60 : decode cX6_undo 60 = .ok (.ireturn, 1) := by decide +kernel
theorem dX6_tableAt_0 : decode cX6_tableAt 0 = .ok (.sipush 128, 3) := by decide +kernel
theorem dX6_tableAt_3 : decode cX6_tableAt 3 = .ok (.iload_n 0, 1) := by decide +kernel
theorem dX6_tableAt_4 : decode cX6_tableAt 4 = .ok (.imul, 1) := by decide +kernel
theorem dX6_tableAt_5 : decode cX6_tableAt 5 = .ok (.bipush 16, 2) := by decide +kernel
theorem dX6_tableAt_7 : decode cX6_tableAt 7 = .ok (.iload_n 1, 1) := by decide +kernel
theorem dX6_tableAt_8 : decode cX6_tableAt 8 = .ok (.imul, 1) := by decide +kernel
theorem dX6_tableAt_9 : decode cX6_tableAt 9 = .ok (.iadd, 1) := by decide +kernel
theorem dX6_tableAt_10 : decode cX6_tableAt 10 = .ok (.iconst 4, 1) := by decide +kernel
theorem dX6_tableAt_11 : decode cX6_tableAt 11 = .ok (.iload_n 2, 1) := by decide +kernel
theorem dX6_tableAt_12 : decode cX6_tableAt 12 = .ok (.imul, 1) := by decide +kernel
theorem dX6_tableAt_13 : decode cX6_tableAt 13 = .ok (.iadd, 1) := by decide +kernel
theorem dX6_tableAt_14 : decode cX6_tableAt 14 = .ok (.iload_n 3, 1) := by decide +kernel
theorem dX6_tableAt_15 : decode cX6_tableAt 15 = .ok (.iadd, 1) := by decide +kernel
theorem dX6_tableAt_16 : decode cX6_tableAt 16 = .ok (.ireturn, 1) := by decide +kernel
theorem dX6_aside_0 : decode cX6_aside 0 = .ok (.iconst 0, 1) := by decide +kernel
theorem dX6_aside_1 : decode cX6_aside 1 = .ok (.istore_n 1, 1) := by decide +kernel
theorem dX6_aside_2 : decode cX6_aside 2 = .ok (.iload_n 1, 1) := by decide +kernel
theorem dX6_aside_3 : decode cX6_aside 3 = .ok (.aload_n 0, 1) := by decide +kernel
theorem dX6_aside_4 : decode cX6_aside 4 = .ok (.getfield 132, 3) := by decide +kernel
theorem dX6_aside_7 : decode cX6_aside 7 = .ok (.if_icmp .ge 173, 3) := by decide +kernel
theorem dX6_aside_10 : decode cX6_aside 10 = .ok (.aload_n 0, 1) := by decide +kernel
theorem dX6_aside_11 : decode cX6_aside 11 = .ok (.getfield 37, 3) := by decide +kernel
theorem dX6_aside_14 : decode cX6_aside 14 = .ok (.iload_n 1, 1) := by decide +kernel
theorem dX6_aside_15 : decode cX6_aside 15 = .ok (.iconst 0, 1) := by decide +kernel
theorem dX6_aside_16 : decode cX6_aside 16 = .ok (.iastore, 1) := by decide +kernel
theorem dX6_aside_17 : decode cX6_aside 17 = .ok (.iconst 0, 1) := by decide +kernel
theorem dX6_aside_18 : decode cX6_aside 18 = .ok (.istore_n 2, 1) := by decide +kernel
theorem dX6_aside_19 : decode cX6_aside 19 = .ok (.iload_n 2, 1) := by decide +kernel
theorem dX6_aside_20 : decode cX6_aside 20 = .ok (.aload_n 0, 1) := by decide +kernel
theorem dX6_aside_21 : decode cX6_aside 21 = .ok (.getfield 13, 3) := by decide +kernel
theorem dX6_aside_24 : decode cX6_aside 24 = .ok (.iload_n 1, 1) := by decide +kernel
theorem dX6_aside_25 : decode cX6_aside 25 = .ok (.iaload, 1) := by decide +kernel
theorem dX6_aside_26 : decode cX6_aside 26 = .ok (.if_icmp .ge 25, 3) := by decide +kernel
theorem dX6_aside_29 : decode cX6_aside 29 = .ok (.aload_n 0, 1) := by decide +kernel
theorem dX6_aside_30 : decode cX6_aside 30 = .ok (.getfield 31, 3) := by decide +kernel
theorem dX6_aside_33 : decode cX6_aside 33 = .ok (.iconst 4, 1) := by decide +kernel
theorem dX6_aside_34 : decode cX6_aside 34 = .ok (.iload_n 1, 1) := by decide +kernel
theorem dX6_aside_35 : decode cX6_aside 35 = .ok (.imul, 1) := by decide +kernel
theorem dX6_aside_36 : decode cX6_aside 36 = .ok (.iload_n 2, 1) := by decide +kernel
theorem dX6_aside_37 : decode cX6_aside 37 = .ok (.iadd, 1) := by decide +kernel
theorem dX6_aside_38 : decode cX6_aside 38 = .ok (.aload_n 0, 1) := by decide +kernel
theorem dX6_aside_39 : decode cX6_aside 39 = .ok (.iload_n 1, 1) := by decide +kernel
theorem dX6_aside_40 : decode cX6_aside 40 = .ok (.iload_n 2, 1) := by decide +kernel
theorem dX6_aside_41 : decode cX6_aside 41 = .ok (.invokevirtual 158, 3) := by decide +kernel
theorem dX6_aside_44 : decode cX6_aside 44 = .ok (.iastore, 1) := by decide +kernel
theorem dX6_aside_45 : decode cX6_aside 45 = .ok (.iinc 2 1, 3) := by decide +kernel
theorem dX6_aside_48 : decode cX6_aside 48 = .ok (.goto (-29), 3) := by decide +kernel
theorem dX6_aside_51 : decode cX6_aside 51 = .ok (.iconst 0, 1) := by decide +kernel
theorem dX6_aside_52 : decode cX6_aside 52 = .ok (.istore_n 2, 1) := by decide +kernel
theorem dX6_aside_53 : decode cX6_aside 53 = .ok (.iload_n 2, 1) := by decide +kernel
theorem dX6_aside_54 : decode cX6_aside 54 = .ok (.aload_n 0, 1) := by decide +kernel
theorem dX6_aside_55 : decode cX6_aside 55 = .ok (.getfield 132, 3) := by decide +kernel
theorem dX6_aside_58 : decode cX6_aside 58 = .ok (.if_icmp .ge 116, 3) := by decide +kernel
theorem dX6_aside_61 : decode cX6_aside 61 = .ok (.aload_n 0, 1) := by decide +kernel
theorem dX6_aside_62 : decode cX6_aside 62 = .ok (.getfield 37, 3) := by decide +kernel
theorem dX6_aside_65 : decode cX6_aside 65 = .ok (.iload_n 1, 1) := by decide +kernel
theorem dX6_aside_66 : decode cX6_aside 66 = .ok (.dup2, 1) := by decide +kernel
theorem dX6_aside_67 : decode cX6_aside 67 = .ok (.iaload, 1) := by decide +kernel
theorem dX6_aside_68 : decode cX6_aside 68 = .ok (.aload_n 0, 1) := by decide +kernel
theorem dX6_aside_69 : decode cX6_aside 69 = .ok (.iload_n 1, 1) := by decide +kernel
theorem dX6_aside_70 : decode cX6_aside 70 = .ok (.iload_n 2, 1) := by decide +kernel
theorem dX6_aside_71 : decode cX6_aside 71 = .ok (.invokevirtual 146, 3) := by decide +kernel
theorem dX6_aside_74 : decode cX6_aside 74 = .ok (.ifCond .eq 9, 3) := by decide +kernel
theorem dX6_aside_77 : decode cX6_aside 77 = .ok (.iconst 1, 1) := by decide +kernel
theorem dX6_aside_78 : decode cX6_aside 78 = .ok (.iload_n 2, 1) := by decide +kernel
theorem dX6_aside_79 : decode cX6_aside 79 = .ok (.ishl, 1) := by decide +kernel
theorem dX6_aside_80 : decode cX6_aside 80 = .ok (.goto 4, 3) := by decide +kernel
theorem dX6_aside_83 : decode cX6_aside 83 = .ok (.iconst 0, 1) := by decide +kernel
theorem dX6_aside_84 : decode cX6_aside 84 = .ok (.ior, 1) := by decide +kernel
theorem dX6_aside_85 : decode cX6_aside 85 = .ok (.iastore, 1) := by decide +kernel
theorem dX6_aside_86 : decode cX6_aside 86 = .ok (.iconst 0, 1) := by decide +kernel
theorem dX6_aside_87 : decode cX6_aside 87 = .ok (.istore_n 3, 1) := by decide +kernel
theorem dX6_aside_88 : decode cX6_aside 88 = .ok (.iload_n 3, 1) := by decide +kernel
theorem dX6_aside_89 : decode cX6_aside 89 = .ok (.aload_n 0, 1) := by decide +kernel
theorem dX6_aside_90 : decode cX6_aside 90 = .ok (.getfield 13, 3) := by decide +kernel
theorem dX6_aside_93 : decode cX6_aside 93 = .ok (.iload_n 1, 1) := by decide +kernel
theorem dX6_aside_94 : decode cX6_aside 94 = .ok (.iaload, 1) := by decide +kernel
theorem dX6_aside_95 : decode cX6_aside 95 = .ok (.aload_n 0, 1) := by decide +kernel
theorem dX6_aside_96 : decode cX6_aside 96 = .ok (.getfield 13, 3) := by decide +kernel
theorem dX6_aside_99 : decode cX6_aside 99 = .ok (.iload_n 2, 1) := by decide +kernel
theorem dX6_aside_100 : decode cX6_aside 100 = .ok (.iaload, 1) := by decide +kernel
theorem dX6_aside_101 : decode cX6_aside 101 = .ok (.imul, 1) := by decide +kernel
theorem dX6_aside_102 : decode cX6_aside 102 = .ok (.if_icmp .ge 66, 3) := by decide +kernel
theorem dX6_aside_105 : decode cX6_aside 105 = .ok (.iload_n 3, 1) := by decide +kernel
theorem dX6_aside_106 : decode cX6_aside 106 = .ok (.aload_n 0, 1) := by decide +kernel
theorem dX6_aside_107 : decode cX6_aside 107 = .ok (.getfield 13, 3) := by decide +kernel
theorem dX6_aside_110 : decode cX6_aside 110 = .ok (.iload_n 2, 1) := by decide +kernel
theorem dX6_aside_111 : decode cX6_aside 111 = .ok (.iaload, 1) := by decide +kernel
theorem dX6_aside_112 : decode cX6_aside 112 = .ok (.idiv, 1) := by decide +kernel
theorem dX6_aside_113 : decode cX6_aside 113 = .ok (.istore 4, 2) := by decide +kernel
theorem dX6_aside_115 : decode cX6_aside 115 = .ok (.iload_n 3, 1) := by decide +kernel
theorem dX6_aside_116 : decode cX6_aside 116 = .ok (.aload_n 0, 1) := by decide +kernel
theorem dX6_aside_117 : decode cX6_aside 117 = .ok (.getfield 13, 3) := by decide +kernel
theorem dX6_aside_120 : decode cX6_aside 120 = .ok (.iload_n 2, 1) := by decide +kernel
theorem dX6_aside_121 : decode cX6_aside 121 = .ok (.iaload, 1) := by decide +kernel
theorem dX6_aside_122 : decode cX6_aside 122 = .ok (.irem, 1) := by decide +kernel
theorem dX6_aside_123 : decode cX6_aside 123 = .ok (.istore 5, 2) := by decide +kernel
theorem dX6_aside_125 : decode cX6_aside 125 = .ok (.aload_n 0, 1) := by decide +kernel
theorem dX6_aside_126 : decode cX6_aside 126 = .ok (.getfield 34, 3) := by decide +kernel
theorem dX6_aside_129 : decode cX6_aside 129 = .ok (.iload_n 1, 1) := by decide +kernel
theorem dX6_aside_130 : decode cX6_aside 130 = .ok (.iload_n 2, 1) := by decide +kernel
theorem dX6_aside_131 : decode cX6_aside 131 = .ok (.iload 4, 2) := by decide +kernel
theorem dX6_aside_133 : decode cX6_aside 133 = .ok (.iload 5, 2) := by decide +kernel
theorem dX6_aside_135 : decode cX6_aside 135 = .ok (.invokestatic 179, 3) := by decide +kernel
theorem dX6_aside_138 : decode cX6_aside 138 = .ok (.aload_n 0, 1) := by decide +kernel
theorem dX6_aside_139 : decode cX6_aside 139 = .ok (.iload_n 1, 1) := by decide +kernel
theorem dX6_aside_140 : decode cX6_aside 140 = .ok (.iload_n 2, 1) := by decide +kernel
theorem dX6_aside_141 : decode cX6_aside 141 = .ok (.invokevirtual 146, 3) := by decide +kernel
theorem dX6_aside_144 : decode cX6_aside 144 = .ok (.ifCond .eq 16, 3) := by decide +kernel
theorem dX6_aside_147 : decode cX6_aside 147 = .ok (.aload_n 0, 1) := by decide +kernel
theorem dX6_aside_148 : decode cX6_aside 148 = .ok (.iload_n 1, 1) := by decide +kernel
theorem dX6_aside_149 : decode cX6_aside 149 = .ok (.iload_n 2, 1) := by decide +kernel
theorem dX6_aside_150 : decode cX6_aside 150 = .ok (.iload 4, 2) := by decide +kernel
theorem dX6_aside_152 : decode cX6_aside 152 = .ok (.iload 5, 2) := by decide +kernel
theorem dX6_aside_154 : decode cX6_aside 154 = .ok (.invokevirtual 162, 3) := by decide +kernel
theorem dX6_aside_157 : decode cX6_aside 157 = .ok (.goto 4, 3) := by decide +kernel
theorem dX6_aside_160 : decode cX6_aside 160 = .ok (.iconst 0, 1) := by decide +kernel
theorem dX6_aside_161 : decode cX6_aside 161 = .ok (.iastore, 1) := by decide +kernel
theorem dX6_aside_162 : decode cX6_aside 162 = .ok (.iinc 3 1, 3) := by decide +kernel
theorem dX6_aside_165 : decode cX6_aside 165 = .ok (.goto (-77), 3) := by decide +kernel
theorem dX6_aside_168 : decode cX6_aside 168 = .ok (.iinc 2 1, 3) := by decide +kernel
theorem dX6_aside_171 : decode cX6_aside 171 = .ok (.goto (-118), 3) := by decide +kernel
theorem dX6_aside_174 : decode cX6_aside 174 = .ok (.iinc 1 1, 3) := by decide +kernel
theorem dX6_aside_177 : decode cX6_aside 177 = .ok (.goto (-175), 3) := by decide +kernel
theorem dX6_aside_180 : decode cX6_aside 180 = .ok (.return_, 1) := by decide +kernel
theorem dX6_ones_0 : decode cX6_ones 0 = .ok (.iconst 0, 1) := by decide +kernel
theorem dX6_ones_1 : decode cX6_ones 1 = .ok (.istore_n 1, 1) := by decide +kernel
theorem dX6_ones_2 : decode cX6_ones 2 = .ok (.iload_n 0, 1) := by decide +kernel
theorem dX6_ones_3 : decode cX6_ones 3 = .ok (.istore_n 2, 1) := by decide +kernel
theorem dX6_ones_4 : decode cX6_ones 4 = .ok (.iload_n 2, 1) := by decide +kernel
theorem dX6_ones_5 : decode cX6_ones 5 = .ok (.ifCond .eq 15, 3) := by decide +kernel
theorem dX6_ones_8 : decode cX6_ones 8 = .ok (.iinc 1 1, 3) := by decide +kernel
theorem dX6_ones_11 : decode cX6_ones 11 = .ok (.iload_n 2, 1) := by decide +kernel
theorem dX6_ones_12 : decode cX6_ones 12 = .ok (.iload_n 2, 1) := by decide +kernel
theorem dX6_ones_13 : decode cX6_ones 13 = .ok (.iconst 1, 1) := by decide +kernel
theorem dX6_ones_14 : decode cX6_ones 14 = .ok (.isub, 1) := by decide +kernel
theorem dX6_ones_15 : decode cX6_ones 15 = .ok (.iand, 1) := by decide +kernel
theorem dX6_ones_16 : decode cX6_ones 16 = .ok (.istore_n 2, 1) := by decide +kernel
theorem dX6_ones_17 : decode cX6_ones 17 = .ok (.goto (-13), 3) := by decide +kernel
theorem dX6_ones_20 : decode cX6_ones 20 = .ok (.iload_n 1, 1) := by decide +kernel
theorem dX6_ones_21 : decode cX6_ones 21 = .ok (.ireturn, 1) := by decide +kernel
theorem dX6_has_0 : decode cX6_has 0 = .ok (.iload_n 0, 1) := by decide +kernel
theorem dX6_has_1 : decode cX6_has 1 = .ok (.iload_n 1, 1) := by decide +kernel
theorem dX6_has_2 : decode cX6_has 2 = .ok (.ishr, 1) := by decide +kernel
theorem dX6_has_3 : decode cX6_has 3 = .ok (.iconst 1, 1) := by decide +kernel
theorem dX6_has_4 : decode cX6_has 4 = .ok (.iand, 1) := by decide +kernel
theorem dX6_has_5 : decode cX6_has 5 = .ok (.iconst 1, 1) := by decide +kernel
theorem dX6_has_6 : decode cX6_has 6 = .ok (.if_icmp .ne 7, 3) := by decide +kernel
theorem dX6_has_9 : decode cX6_has 9 = .ok (.iconst 1, 1) := by decide +kernel
theorem dX6_has_10 : decode cX6_has 10 = .ok (.goto 4, 3) := by decide +kernel
theorem dX6_has_13 : decode cX6_has 13 = .ok (.iconst 0, 1) := by decide +kernel
theorem dX6_has_14 : decode cX6_has 14 = .ok (.ireturn, 1) := by decide +kernel
theorem dX6_isAhead_0 : decode cX6_isAhead 0 = .ok (.bipush 100, 2) := by decide +kernel
theorem dX6_isAhead_2 : decode cX6_isAhead 2 = .ok (.aload_n 0, 1) := by decide +kernel
theorem dX6_isAhead_3 : decode cX6_isAhead 3 = .ok (.getfield 37, 3) := by decide +kernel
theorem dX6_isAhead_6 : decode cX6_isAhead 6 = .ok (.iload_n 1, 1) := by decide +kernel
theorem dX6_isAhead_7 : decode cX6_isAhead 7 = .ok (.iaload, 1) := by decide +kernel
theorem dX6_isAhead_8 : decode cX6_isAhead 8 = .ok (.invokestatic 182, 3) := by decide +kernel
theorem dX6_isAhead_11 : decode cX6_isAhead 11 = .ok (.imul, 1) := by decide +kernel
theorem dX6_isAhead_12 : decode cX6_isAhead 12 = .ok (.bipush 10, 2) := by decide +kernel
theorem dX6_isAhead_14 : decode cX6_isAhead 14 = .ok (.aload_n 0, 1) := by decide +kernel
theorem dX6_isAhead_15 : decode cX6_isAhead 15 = .ok (.getfield 13, 3) := by decide +kernel
theorem dX6_isAhead_18 : decode cX6_isAhead 18 = .ok (.iload_n 1, 1) := by decide +kernel
theorem dX6_isAhead_19 : decode cX6_isAhead 19 = .ok (.iaload, 1) := by decide +kernel
theorem dX6_isAhead_20 : decode cX6_isAhead 20 = .ok (.imul, 1) := by decide +kernel
theorem dX6_isAhead_21 : decode cX6_isAhead 21 = .ok (.iadd, 1) := by decide +kernel
theorem dX6_isAhead_22 : decode cX6_isAhead 22 = .ok (.iload_n 1, 1) := by decide +kernel
theorem dX6_isAhead_23 : decode cX6_isAhead 23 = .ok (.iadd, 1) := by decide +kernel
theorem dX6_isAhead_24 : decode cX6_isAhead 24 = .ok (.istore_n 3, 1) := by decide +kernel
theorem dX6_isAhead_25 : decode cX6_isAhead 25 = .ok (.bipush 100, 2) := by decide +kernel
theorem dX6_isAhead_27 : decode cX6_isAhead 27 = .ok (.aload_n 0, 1) := by decide +kernel
theorem dX6_isAhead_28 : decode cX6_isAhead 28 = .ok (.getfield 37, 3) := by decide +kernel
theorem dX6_isAhead_31 : decode cX6_isAhead 31 = .ok (.iload_n 2, 1) := by decide +kernel
theorem dX6_isAhead_32 : decode cX6_isAhead 32 = .ok (.iaload, 1) := by decide +kernel
theorem dX6_isAhead_33 : decode cX6_isAhead 33 = .ok (.invokestatic 182, 3) := by decide +kernel
theorem dX6_isAhead_36 : decode cX6_isAhead 36 = .ok (.imul, 1) := by decide +kernel
theorem dX6_isAhead_37 : decode cX6_isAhead 37 = .ok (.bipush 10, 2) := by decide +kernel
theorem dX6_isAhead_39 : decode cX6_isAhead 39 = .ok (.aload_n 0, 1) := by decide +kernel
theorem dX6_isAhead_40 : decode cX6_isAhead 40 = .ok (.getfield 13, 3) := by decide +kernel
theorem dX6_isAhead_43 : decode cX6_isAhead 43 = .ok (.iload_n 2, 1) := by decide +kernel
theorem dX6_isAhead_44 : decode cX6_isAhead 44 = .ok (.iaload, 1) := by decide +kernel
theorem dX6_isAhead_45 : decode cX6_isAhead 45 = .ok (.imul, 1) := by decide +kernel
theorem dX6_isAhead_46 : decode cX6_isAhead 46 = .ok (.iadd, 1) := by decide +kernel
theorem dX6_isAhead_47 : decode cX6_isAhead 47 = .ok (.iload_n 2, 1) := by decide +kernel
theorem dX6_isAhead_48 : decode cX6_isAhead 48 = .ok (.iadd, 1) := by decide +kernel
theorem dX6_isAhead_49 : decode cX6_isAhead 49 = .ok (.istore 4, 2) := by decide +kernel
theorem dX6_isAhead_51 : decode cX6_isAhead 51 = .ok (.iload_n 3, 1) := by decide +kernel
theorem dX6_isAhead_52 : decode cX6_isAhead 52 = .ok (.iload 4, 2) := by decide +kernel
theorem dX6_isAhead_54 : decode cX6_isAhead 54 = .ok (.if_icmp .ge 7, 3) := by decide +kernel
theorem dX6_isAhead_57 : decode cX6_isAhead 57 = .ok (.iconst 1, 1) := by decide +kernel
theorem dX6_isAhead_58 : decode cX6_isAhead 58 = .ok (.goto 4, 3) := by decide +kernel
theorem dX6_isAhead_61 : decode cX6_isAhead 61 = .ok (.iconst 0, 1) := by decide +kernel
theorem dX6_isAhead_62 : decode cX6_isAhead 62 = .ok (.ireturn, 1) := by decide +kernel
theorem dX6_nextOf_0 : decode cX6_nextOf 0 = .ok (.bipush (-4), 2) := by decide +kernel
theorem dX6_nextOf_2 : decode cX6_nextOf 2 = .ok (.istore_n 2, 1) := by decide +kernel
theorem dX6_nextOf_3 : decode cX6_nextOf 3 = .ok (.bipush (-4), 2) := by decide +kernel
theorem dX6_nextOf_5 : decode cX6_nextOf 5 = .ok (.istore_n 3, 1) := by decide +kernel
theorem dX6_nextOf_6 : decode cX6_nextOf 6 = .ok (.iconst 0, 1) := by decide +kernel
theorem dX6_nextOf_7 : decode cX6_nextOf 7 = .ok (.istore 4, 2) := by decide +kernel
theorem dX6_nextOf_9 : decode cX6_nextOf 9 = .ok (.iload 4, 2) := by decide +kernel
theorem dX6_nextOf_11 : decode cX6_nextOf 11 = .ok (.aload_n 0, 1) := by decide +kernel
theorem dX6_nextOf_12 : decode cX6_nextOf 12 = .ok (.getfield 132, 3) := by decide +kernel
theorem dX6_nextOf_15 : decode cX6_nextOf 15 = .ok (.if_icmp .ge 64, 3) := by decide +kernel
theorem dX6_nextOf_18 : decode cX6_nextOf 18 = .ok (.iload_n 1, 1) := by decide +kernel
theorem dX6_nextOf_19 : decode cX6_nextOf 19 = .ok (.iload 4, 2) := by decide +kernel
theorem dX6_nextOf_21 : decode cX6_nextOf 21 = .ok (.invokestatic 185, 3) := by decide +kernel
theorem dX6_nextOf_24 : decode cX6_nextOf 24 = .ok (.ifCond .eq 49, 3) := by decide +kernel
theorem dX6_nextOf_27 : decode cX6_nextOf 27 = .ok (.iload_n 2, 1) := by decide +kernel
theorem dX6_nextOf_28 : decode cX6_nextOf 28 = .ok (.bipush (-4), 2) := by decide +kernel
theorem dX6_nextOf_30 : decode cX6_nextOf 30 = .ok (.if_icmp .eq 13, 3) := by decide +kernel
theorem dX6_nextOf_33 : decode cX6_nextOf 33 = .ok (.aload_n 0, 1) := by decide +kernel
theorem dX6_nextOf_34 : decode cX6_nextOf 34 = .ok (.iload 4, 2) := by decide +kernel
theorem dX6_nextOf_36 : decode cX6_nextOf 36 = .ok (.iload_n 2, 1) := by decide +kernel
theorem dX6_nextOf_37 : decode cX6_nextOf 37 = .ok (.invokevirtual 188, 3) := by decide +kernel
theorem dX6_nextOf_40 : decode cX6_nextOf 40 = .ok (.ifCond .eq 8, 3) := by decide +kernel
theorem dX6_nextOf_43 : decode cX6_nextOf 43 = .ok (.iload 4, 2) := by decide +kernel
theorem dX6_nextOf_45 : decode cX6_nextOf 45 = .ok (.goto 4, 3) := by decide +kernel
theorem dX6_nextOf_48 : decode cX6_nextOf 48 = .ok (.iload_n 2, 1) := by decide +kernel
theorem dX6_nextOf_49 : decode cX6_nextOf 49 = .ok (.istore_n 2, 1) := by decide +kernel
theorem dX6_nextOf_50 : decode cX6_nextOf 50 = .ok (.iload_n 3, 1) := by decide +kernel
theorem dX6_nextOf_51 : decode cX6_nextOf 51 = .ok (.bipush (-4), 2) := by decide +kernel
theorem dX6_nextOf_53 : decode cX6_nextOf 53 = .ok (.if_icmp .eq 13, 3) := by decide +kernel
theorem dX6_nextOf_56 : decode cX6_nextOf 56 = .ok (.aload_n 0, 1) := by decide +kernel
theorem dX6_nextOf_57 : decode cX6_nextOf 57 = .ok (.iload_n 3, 1) := by decide +kernel
theorem dX6_nextOf_58 : decode cX6_nextOf 58 = .ok (.iload 4, 2) := by decide +kernel
theorem dX6_nextOf_60 : decode cX6_nextOf 60 = .ok (.invokevirtual 188, 3) := by decide +kernel
theorem dX6_nextOf_63 : decode cX6_nextOf 63 = .ok (.ifCond .eq 8, 3) := by decide +kernel
theorem dX6_nextOf_66 : decode cX6_nextOf 66 = .ok (.iload 4, 2) := by decide +kernel
theorem dX6_nextOf_68 : decode cX6_nextOf 68 = .ok (.goto 4, 3) := by decide +kernel
theorem dX6_nextOf_71 : decode cX6_nextOf 71 = .ok (.iload_n 3, 1) := by decide +kernel
theorem dX6_nextOf_72 : decode cX6_nextOf 72 = .ok (.istore_n 3, 1) := by decide +kernel
theorem dX6_nextOf_73 : decode cX6_nextOf 73 = .ok (.iinc 4 1, 3) := by decide +kernel
theorem dX6_nextOf_76 : decode cX6_nextOf 76 = .ok (.goto (-67), 3) := by decide +kernel
theorem dX6_nextOf_79 : decode cX6_nextOf 79 = .ok (.aload_n 0, 1) := by decide +kernel
theorem dX6_nextOf_80 : decode cX6_nextOf 80 = .ok (.getfield 37, 3) := by decide +kernel
theorem dX6_nextOf_83 : decode cX6_nextOf 83 = .ok (.iload_n 2, 1) := by decide +kernel
theorem dX6_nextOf_84 : decode cX6_nextOf 84 = .ok (.iaload, 1) := by decide +kernel
theorem dX6_nextOf_85 : decode cX6_nextOf 85 = .ok (.invokestatic 182, 3) := by decide +kernel
theorem dX6_nextOf_88 : decode cX6_nextOf 88 = .ok (.iconst 3, 1) := by decide +kernel
theorem dX6_nextOf_89 : decode cX6_nextOf 89 = .ok (.if_icmp .ge 7, 3) := by decide +kernel
theorem dX6_nextOf_92 : decode cX6_nextOf 92 = .ok (.iload_n 2, 1) := by decide +kernel
theorem dX6_nextOf_93 : decode cX6_nextOf 93 = .ok (.goto 4, 3) := by decide +kernel
theorem dX6_nextOf_96 : decode cX6_nextOf 96 = .ok (.iload_n 3, 1) := by decide +kernel
theorem dX6_nextOf_97 : decode cX6_nextOf 97 = .ok (.ireturn, 1) := by decide +kernel
theorem dX6_nthOf_0 : decode cX6_nthOf 0 = .ok (.iload_n 0, 1) := by decide +kernel
theorem dX6_nthOf_1 : decode cX6_nthOf 1 = .ok (.istore_n 2, 1) := by decide +kernel
theorem dX6_nthOf_2 : decode cX6_nthOf 2 = .ok (.iconst 0, 1) := by decide +kernel
theorem dX6_nthOf_3 : decode cX6_nthOf 3 = .ok (.istore_n 3, 1) := by decide +kernel
theorem dX6_nthOf_4 : decode cX6_nthOf 4 = .ok (.iload_n 3, 1) := by decide +kernel
theorem dX6_nthOf_5 : decode cX6_nthOf 5 = .ok (.iload_n 1, 1) := by decide +kernel
theorem dX6_nthOf_6 : decode cX6_nthOf 6 = .ok (.if_icmp .ge 15, 3) := by decide +kernel
theorem dX6_nthOf_9 : decode cX6_nthOf 9 = .ok (.iload_n 2, 1) := by decide +kernel
theorem dX6_nthOf_10 : decode cX6_nthOf 10 = .ok (.iload_n 2, 1) := by decide +kernel
theorem dX6_nthOf_11 : decode cX6_nthOf 11 = .ok (.iconst 1, 1) := by decide +kernel
theorem dX6_nthOf_12 : decode cX6_nthOf 12 = .ok (.isub, 1) := by decide +kernel
theorem dX6_nthOf_13 : decode cX6_nthOf 13 = .ok (.iand, 1) := by decide +kernel
theorem dX6_nthOf_14 : decode cX6_nthOf 14 = .ok (.istore_n 2, 1) := by decide +kernel
theorem dX6_nthOf_15 : decode cX6_nthOf 15 = .ok (.iinc 3 1, 3) := by decide +kernel
theorem dX6_nthOf_18 : decode cX6_nthOf 18 = .ok (.goto (-14), 3) := by decide +kernel
theorem dX6_nthOf_21 : decode cX6_nthOf 21 = .ok (.iconst 0, 1) := by decide +kernel
theorem dX6_nthOf_22 : decode cX6_nthOf 22 = .ok (.istore_n 3, 1) := by decide +kernel
theorem dX6_nthOf_23 : decode cX6_nthOf 23 = .ok (.iload_n 2, 1) := by decide +kernel
theorem dX6_nthOf_24 : decode cX6_nthOf 24 = .ok (.iload_n 3, 1) := by decide +kernel
theorem dX6_nthOf_25 : decode cX6_nthOf 25 = .ok (.invokestatic 185, 3) := by decide +kernel
theorem dX6_nthOf_28 : decode cX6_nthOf 28 = .ok (.ifCond .ne 9, 3) := by decide +kernel
theorem dX6_nthOf_31 : decode cX6_nthOf 31 = .ok (.iinc 3 1, 3) := by decide +kernel
theorem dX6_nthOf_34 : decode cX6_nthOf 34 = .ok (.goto (-11), 3) := by decide +kernel
theorem dX6_nthOf_37 : decode cX6_nthOf 37 = .ok (.iload_n 3, 1) := by decide +kernel
theorem dX6_nthOf_38 : decode cX6_nthOf 38 = .ok (.ireturn, 1) := by decide +kernel
theorem dX6_ruleOne_0 : decode cX6_ruleOne 0 = .ok (.iconst 0, 1) := by decide +kernel
theorem dX6_ruleOne_1 : decode cX6_ruleOne 1 = .ok (.istore_n 3, 1) := by decide +kernel
theorem dX6_ruleOne_2 : decode cX6_ruleOne 2 = .ok (.iload_n 3, 1) := by decide +kernel
theorem dX6_ruleOne_3 : decode cX6_ruleOne 3 = .ok (.aload_n 0, 1) := by decide +kernel
theorem dX6_ruleOne_4 : decode cX6_ruleOne 4 = .ok (.getfield 13, 3) := by decide +kernel
theorem dX6_ruleOne_7 : decode cX6_ruleOne 7 = .ok (.iload_n 2, 1) := by decide +kernel
theorem dX6_ruleOne_8 : decode cX6_ruleOne 8 = .ok (.iaload, 1) := by decide +kernel
theorem dX6_ruleOne_9 : decode cX6_ruleOne 9 = .ok (.if_icmp .ge 102, 3) := by decide +kernel
theorem dX6_ruleOne_12 : decode cX6_ruleOne 12 = .ok (.ldc 145, 2) := by decide +kernel
theorem dX6_ruleOne_14 : decode cX6_ruleOne 14 = .ok (.istore 4, 2) := by decide +kernel
theorem dX6_ruleOne_16 : decode cX6_ruleOne 16 = .ok (.iconst 0, 1) := by decide +kernel
theorem dX6_ruleOne_17 : decode cX6_ruleOne 17 = .ok (.istore 5, 2) := by decide +kernel
theorem dX6_ruleOne_19 : decode cX6_ruleOne 19 = .ok (.iload 5, 2) := by decide +kernel
theorem dX6_ruleOne_21 : decode cX6_ruleOne 21 = .ok (.aload_n 0, 1) := by decide +kernel
theorem dX6_ruleOne_22 : decode cX6_ruleOne 22 = .ok (.getfield 13, 3) := by decide +kernel
theorem dX6_ruleOne_25 : decode cX6_ruleOne 25 = .ok (.iload_n 1, 1) := by decide +kernel
theorem dX6_ruleOne_26 : decode cX6_ruleOne 26 = .ok (.iaload, 1) := by decide +kernel
theorem dX6_ruleOne_27 : decode cX6_ruleOne 27 = .ok (.if_icmp .ge 52, 3) := by decide +kernel
theorem dX6_ruleOne_30 : decode cX6_ruleOne 30 = .ok (.aload_n 0, 1) := by decide +kernel
theorem dX6_ruleOne_31 : decode cX6_ruleOne 31 = .ok (.getfield 31, 3) := by decide +kernel
theorem dX6_ruleOne_34 : decode cX6_ruleOne 34 = .ok (.iconst 4, 1) := by decide +kernel
theorem dX6_ruleOne_35 : decode cX6_ruleOne 35 = .ok (.iload_n 1, 1) := by decide +kernel
theorem dX6_ruleOne_36 : decode cX6_ruleOne 36 = .ok (.imul, 1) := by decide +kernel
theorem dX6_ruleOne_37 : decode cX6_ruleOne 37 = .ok (.iload 5, 2) := by decide +kernel
theorem dX6_ruleOne_39 : decode cX6_ruleOne 39 = .ok (.iadd, 1) := by decide +kernel
theorem dX6_ruleOne_40 : decode cX6_ruleOne 40 = .ok (.iaload, 1) := by decide +kernel
theorem dX6_ruleOne_41 : decode cX6_ruleOne 41 = .ok (.aload_n 0, 1) := by decide +kernel
theorem dX6_ruleOne_42 : decode cX6_ruleOne 42 = .ok (.getfield 34, 3) := by decide +kernel
theorem dX6_ruleOne_45 : decode cX6_ruleOne 45 = .ok (.iload_n 1, 1) := by decide +kernel
theorem dX6_ruleOne_46 : decode cX6_ruleOne 46 = .ok (.iload_n 2, 1) := by decide +kernel
theorem dX6_ruleOne_47 : decode cX6_ruleOne 47 = .ok (.iload 5, 2) := by decide +kernel
theorem dX6_ruleOne_49 : decode cX6_ruleOne 49 = .ok (.iload_n 3, 1) := by decide +kernel
theorem dX6_ruleOne_50 : decode cX6_ruleOne 50 = .ok (.invokestatic 179, 3) := by decide +kernel
theorem dX6_ruleOne_53 : decode cX6_ruleOne 53 = .ok (.iaload, 1) := by decide +kernel
theorem dX6_ruleOne_54 : decode cX6_ruleOne 54 = .ok (.iadd, 1) := by decide +kernel
theorem dX6_ruleOne_55 : decode cX6_ruleOne 55 = .ok (.istore 6, 2) := by decide +kernel
theorem dX6_ruleOne_57 : decode cX6_ruleOne 57 = .ok (.iload 6, 2) := by decide +kernel
theorem dX6_ruleOne_59 : decode cX6_ruleOne 59 = .ok (.iload 4, 2) := by decide +kernel
theorem dX6_ruleOne_61 : decode cX6_ruleOne 61 = .ok (.if_icmp .ge 8, 3) := by decide +kernel
theorem dX6_ruleOne_64 : decode cX6_ruleOne 64 = .ok (.iload 6, 2) := by decide +kernel
theorem dX6_ruleOne_66 : decode cX6_ruleOne 66 = .ok (.goto 5, 3) := by decide +kernel
theorem dX6_ruleOne_69 : decode cX6_ruleOne 69 = .ok (.iload 4, 2) := by decide +kernel
theorem dX6_ruleOne_71 : decode cX6_ruleOne 71 = .ok (.istore 4, 2) := by decide +kernel
theorem dX6_ruleOne_73 : decode cX6_ruleOne 73 = .ok (.iinc 5 1, 3) := by decide +kernel
theorem dX6_ruleOne_76 : decode cX6_ruleOne 76 = .ok (.goto (-57), 3) := by decide +kernel
theorem dX6_ruleOne_79 : decode cX6_ruleOne 79 = .ok (.aload_n 0, 1) := by decide +kernel
theorem dX6_ruleOne_80 : decode cX6_ruleOne 80 = .ok (.getfield 31, 3) := by decide +kernel
theorem dX6_ruleOne_83 : decode cX6_ruleOne 83 = .ok (.iconst 4, 1) := by decide +kernel
theorem dX6_ruleOne_84 : decode cX6_ruleOne 84 = .ok (.iload_n 2, 1) := by decide +kernel
theorem dX6_ruleOne_85 : decode cX6_ruleOne 85 = .ok (.imul, 1) := by decide +kernel
theorem dX6_ruleOne_86 : decode cX6_ruleOne 86 = .ok (.iload_n 3, 1) := by decide +kernel
theorem dX6_ruleOne_87 : decode cX6_ruleOne 87 = .ok (.iadd, 1) := by decide +kernel
theorem dX6_ruleOne_88 : decode cX6_ruleOne 88 = .ok (.aload_n 0, 1) := by decide +kernel
theorem dX6_ruleOne_89 : decode cX6_ruleOne 89 = .ok (.getfield 31, 3) := by decide +kernel
theorem dX6_ruleOne_92 : decode cX6_ruleOne 92 = .ok (.iconst 4, 1) := by decide +kernel
theorem dX6_ruleOne_93 : decode cX6_ruleOne 93 = .ok (.iload_n 2, 1) := by decide +kernel
theorem dX6_ruleOne_94 : decode cX6_ruleOne 94 = .ok (.imul, 1) := by decide +kernel
theorem dX6_ruleOne_95 : decode cX6_ruleOne 95 = .ok (.iload_n 3, 1) := by decide +kernel
theorem dX6_ruleOne_96 : decode cX6_ruleOne 96 = .ok (.iadd, 1) := by decide +kernel
theorem dX6_ruleOne_97 : decode cX6_ruleOne 97 = .ok (.iaload, 1) := by decide +kernel
theorem dX6_ruleOne_98 : decode cX6_ruleOne 98 = .ok (.iload 4, 2) := by decide +kernel
theorem dX6_ruleOne_100 : decode cX6_ruleOne 100 = .ok (.iadd, 1) := by decide +kernel
theorem dX6_ruleOne_101 : decode cX6_ruleOne 101 = .ok (.invokestatic 191, 3) := by decide +kernel
theorem dX6_ruleOne_104 : decode cX6_ruleOne 104 = .ok (.iastore, 1) := by decide +kernel
theorem dX6_ruleOne_105 : decode cX6_ruleOne 105 = .ok (.iinc 3 1, 3) := by decide +kernel
theorem dX6_ruleOne_108 : decode cX6_ruleOne 108 = .ok (.goto (-106), 3) := by decide +kernel
theorem dX6_ruleOne_111 : decode cX6_ruleOne 111 = .ok (.return_, 1) := by decide +kernel
theorem dX6_ruleTwo_0 : decode cX6_ruleTwo 0 = .ok (.iconst 0, 1) := by decide +kernel
theorem dX6_ruleTwo_1 : decode cX6_ruleTwo 1 = .ok (.istore 4, 2) := by decide +kernel
theorem dX6_ruleTwo_3 : decode cX6_ruleTwo 3 = .ok (.iload 4, 2) := by decide +kernel
theorem dX6_ruleTwo_5 : decode cX6_ruleTwo 5 = .ok (.aload_n 0, 1) := by decide +kernel
theorem dX6_ruleTwo_6 : decode cX6_ruleTwo 6 = .ok (.getfield 13, 3) := by decide +kernel
theorem dX6_ruleTwo_9 : decode cX6_ruleTwo 9 = .ok (.iload_n 2, 1) := by decide +kernel
theorem dX6_ruleTwo_10 : decode cX6_ruleTwo 10 = .ok (.iaload, 1) := by decide +kernel
theorem dX6_ruleTwo_11 : decode cX6_ruleTwo 11 = .ok (.aload_n 0, 1) := by decide +kernel
theorem dX6_ruleTwo_12 : decode cX6_ruleTwo 12 = .ok (.getfield 13, 3) := by decide +kernel
theorem dX6_ruleTwo_15 : decode cX6_ruleTwo 15 = .ok (.iload_n 3, 1) := by decide +kernel
theorem dX6_ruleTwo_16 : decode cX6_ruleTwo 16 = .ok (.iaload, 1) := by decide +kernel
theorem dX6_ruleTwo_17 : decode cX6_ruleTwo 17 = .ok (.imul, 1) := by decide +kernel
theorem dX6_ruleTwo_18 : decode cX6_ruleTwo 18 = .ok (.if_icmp .ge 168, 3) := by decide +kernel
theorem dX6_ruleTwo_21 : decode cX6_ruleTwo 21 = .ok (.iload 4, 2) := by decide +kernel
theorem dX6_ruleTwo_23 : decode cX6_ruleTwo 23 = .ok (.aload_n 0, 1) := by decide +kernel
theorem dX6_ruleTwo_24 : decode cX6_ruleTwo 24 = .ok (.getfield 13, 3) := by decide +kernel
theorem dX6_ruleTwo_27 : decode cX6_ruleTwo 27 = .ok (.iload_n 3, 1) := by decide +kernel
theorem dX6_ruleTwo_28 : decode cX6_ruleTwo 28 = .ok (.iaload, 1) := by decide +kernel
theorem dX6_ruleTwo_29 : decode cX6_ruleTwo 29 = .ok (.idiv, 1) := by decide +kernel
theorem dX6_ruleTwo_30 : decode cX6_ruleTwo 30 = .ok (.istore 5, 2) := by decide +kernel
theorem dX6_ruleTwo_32 : decode cX6_ruleTwo 32 = .ok (.iload 4, 2) := by decide +kernel
theorem dX6_ruleTwo_34 : decode cX6_ruleTwo 34 = .ok (.aload_n 0, 1) := by decide +kernel
theorem dX6_ruleTwo_35 : decode cX6_ruleTwo 35 = .ok (.getfield 13, 3) := by decide +kernel
theorem dX6_ruleTwo_38 : decode cX6_ruleTwo 38 = .ok (.iload_n 3, 1) := by decide +kernel
theorem dX6_ruleTwo_39 : decode cX6_ruleTwo 39 = .ok (.iaload, 1) := by decide +kernel
theorem dX6_ruleTwo_40 : decode cX6_ruleTwo 40 = .ok (.irem, 1) := by decide +kernel
theorem dX6_ruleTwo_41 : decode cX6_ruleTwo 41 = .ok (.istore 6, 2) := by decide +kernel
theorem dX6_ruleTwo_43 : decode cX6_ruleTwo 43 = .ok (.ldc 145, 2) := by decide +kernel
theorem dX6_ruleTwo_45 : decode cX6_ruleTwo 45 = .ok (.istore 7, 2) := by decide +kernel
theorem dX6_ruleTwo_47 : decode cX6_ruleTwo 47 = .ok (.iconst 0, 1) := by decide +kernel
theorem dX6_ruleTwo_48 : decode cX6_ruleTwo 48 = .ok (.istore 8, 2) := by decide +kernel
theorem dX6_ruleTwo_50 : decode cX6_ruleTwo 50 = .ok (.iload 8, 2) := by decide +kernel
theorem dX6_ruleTwo_52 : decode cX6_ruleTwo 52 = .ok (.aload_n 0, 1) := by decide +kernel
theorem dX6_ruleTwo_53 : decode cX6_ruleTwo 53 = .ok (.getfield 13, 3) := by decide +kernel
theorem dX6_ruleTwo_56 : decode cX6_ruleTwo 56 = .ok (.iload_n 1, 1) := by decide +kernel
theorem dX6_ruleTwo_57 : decode cX6_ruleTwo 57 = .ok (.iaload, 1) := by decide +kernel
theorem dX6_ruleTwo_58 : decode cX6_ruleTwo 58 = .ok (.if_icmp .ge 68, 3) := by decide +kernel
theorem dX6_ruleTwo_61 : decode cX6_ruleTwo 61 = .ok (.aload_n 0, 1) := by decide +kernel
theorem dX6_ruleTwo_62 : decode cX6_ruleTwo 62 = .ok (.getfield 31, 3) := by decide +kernel
theorem dX6_ruleTwo_65 : decode cX6_ruleTwo 65 = .ok (.iconst 4, 1) := by decide +kernel
theorem dX6_ruleTwo_66 : decode cX6_ruleTwo 66 = .ok (.iload_n 1, 1) := by decide +kernel
theorem dX6_ruleTwo_67 : decode cX6_ruleTwo 67 = .ok (.imul, 1) := by decide +kernel
theorem dX6_ruleTwo_68 : decode cX6_ruleTwo 68 = .ok (.iload 8, 2) := by decide +kernel
theorem dX6_ruleTwo_70 : decode cX6_ruleTwo 70 = .ok (.iadd, 1) := by decide +kernel
theorem dX6_ruleTwo_71 : decode cX6_ruleTwo 71 = .ok (.iaload, 1) := by decide +kernel
theorem dX6_ruleTwo_72 : decode cX6_ruleTwo 72 = .ok (.aload_n 0, 1) := by decide +kernel
theorem dX6_ruleTwo_73 : decode cX6_ruleTwo 73 = .ok (.getfield 34, 3) := by decide +kernel
theorem dX6_ruleTwo_76 : decode cX6_ruleTwo 76 = .ok (.iload_n 1, 1) := by decide +kernel
theorem dX6_ruleTwo_77 : decode cX6_ruleTwo 77 = .ok (.iload_n 2, 1) := by decide +kernel
theorem dX6_ruleTwo_78 : decode cX6_ruleTwo 78 = .ok (.iload 8, 2) := by decide +kernel
theorem dX6_ruleTwo_80 : decode cX6_ruleTwo 80 = .ok (.iload 5, 2) := by decide +kernel
theorem dX6_ruleTwo_82 : decode cX6_ruleTwo 82 = .ok (.invokestatic 179, 3) := by decide +kernel
theorem dX6_ruleTwo_85 : decode cX6_ruleTwo 85 = .ok (.iaload, 1) := by decide +kernel
theorem dX6_ruleTwo_86 : decode cX6_ruleTwo 86 = .ok (.iadd, 1) := by decide +kernel
theorem dX6_ruleTwo_87 : decode cX6_ruleTwo 87 = .ok (.aload_n 0, 1) := by decide +kernel
theorem dX6_ruleTwo_88 : decode cX6_ruleTwo 88 = .ok (.getfield 34, 3) := by decide +kernel
theorem dX6_ruleTwo_91 : decode cX6_ruleTwo 91 = .ok (.iload_n 1, 1) := by decide +kernel
theorem dX6_ruleTwo_92 : decode cX6_ruleTwo 92 = .ok (.iload_n 3, 1) := by decide +kernel
theorem dX6_ruleTwo_93 : decode cX6_ruleTwo 93 = .ok (.iload 8, 2) := by decide +kernel
theorem dX6_ruleTwo_95 : decode cX6_ruleTwo 95 = .ok (.iload 6, 2) := by decide +kernel
theorem dX6_ruleTwo_97 : decode cX6_ruleTwo 97 = .ok (.invokestatic 179, 3) := by decide +kernel
theorem dX6_ruleTwo_100 : decode cX6_ruleTwo 100 = .ok (.iaload, 1) := by decide +kernel
theorem dX6_ruleTwo_101 : decode cX6_ruleTwo 101 = .ok (.iadd, 1) := by decide +kernel
theorem dX6_ruleTwo_102 : decode cX6_ruleTwo 102 = .ok (.istore 9, 2) := by decide +kernel
theorem dX6_ruleTwo_104 : decode cX6_ruleTwo 104 = .ok (.iload 9, 2) := by decide +kernel
theorem dX6_ruleTwo_106 : decode cX6_ruleTwo 106 = .ok (.iload 7, 2) := by decide +kernel
theorem dX6_ruleTwo_108 : decode cX6_ruleTwo 108 = .ok (.if_icmp .ge 8, 3) := by decide +kernel
theorem dX6_ruleTwo_111 : decode cX6_ruleTwo 111 = .ok (.iload 9, 2) := by decide +kernel
theorem dX6_ruleTwo_113 : decode cX6_ruleTwo 113 = .ok (.goto 5, 3) := by decide +kernel
theorem dX6_ruleTwo_116 : decode cX6_ruleTwo 116 = .ok (.iload 7, 2) := by decide +kernel
theorem dX6_ruleTwo_118 : decode cX6_ruleTwo 118 = .ok (.istore 7, 2) := by decide +kernel
theorem dX6_ruleTwo_120 : decode cX6_ruleTwo 120 = .ok (.iinc 8 1, 3) := by decide +kernel
theorem dX6_ruleTwo_123 : decode cX6_ruleTwo 123 = .ok (.goto (-73), 3) := by decide +kernel
theorem dX6_ruleTwo_126 : decode cX6_ruleTwo 126 = .ok (.aload_n 0, 1) := by decide +kernel
theorem dX6_ruleTwo_127 : decode cX6_ruleTwo 127 = .ok (.getfield 34, 3) := by decide +kernel
theorem dX6_ruleTwo_130 : decode cX6_ruleTwo 130 = .ok (.iload_n 2, 1) := by decide +kernel
theorem dX6_ruleTwo_131 : decode cX6_ruleTwo 131 = .ok (.iload_n 3, 1) := by decide +kernel
theorem dX6_ruleTwo_132 : decode cX6_ruleTwo 132 = .ok (.iload 5, 2) := by decide +kernel
theorem dX6_ruleTwo_134 : decode cX6_ruleTwo 134 = .ok (.iload 6, 2) := by decide +kernel
theorem dX6_ruleTwo_136 : decode cX6_ruleTwo 136 = .ok (.invokestatic 179, 3) := by decide +kernel
theorem dX6_ruleTwo_139 : decode cX6_ruleTwo 139 = .ok (.iaload, 1) := by decide +kernel
theorem dX6_ruleTwo_140 : decode cX6_ruleTwo 140 = .ok (.iload 7, 2) := by decide +kernel
theorem dX6_ruleTwo_142 : decode cX6_ruleTwo 142 = .ok (.iadd, 1) := by decide +kernel
theorem dX6_ruleTwo_143 : decode cX6_ruleTwo 143 = .ok (.invokestatic 191, 3) := by decide +kernel
theorem dX6_ruleTwo_146 : decode cX6_ruleTwo 146 = .ok (.istore 8, 2) := by decide +kernel
theorem dX6_ruleTwo_148 : decode cX6_ruleTwo 148 = .ok (.aload_n 0, 1) := by decide +kernel
theorem dX6_ruleTwo_149 : decode cX6_ruleTwo 149 = .ok (.getfield 34, 3) := by decide +kernel
theorem dX6_ruleTwo_152 : decode cX6_ruleTwo 152 = .ok (.iload_n 2, 1) := by decide +kernel
theorem dX6_ruleTwo_153 : decode cX6_ruleTwo 153 = .ok (.iload_n 3, 1) := by decide +kernel
theorem dX6_ruleTwo_154 : decode cX6_ruleTwo 154 = .ok (.iload 5, 2) := by decide +kernel
theorem dX6_ruleTwo_156 : decode cX6_ruleTwo 156 = .ok (.iload 6, 2) := by decide +kernel
theorem dX6_ruleTwo_158 : decode cX6_ruleTwo 158 = .ok (.invokestatic 179, 3) := by decide +kernel
theorem dX6_ruleTwo_161 : decode cX6_ruleTwo 161 = .ok (.iload 8, 2) := by decide +kernel
theorem dX6_ruleTwo_163 : decode cX6_ruleTwo 163 = .ok (.iastore, 1) := by decide +kernel
theorem dX6_ruleTwo_164 : decode cX6_ruleTwo 164 = .ok (.aload_n 0, 1) := by decide +kernel
theorem dX6_ruleTwo_165 : decode cX6_ruleTwo 165 = .ok (.getfield 34, 3) := by decide +kernel
theorem dX6_ruleTwo_168 : decode cX6_ruleTwo 168 = .ok (.iload_n 3, 1) := by decide +kernel
theorem dX6_ruleTwo_169 : decode cX6_ruleTwo 169 = .ok (.iload_n 2, 1) := by decide +kernel
theorem dX6_ruleTwo_170 : decode cX6_ruleTwo 170 = .ok (.iload 6, 2) := by decide +kernel
theorem dX6_ruleTwo_172 : decode cX6_ruleTwo 172 = .ok (.iload 5, 2) := by decide +kernel
theorem dX6_ruleTwo_174 : decode cX6_ruleTwo 174 = .ok (.invokestatic 179, 3) := by decide +kernel
theorem dX6_ruleTwo_177 : decode cX6_ruleTwo 177 = .ok (.iload 8, 2) := by decide +kernel
theorem dX6_ruleTwo_179 : decode cX6_ruleTwo 179 = .ok (.iastore, 1) := by decide +kernel
theorem dX6_ruleTwo_180 : decode cX6_ruleTwo 180 = .ok (.iinc 4 1, 3) := by decide +kernel
theorem dX6_ruleTwo_183 : decode cX6_ruleTwo 183 = .ok (.goto (-180), 3) := by decide +kernel
theorem dX6_ruleTwo_186 : decode cX6_ruleTwo 186 = .ok (.aload_n 0, 1) := by decide +kernel
theorem dX6_ruleTwo_187 : decode cX6_ruleTwo 187 = .ok (.getfield 37, 3) := by decide +kernel
theorem dX6_ruleTwo_190 : decode cX6_ruleTwo 190 = .ok (.iload_n 2, 1) := by decide +kernel
theorem dX6_ruleTwo_191 : decode cX6_ruleTwo 191 = .ok (.dup2, 1) := by decide +kernel
theorem dX6_ruleTwo_192 : decode cX6_ruleTwo 192 = .ok (.iaload, 1) := by decide +kernel
theorem dX6_ruleTwo_193 : decode cX6_ruleTwo 193 = .ok (.iconst 1, 1) := by decide +kernel
theorem dX6_ruleTwo_194 : decode cX6_ruleTwo 194 = .ok (.iload_n 3, 1) := by decide +kernel
theorem dX6_ruleTwo_195 : decode cX6_ruleTwo 195 = .ok (.ishl, 1) := by decide +kernel
theorem dX6_ruleTwo_196 : decode cX6_ruleTwo 196 = .ok (.ior, 1) := by decide +kernel
theorem dX6_ruleTwo_197 : decode cX6_ruleTwo 197 = .ok (.iastore, 1) := by decide +kernel
theorem dX6_ruleTwo_198 : decode cX6_ruleTwo 198 = .ok (.aload_n 0, 1) := by decide +kernel
theorem dX6_ruleTwo_199 : decode cX6_ruleTwo 199 = .ok (.getfield 37, 3) := by decide +kernel
theorem dX6_ruleTwo_202 : decode cX6_ruleTwo 202 = .ok (.iload_n 3, 1) := by decide +kernel
theorem dX6_ruleTwo_203 : decode cX6_ruleTwo 203 = .ok (.dup2, 1) := by decide +kernel
theorem dX6_ruleTwo_204 : decode cX6_ruleTwo 204 = .ok (.iaload, 1) := by decide +kernel
theorem dX6_ruleTwo_205 : decode cX6_ruleTwo 205 = .ok (.iconst 1, 1) := by decide +kernel
theorem dX6_ruleTwo_206 : decode cX6_ruleTwo 206 = .ok (.iload_n 2, 1) := by decide +kernel
theorem dX6_ruleTwo_207 : decode cX6_ruleTwo 207 = .ok (.ishl, 1) := by decide +kernel
theorem dX6_ruleTwo_208 : decode cX6_ruleTwo 208 = .ok (.ior, 1) := by decide +kernel
theorem dX6_ruleTwo_209 : decode cX6_ruleTwo 209 = .ok (.iastore, 1) := by decide +kernel
theorem dX6_ruleTwo_210 : decode cX6_ruleTwo 210 = .ok (.return_, 1) := by decide +kernel
theorem dX6_leastBeside_0 : decode cX6_leastBeside 0 = .ok (.ldc 145, 2) := by decide +kernel
theorem dX6_leastBeside_2 : decode cX6_leastBeside 2 = .ok (.istore 4, 2) := by decide +kernel
theorem dX6_leastBeside_4 : decode cX6_leastBeside 4 = .ok (.iconst 0, 1) := by decide +kernel
theorem dX6_leastBeside_5 : decode cX6_leastBeside 5 = .ok (.istore 5, 2) := by decide +kernel
theorem dX6_leastBeside_7 : decode cX6_leastBeside 7 = .ok (.iload 5, 2) := by decide +kernel
theorem dX6_leastBeside_9 : decode cX6_leastBeside 9 = .ok (.aload_n 0, 1) := by decide +kernel
theorem dX6_leastBeside_10 : decode cX6_leastBeside 10 = .ok (.getfield 13, 3) := by decide +kernel
theorem dX6_leastBeside_13 : decode cX6_leastBeside 13 = .ok (.iload_n 3, 1) := by decide +kernel
theorem dX6_leastBeside_14 : decode cX6_leastBeside 14 = .ok (.iaload, 1) := by decide +kernel
theorem dX6_leastBeside_15 : decode cX6_leastBeside 15 = .ok (.if_icmp .ge 52, 3) := by decide +kernel
theorem dX6_leastBeside_18 : decode cX6_leastBeside 18 = .ok (.aload_n 0, 1) := by decide +kernel
theorem dX6_leastBeside_19 : decode cX6_leastBeside 19 = .ok (.getfield 31, 3) := by decide +kernel
theorem dX6_leastBeside_22 : decode cX6_leastBeside 22 = .ok (.iconst 4, 1) := by decide +kernel
theorem dX6_leastBeside_23 : decode cX6_leastBeside 23 = .ok (.iload_n 3, 1) := by decide +kernel
theorem dX6_leastBeside_24 : decode cX6_leastBeside 24 = .ok (.imul, 1) := by decide +kernel
theorem dX6_leastBeside_25 : decode cX6_leastBeside 25 = .ok (.iload 5, 2) := by decide +kernel
theorem dX6_leastBeside_27 : decode cX6_leastBeside 27 = .ok (.iadd, 1) := by decide +kernel
theorem dX6_leastBeside_28 : decode cX6_leastBeside 28 = .ok (.iaload, 1) := by decide +kernel
theorem dX6_leastBeside_29 : decode cX6_leastBeside 29 = .ok (.aload_n 0, 1) := by decide +kernel
theorem dX6_leastBeside_30 : decode cX6_leastBeside 30 = .ok (.getfield 34, 3) := by decide +kernel
theorem dX6_leastBeside_33 : decode cX6_leastBeside 33 = .ok (.iload_n 1, 1) := by decide +kernel
theorem dX6_leastBeside_34 : decode cX6_leastBeside 34 = .ok (.iload_n 3, 1) := by decide +kernel
theorem dX6_leastBeside_35 : decode cX6_leastBeside 35 = .ok (.iload_n 2, 1) := by decide +kernel
theorem dX6_leastBeside_36 : decode cX6_leastBeside 36 = .ok (.iload 5, 2) := by decide +kernel
theorem dX6_leastBeside_38 : decode cX6_leastBeside 38 = .ok (.invokestatic 179, 3) := by decide +kernel
theorem dX6_leastBeside_41 : decode cX6_leastBeside 41 = .ok (.iaload, 1) := by decide +kernel
theorem dX6_leastBeside_42 : decode cX6_leastBeside 42 = .ok (.iadd, 1) := by decide +kernel
theorem dX6_leastBeside_43 : decode cX6_leastBeside 43 = .ok (.istore 6, 2) := by decide +kernel
theorem dX6_leastBeside_45 : decode cX6_leastBeside 45 = .ok (.iload 6, 2) := by decide +kernel
theorem dX6_leastBeside_47 : decode cX6_leastBeside 47 = .ok (.iload 4, 2) := by decide +kernel
theorem dX6_leastBeside_49 : decode cX6_leastBeside 49 = .ok (.if_icmp .ge 8, 3) := by decide +kernel
theorem dX6_leastBeside_52 : decode cX6_leastBeside 52 = .ok (.iload 6, 2) := by decide +kernel
theorem dX6_leastBeside_54 : decode cX6_leastBeside 54 = .ok (.goto 5, 3) := by decide +kernel
theorem dX6_leastBeside_57 : decode cX6_leastBeside 57 = .ok (.iload 4, 2) := by decide +kernel
theorem dX6_leastBeside_59 : decode cX6_leastBeside 59 = .ok (.istore 4, 2) := by decide +kernel
theorem dX6_leastBeside_61 : decode cX6_leastBeside 61 = .ok (.iinc 5 1, 3) := by decide +kernel
theorem dX6_leastBeside_64 : decode cX6_leastBeside 64 = .ok (.goto (-57), 3) := by decide +kernel
theorem dX6_leastBeside_67 : decode cX6_leastBeside 67 = .ok (.iload 4, 2) := by decide +kernel
theorem dX6_leastBeside_69 : decode cX6_leastBeside 69 = .ok (.ireturn, 1) := by decide +kernel
theorem dX6_ruleThree_0 : decode cX6_ruleThree 0 = .ok (.iconst 0, 1) := by decide +kernel
theorem dX6_ruleThree_1 : decode cX6_ruleThree 1 = .ok (.istore_n 2, 1) := by decide +kernel
theorem dX6_ruleThree_2 : decode cX6_ruleThree 2 = .ok (.ldc 194, 2) := by decide +kernel
theorem dX6_ruleThree_4 : decode cX6_ruleThree 4 = .ok (.istore_n 3, 1) := by decide +kernel
theorem dX6_ruleThree_5 : decode cX6_ruleThree 5 = .ok (.iconst 0, 1) := by decide +kernel
theorem dX6_ruleThree_6 : decode cX6_ruleThree 6 = .ok (.istore 4, 2) := by decide +kernel
theorem dX6_ruleThree_8 : decode cX6_ruleThree 8 = .ok (.iload 4, 2) := by decide +kernel
theorem dX6_ruleThree_10 : decode cX6_ruleThree 10 = .ok (.aload_n 0, 1) := by decide +kernel
theorem dX6_ruleThree_11 : decode cX6_ruleThree 11 = .ok (.getfield 13, 3) := by decide +kernel
theorem dX6_ruleThree_14 : decode cX6_ruleThree 14 = .ok (.iload_n 1, 1) := by decide +kernel
theorem dX6_ruleThree_15 : decode cX6_ruleThree 15 = .ok (.iaload, 1) := by decide +kernel
theorem dX6_ruleThree_16 : decode cX6_ruleThree 16 = .ok (.if_icmp .ge 101, 3) := by decide +kernel
theorem dX6_ruleThree_19 : decode cX6_ruleThree 19 = .ok (.aload_n 0, 1) := by decide +kernel
theorem dX6_ruleThree_20 : decode cX6_ruleThree 20 = .ok (.getfield 31, 3) := by decide +kernel
theorem dX6_ruleThree_23 : decode cX6_ruleThree 23 = .ok (.iconst 4, 1) := by decide +kernel
theorem dX6_ruleThree_24 : decode cX6_ruleThree 24 = .ok (.iload_n 1, 1) := by decide +kernel
theorem dX6_ruleThree_25 : decode cX6_ruleThree 25 = .ok (.imul, 1) := by decide +kernel
theorem dX6_ruleThree_26 : decode cX6_ruleThree 26 = .ok (.iload 4, 2) := by decide +kernel
theorem dX6_ruleThree_28 : decode cX6_ruleThree 28 = .ok (.iadd, 1) := by decide +kernel
theorem dX6_ruleThree_29 : decode cX6_ruleThree 29 = .ok (.iaload, 1) := by decide +kernel
theorem dX6_ruleThree_30 : decode cX6_ruleThree 30 = .ok (.istore 5, 2) := by decide +kernel
theorem dX6_ruleThree_32 : decode cX6_ruleThree 32 = .ok (.iconst 0, 1) := by decide +kernel
theorem dX6_ruleThree_33 : decode cX6_ruleThree 33 = .ok (.istore 6, 2) := by decide +kernel
theorem dX6_ruleThree_35 : decode cX6_ruleThree 35 = .ok (.iload 6, 2) := by decide +kernel
theorem dX6_ruleThree_37 : decode cX6_ruleThree 37 = .ok (.aload_n 0, 1) := by decide +kernel
theorem dX6_ruleThree_38 : decode cX6_ruleThree 38 = .ok (.getfield 132, 3) := by decide +kernel
theorem dX6_ruleThree_41 : decode cX6_ruleThree 41 = .ok (.if_icmp .ge 44, 3) := by decide +kernel
theorem dX6_ruleThree_44 : decode cX6_ruleThree 44 = .ok (.iload 5, 2) := by decide +kernel
theorem dX6_ruleThree_46 : decode cX6_ruleThree 46 = .ok (.aload_n 0, 1) := by decide +kernel
theorem dX6_ruleThree_47 : decode cX6_ruleThree 47 = .ok (.getfield 37, 3) := by decide +kernel
theorem dX6_ruleThree_50 : decode cX6_ruleThree 50 = .ok (.iload_n 1, 1) := by decide +kernel
theorem dX6_ruleThree_51 : decode cX6_ruleThree 51 = .ok (.iaload, 1) := by decide +kernel
theorem dX6_ruleThree_52 : decode cX6_ruleThree 52 = .ok (.iload 6, 2) := by decide +kernel
theorem dX6_ruleThree_54 : decode cX6_ruleThree 54 = .ok (.invokestatic 185, 3) := by decide +kernel
theorem dX6_ruleThree_57 : decode cX6_ruleThree 57 = .ok (.ifCond .eq 15, 3) := by decide +kernel
theorem dX6_ruleThree_60 : decode cX6_ruleThree 60 = .ok (.aload_n 0, 1) := by decide +kernel
theorem dX6_ruleThree_61 : decode cX6_ruleThree 61 = .ok (.iload_n 1, 1) := by decide +kernel
theorem dX6_ruleThree_62 : decode cX6_ruleThree 62 = .ok (.iload 4, 2) := by decide +kernel
theorem dX6_ruleThree_64 : decode cX6_ruleThree 64 = .ok (.iload 6, 2) := by decide +kernel
theorem dX6_ruleThree_66 : decode cX6_ruleThree 66 = .ok (.invokevirtual 195, 3) := by decide +kernel
theorem dX6_ruleThree_69 : decode cX6_ruleThree 69 = .ok (.goto 4, 3) := by decide +kernel
theorem dX6_ruleThree_72 : decode cX6_ruleThree 72 = .ok (.iconst 0, 1) := by decide +kernel
theorem dX6_ruleThree_73 : decode cX6_ruleThree 73 = .ok (.iadd, 1) := by decide +kernel
theorem dX6_ruleThree_74 : decode cX6_ruleThree 74 = .ok (.invokestatic 191, 3) := by decide +kernel
theorem dX6_ruleThree_77 : decode cX6_ruleThree 77 = .ok (.istore 5, 2) := by decide +kernel
theorem dX6_ruleThree_79 : decode cX6_ruleThree 79 = .ok (.iinc 6 1, 3) := by decide +kernel
theorem dX6_ruleThree_82 : decode cX6_ruleThree 82 = .ok (.goto (-47), 3) := by decide +kernel
theorem dX6_ruleThree_85 : decode cX6_ruleThree 85 = .ok (.iload 5, 2) := by decide +kernel
theorem dX6_ruleThree_87 : decode cX6_ruleThree 87 = .ok (.iload_n 3, 1) := by decide +kernel
theorem dX6_ruleThree_88 : decode cX6_ruleThree 88 = .ok (.if_icmp .ge 8, 3) := by decide +kernel
theorem dX6_ruleThree_91 : decode cX6_ruleThree 91 = .ok (.iload 4, 2) := by decide +kernel
theorem dX6_ruleThree_93 : decode cX6_ruleThree 93 = .ok (.goto 4, 3) := by decide +kernel
theorem dX6_ruleThree_96 : decode cX6_ruleThree 96 = .ok (.iload_n 2, 1) := by decide +kernel
theorem dX6_ruleThree_97 : decode cX6_ruleThree 97 = .ok (.istore_n 2, 1) := by decide +kernel
theorem dX6_ruleThree_98 : decode cX6_ruleThree 98 = .ok (.iload 5, 2) := by decide +kernel
theorem dX6_ruleThree_100 : decode cX6_ruleThree 100 = .ok (.iload_n 3, 1) := by decide +kernel
theorem dX6_ruleThree_101 : decode cX6_ruleThree 101 = .ok (.if_icmp .ge 8, 3) := by decide +kernel
theorem dX6_ruleThree_104 : decode cX6_ruleThree 104 = .ok (.iload 5, 2) := by decide +kernel
theorem dX6_ruleThree_106 : decode cX6_ruleThree 106 = .ok (.goto 4, 3) := by decide +kernel
theorem dX6_ruleThree_109 : decode cX6_ruleThree 109 = .ok (.iload_n 3, 1) := by decide +kernel
theorem dX6_ruleThree_110 : decode cX6_ruleThree 110 = .ok (.istore_n 3, 1) := by decide +kernel
theorem dX6_ruleThree_111 : decode cX6_ruleThree 111 = .ok (.iinc 4 1, 3) := by decide +kernel
theorem dX6_ruleThree_114 : decode cX6_ruleThree 114 = .ok (.goto (-106), 3) := by decide +kernel
theorem dX6_ruleThree_117 : decode cX6_ruleThree 117 = .ok (.aload_n 0, 1) := by decide +kernel
theorem dX6_ruleThree_118 : decode cX6_ruleThree 118 = .ok (.getfield 49, 3) := by decide +kernel
theorem dX6_ruleThree_121 : decode cX6_ruleThree 121 = .ok (.iload_n 1, 1) := by decide +kernel
theorem dX6_ruleThree_122 : decode cX6_ruleThree 122 = .ok (.iload_n 2, 1) := by decide +kernel
theorem dX6_ruleThree_123 : decode cX6_ruleThree 123 = .ok (.iastore, 1) := by decide +kernel
theorem dX6_ruleThree_124 : decode cX6_ruleThree 124 = .ok (.iconst 0, 1) := by decide +kernel
theorem dX6_ruleThree_125 : decode cX6_ruleThree 125 = .ok (.istore 4, 2) := by decide +kernel
theorem dX6_ruleThree_127 : decode cX6_ruleThree 127 = .ok (.iload 4, 2) := by decide +kernel
theorem dX6_ruleThree_129 : decode cX6_ruleThree 129 = .ok (.aload_n 0, 1) := by decide +kernel
theorem dX6_ruleThree_130 : decode cX6_ruleThree 130 = .ok (.getfield 132, 3) := by decide +kernel
theorem dX6_ruleThree_133 : decode cX6_ruleThree 133 = .ok (.if_icmp .ge 86, 3) := by decide +kernel
theorem dX6_ruleThree_136 : decode cX6_ruleThree 136 = .ok (.iconst 0, 1) := by decide +kernel
theorem dX6_ruleThree_137 : decode cX6_ruleThree 137 = .ok (.istore 5, 2) := by decide +kernel
theorem dX6_ruleThree_139 : decode cX6_ruleThree 139 = .ok (.iload 5, 2) := by decide +kernel
theorem dX6_ruleThree_141 : decode cX6_ruleThree 141 = .ok (.aload_n 0, 1) := by decide +kernel
theorem dX6_ruleThree_142 : decode cX6_ruleThree 142 = .ok (.getfield 13, 3) := by decide +kernel
theorem dX6_ruleThree_145 : decode cX6_ruleThree 145 = .ok (.iload 4, 2) := by decide +kernel
theorem dX6_ruleThree_147 : decode cX6_ruleThree 147 = .ok (.iaload, 1) := by decide +kernel
theorem dX6_ruleThree_148 : decode cX6_ruleThree 148 = .ok (.if_icmp .ge 65, 3) := by decide +kernel
theorem dX6_ruleThree_151 : decode cX6_ruleThree 151 = .ok (.aload_n 0, 1) := by decide +kernel
theorem dX6_ruleThree_152 : decode cX6_ruleThree 152 = .ok (.getfield 37, 3) := by decide +kernel
theorem dX6_ruleThree_155 : decode cX6_ruleThree 155 = .ok (.iload_n 1, 1) := by decide +kernel
theorem dX6_ruleThree_156 : decode cX6_ruleThree 156 = .ok (.iaload, 1) := by decide +kernel
theorem dX6_ruleThree_157 : decode cX6_ruleThree 157 = .ok (.iload 4, 2) := by decide +kernel
theorem dX6_ruleThree_159 : decode cX6_ruleThree 159 = .ok (.invokestatic 185, 3) := by decide +kernel
theorem dX6_ruleThree_162 : decode cX6_ruleThree 162 = .ok (.ifCond .eq 51, 3) := by decide +kernel
theorem dX6_ruleThree_165 : decode cX6_ruleThree 165 = .ok (.aload_n 0, 1) := by decide +kernel
theorem dX6_ruleThree_166 : decode cX6_ruleThree 166 = .ok (.getfield 31, 3) := by decide +kernel
theorem dX6_ruleThree_169 : decode cX6_ruleThree 169 = .ok (.iconst 4, 1) := by decide +kernel
theorem dX6_ruleThree_170 : decode cX6_ruleThree 170 = .ok (.iload 4, 2) := by decide +kernel
theorem dX6_ruleThree_172 : decode cX6_ruleThree 172 = .ok (.imul, 1) := by decide +kernel
theorem dX6_ruleThree_173 : decode cX6_ruleThree 173 = .ok (.iload 5, 2) := by decide +kernel
theorem dX6_ruleThree_175 : decode cX6_ruleThree 175 = .ok (.iadd, 1) := by decide +kernel
theorem dX6_ruleThree_176 : decode cX6_ruleThree 176 = .ok (.aload_n 0, 1) := by decide +kernel
theorem dX6_ruleThree_177 : decode cX6_ruleThree 177 = .ok (.getfield 31, 3) := by decide +kernel
theorem dX6_ruleThree_180 : decode cX6_ruleThree 180 = .ok (.iconst 4, 1) := by decide +kernel
theorem dX6_ruleThree_181 : decode cX6_ruleThree 181 = .ok (.iload 4, 2) := by decide +kernel
theorem dX6_ruleThree_183 : decode cX6_ruleThree 183 = .ok (.imul, 1) := by decide +kernel
theorem dX6_ruleThree_184 : decode cX6_ruleThree 184 = .ok (.iload 5, 2) := by decide +kernel
theorem dX6_ruleThree_186 : decode cX6_ruleThree 186 = .ok (.iadd, 1) := by decide +kernel
theorem dX6_ruleThree_187 : decode cX6_ruleThree 187 = .ok (.iaload, 1) := by decide +kernel
theorem dX6_ruleThree_188 : decode cX6_ruleThree 188 = .ok (.aload_n 0, 1) := by decide +kernel
theorem dX6_ruleThree_189 : decode cX6_ruleThree 189 = .ok (.getfield 34, 3) := by decide +kernel
theorem dX6_ruleThree_192 : decode cX6_ruleThree 192 = .ok (.iload_n 1, 1) := by decide +kernel
theorem dX6_ruleThree_193 : decode cX6_ruleThree 193 = .ok (.iload 4, 2) := by decide +kernel
theorem dX6_ruleThree_195 : decode cX6_ruleThree 195 = .ok (.iload_n 2, 1) := by decide +kernel
theorem dX6_ruleThree_196 : decode cX6_ruleThree 196 = .ok (.iload 5, 2) := by decide +kernel
theorem dX6_ruleThree_198 : decode cX6_ruleThree 198 = .ok (.invokestatic 179, 3) := by decide +kernel
theorem dX6_ruleThree_201 : decode cX6_ruleThree 201 = .ok (.iaload, 1) := by decide +kernel
theorem dX6_ruleThree_202 : decode cX6_ruleThree 202 = .ok (.iadd, 1) := by decide +kernel
theorem dX6_ruleThree_203 : decode cX6_ruleThree 203 = .ok (.invokestatic 191, 3) := by decide +kernel
theorem dX6_ruleThree_206 : decode cX6_ruleThree 206 = .ok (.iastore, 1) := by decide +kernel
theorem dX6_ruleThree_207 : decode cX6_ruleThree 207 = .ok (.iinc 5 1, 3) := by decide +kernel
theorem dX6_ruleThree_210 : decode cX6_ruleThree 210 = .ok (.goto (-71), 3) := by decide +kernel
theorem dX6_ruleThree_213 : decode cX6_ruleThree 213 = .ok (.iinc 4 1, 3) := by decide +kernel
theorem dX6_ruleThree_216 : decode cX6_ruleThree 216 = .ok (.goto (-89), 3) := by decide +kernel
theorem dX6_ruleThree_219 : decode cX6_ruleThree 219 = .ok (.return_, 1) := by decide +kernel
theorem dX6_reduceAll_0 : decode cX6_reduceAll 0 = .ok (.aload_n 0, 1) := by decide +kernel
theorem dX6_reduceAll_1 : decode cX6_reduceAll 1 = .ok (.invokevirtual 199, 3) := by decide +kernel
theorem dX6_reduceAll_4 : decode cX6_reduceAll 4 = .ok (.iconst 1, 1) := by decide +kernel
theorem dX6_reduceAll_5 : decode cX6_reduceAll 5 = .ok (.aload_n 0, 1) := by decide +kernel
theorem dX6_reduceAll_6 : decode cX6_reduceAll 6 = .ok (.getfield 132, 3) := by decide +kernel
theorem dX6_reduceAll_9 : decode cX6_reduceAll 9 = .ok (.ishl, 1) := by decide +kernel
theorem dX6_reduceAll_10 : decode cX6_reduceAll 10 = .ok (.iconst 1, 1) := by decide +kernel
theorem dX6_reduceAll_11 : decode cX6_reduceAll 11 = .ok (.isub, 1) := by decide +kernel
theorem dX6_reduceAll_12 : decode cX6_reduceAll 12 = .ok (.istore_n 1, 1) := by decide +kernel
theorem dX6_reduceAll_13 : decode cX6_reduceAll 13 = .ok (.iconst 0, 1) := by decide +kernel
theorem dX6_reduceAll_14 : decode cX6_reduceAll 14 = .ok (.istore_n 2, 1) := by decide +kernel
theorem dX6_reduceAll_15 : decode cX6_reduceAll 15 = .ok (.iload_n 2, 1) := by decide +kernel
theorem dX6_reduceAll_16 : decode cX6_reduceAll 16 = .ok (.aload_n 0, 1) := by decide +kernel
theorem dX6_reduceAll_17 : decode cX6_reduceAll 17 = .ok (.getfield 132, 3) := by decide +kernel
theorem dX6_reduceAll_20 : decode cX6_reduceAll 20 = .ok (.if_icmp .ge 173, 3) := by decide +kernel
theorem dX6_reduceAll_23 : decode cX6_reduceAll 23 = .ok (.aload_n 0, 1) := by decide +kernel
theorem dX6_reduceAll_24 : decode cX6_reduceAll 24 = .ok (.iload_n 1, 1) := by decide +kernel
theorem dX6_reduceAll_25 : decode cX6_reduceAll 25 = .ok (.invokevirtual 202, 3) := by decide +kernel
theorem dX6_reduceAll_28 : decode cX6_reduceAll 28 = .ok (.istore_n 3, 1) := by decide +kernel
theorem dX6_reduceAll_29 : decode cX6_reduceAll 29 = .ok (.aload_n 0, 1) := by decide +kernel
theorem dX6_reduceAll_30 : decode cX6_reduceAll 30 = .ok (.getfield 37, 3) := by decide +kernel
theorem dX6_reduceAll_33 : decode cX6_reduceAll 33 = .ok (.iload_n 3, 1) := by decide +kernel
theorem dX6_reduceAll_34 : decode cX6_reduceAll 34 = .ok (.iaload, 1) := by decide +kernel
theorem dX6_reduceAll_35 : decode cX6_reduceAll 35 = .ok (.invokestatic 182, 3) := by decide +kernel
theorem dX6_reduceAll_38 : decode cX6_reduceAll 38 = .ok (.istore 4, 2) := by decide +kernel
theorem dX6_reduceAll_40 : decode cX6_reduceAll 40 = .ok (.aload_n 0, 1) := by decide +kernel
theorem dX6_reduceAll_41 : decode cX6_reduceAll 41 = .ok (.getfield 40, 3) := by decide +kernel
theorem dX6_reduceAll_44 : decode cX6_reduceAll 44 = .ok (.iload_n 2, 1) := by decide +kernel
theorem dX6_reduceAll_45 : decode cX6_reduceAll 45 = .ok (.iload_n 3, 1) := by decide +kernel
theorem dX6_reduceAll_46 : decode cX6_reduceAll 46 = .ok (.iastore, 1) := by decide +kernel
theorem dX6_reduceAll_47 : decode cX6_reduceAll 47 = .ok (.aload_n 0, 1) := by decide +kernel
theorem dX6_reduceAll_48 : decode cX6_reduceAll 48 = .ok (.getfield 43, 3) := by decide +kernel
theorem dX6_reduceAll_51 : decode cX6_reduceAll 51 = .ok (.iload_n 2, 1) := by decide +kernel
theorem dX6_reduceAll_52 : decode cX6_reduceAll 52 = .ok (.iload 4, 2) := by decide +kernel
theorem dX6_reduceAll_54 : decode cX6_reduceAll 54 = .ok (.iconst 3, 1) := by decide +kernel
theorem dX6_reduceAll_55 : decode cX6_reduceAll 55 = .ok (.if_icmp .ge 8, 3) := by decide +kernel
theorem dX6_reduceAll_58 : decode cX6_reduceAll 58 = .ok (.iload 4, 2) := by decide +kernel
theorem dX6_reduceAll_60 : decode cX6_reduceAll 60 = .ok (.goto 4, 3) := by decide +kernel
theorem dX6_reduceAll_63 : decode cX6_reduceAll 63 = .ok (.iconst 3, 1) := by decide +kernel
theorem dX6_reduceAll_64 : decode cX6_reduceAll 64 = .ok (.iastore, 1) := by decide +kernel
theorem dX6_reduceAll_65 : decode cX6_reduceAll 65 = .ok (.aload_n 0, 1) := by decide +kernel
theorem dX6_reduceAll_66 : decode cX6_reduceAll 66 = .ok (.getfield 46, 3) := by decide +kernel
theorem dX6_reduceAll_69 : decode cX6_reduceAll 69 = .ok (.iload_n 2, 1) := by decide +kernel
theorem dX6_reduceAll_70 : decode cX6_reduceAll 70 = .ok (.aload_n 0, 1) := by decide +kernel
theorem dX6_reduceAll_71 : decode cX6_reduceAll 71 = .ok (.getfield 37, 3) := by decide +kernel
theorem dX6_reduceAll_74 : decode cX6_reduceAll 74 = .ok (.iload_n 3, 1) := by decide +kernel
theorem dX6_reduceAll_75 : decode cX6_reduceAll 75 = .ok (.iaload, 1) := by decide +kernel
theorem dX6_reduceAll_76 : decode cX6_reduceAll 76 = .ok (.iastore, 1) := by decide +kernel
theorem dX6_reduceAll_77 : decode cX6_reduceAll 77 = .ok (.iload 4, 2) := by decide +kernel
theorem dX6_reduceAll_79 : decode cX6_reduceAll 79 = .ok (.iconst 1, 1) := by decide +kernel
theorem dX6_reduceAll_80 : decode cX6_reduceAll 80 = .ok (.if_icmp .ne 21, 3) := by decide +kernel
theorem dX6_reduceAll_83 : decode cX6_reduceAll 83 = .ok (.aload_n 0, 1) := by decide +kernel
theorem dX6_reduceAll_84 : decode cX6_reduceAll 84 = .ok (.iload_n 3, 1) := by decide +kernel
theorem dX6_reduceAll_85 : decode cX6_reduceAll 85 = .ok (.aload_n 0, 1) := by decide +kernel
theorem dX6_reduceAll_86 : decode cX6_reduceAll 86 = .ok (.getfield 37, 3) := by decide +kernel
theorem dX6_reduceAll_89 : decode cX6_reduceAll 89 = .ok (.iload_n 3, 1) := by decide +kernel
theorem dX6_reduceAll_90 : decode cX6_reduceAll 90 = .ok (.iaload, 1) := by decide +kernel
theorem dX6_reduceAll_91 : decode cX6_reduceAll 91 = .ok (.iconst 0, 1) := by decide +kernel
theorem dX6_reduceAll_92 : decode cX6_reduceAll 92 = .ok (.invokestatic 205, 3) := by decide +kernel
theorem dX6_reduceAll_95 : decode cX6_reduceAll 95 = .ok (.invokevirtual 208, 3) := by decide +kernel
theorem dX6_reduceAll_98 : decode cX6_reduceAll 98 = .ok (.goto 48, 3) := by decide +kernel
theorem dX6_reduceAll_101 : decode cX6_reduceAll 101 = .ok (.iload 4, 2) := by decide +kernel
theorem dX6_reduceAll_103 : decode cX6_reduceAll 103 = .ok (.iconst 2, 1) := by decide +kernel
theorem dX6_reduceAll_104 : decode cX6_reduceAll 104 = .ok (.if_icmp .ne 31, 3) := by decide +kernel
theorem dX6_reduceAll_107 : decode cX6_reduceAll 107 = .ok (.aload_n 0, 1) := by decide +kernel
theorem dX6_reduceAll_108 : decode cX6_reduceAll 108 = .ok (.iload_n 3, 1) := by decide +kernel
theorem dX6_reduceAll_109 : decode cX6_reduceAll 109 = .ok (.aload_n 0, 1) := by decide +kernel
theorem dX6_reduceAll_110 : decode cX6_reduceAll 110 = .ok (.getfield 37, 3) := by decide +kernel
theorem dX6_reduceAll_113 : decode cX6_reduceAll 113 = .ok (.iload_n 3, 1) := by decide +kernel
theorem dX6_reduceAll_114 : decode cX6_reduceAll 114 = .ok (.iaload, 1) := by decide +kernel
theorem dX6_reduceAll_115 : decode cX6_reduceAll 115 = .ok (.iconst 0, 1) := by decide +kernel
theorem dX6_reduceAll_116 : decode cX6_reduceAll 116 = .ok (.invokestatic 205, 3) := by decide +kernel
theorem dX6_reduceAll_119 : decode cX6_reduceAll 119 = .ok (.aload_n 0, 1) := by decide +kernel
theorem dX6_reduceAll_120 : decode cX6_reduceAll 120 = .ok (.getfield 37, 3) := by decide +kernel
theorem dX6_reduceAll_123 : decode cX6_reduceAll 123 = .ok (.iload_n 3, 1) := by decide +kernel
theorem dX6_reduceAll_124 : decode cX6_reduceAll 124 = .ok (.iaload, 1) := by decide +kernel
theorem dX6_reduceAll_125 : decode cX6_reduceAll 125 = .ok (.iconst 1, 1) := by decide +kernel
theorem dX6_reduceAll_126 : decode cX6_reduceAll 126 = .ok (.invokestatic 205, 3) := by decide +kernel
theorem dX6_reduceAll_129 : decode cX6_reduceAll 129 = .ok (.invokevirtual 211, 3) := by decide +kernel
theorem dX6_reduceAll_132 : decode cX6_reduceAll 132 = .ok (.goto 14, 3) := by decide +kernel
theorem dX6_reduceAll_135 : decode cX6_reduceAll 135 = .ok (.iload 4, 2) := by decide +kernel
theorem dX6_reduceAll_137 : decode cX6_reduceAll 137 = .ok (.iconst 2, 1) := by decide +kernel
theorem dX6_reduceAll_138 : decode cX6_reduceAll 138 = .ok (.if_icmp .le 8, 3) := by decide +kernel
theorem dX6_reduceAll_141 : decode cX6_reduceAll 141 = .ok (.aload_n 0, 1) := by decide +kernel
theorem dX6_reduceAll_142 : decode cX6_reduceAll 142 = .ok (.iload_n 3, 1) := by decide +kernel
theorem dX6_reduceAll_143 : decode cX6_reduceAll 143 = .ok (.invokevirtual 214, 3) := by decide +kernel
theorem dX6_reduceAll_146 : decode cX6_reduceAll 146 = .ok (.iconst 0, 1) := by decide +kernel
theorem dX6_reduceAll_147 : decode cX6_reduceAll 147 = .ok (.istore 5, 2) := by decide +kernel
theorem dX6_reduceAll_149 : decode cX6_reduceAll 149 = .ok (.iload 5, 2) := by decide +kernel
theorem dX6_reduceAll_151 : decode cX6_reduceAll 151 = .ok (.aload_n 0, 1) := by decide +kernel
theorem dX6_reduceAll_152 : decode cX6_reduceAll 152 = .ok (.getfield 132, 3) := by decide +kernel
theorem dX6_reduceAll_155 : decode cX6_reduceAll 155 = .ok (.if_icmp .ge 24, 3) := by decide +kernel
theorem dX6_reduceAll_158 : decode cX6_reduceAll 158 = .ok (.aload_n 0, 1) := by decide +kernel
theorem dX6_reduceAll_159 : decode cX6_reduceAll 159 = .ok (.getfield 37, 3) := by decide +kernel
theorem dX6_reduceAll_162 : decode cX6_reduceAll 162 = .ok (.iload 5, 2) := by decide +kernel
theorem dX6_reduceAll_164 : decode cX6_reduceAll 164 = .ok (.dup2, 1) := by decide +kernel
theorem dX6_reduceAll_165 : decode cX6_reduceAll 165 = .ok (.iaload, 1) := by decide +kernel
theorem dX6_reduceAll_166 : decode cX6_reduceAll 166 = .ok (.iconst 1, 1) := by decide +kernel
theorem dX6_reduceAll_167 : decode cX6_reduceAll 167 = .ok (.iload_n 3, 1) := by decide +kernel
theorem dX6_reduceAll_168 : decode cX6_reduceAll 168 = .ok (.ishl, 1) := by decide +kernel
theorem dX6_reduceAll_169 : decode cX6_reduceAll 169 = .ok (.iconst (-1), 1) := by decide +kernel
theorem dX6_reduceAll_170 : decode cX6_reduceAll 170 = .ok (.ixor, 1) := by decide +kernel
theorem dX6_reduceAll_171 : decode cX6_reduceAll 171 = .ok (.iand, 1) := by decide +kernel
theorem dX6_reduceAll_172 : decode cX6_reduceAll 172 = .ok (.iastore, 1) := by decide +kernel
theorem dX6_reduceAll_173 : decode cX6_reduceAll 173 = .ok (.iinc 5 1, 3) := by decide +kernel
theorem dX6_reduceAll_176 : decode cX6_reduceAll 176 = .ok (.goto (-27), 3) := by decide +kernel
theorem dX6_reduceAll_179 : decode cX6_reduceAll 179 = .ok (.iload_n 1, 1) := by decide +kernel
theorem dX6_reduceAll_180 : decode cX6_reduceAll 180 = .ok (.iconst 1, 1) := by decide +kernel
theorem dX6_reduceAll_181 : decode cX6_reduceAll 181 = .ok (.iload_n 3, 1) := by decide +kernel
theorem dX6_reduceAll_182 : decode cX6_reduceAll 182 = .ok (.ishl, 1) := by decide +kernel
theorem dX6_reduceAll_183 : decode cX6_reduceAll 183 = .ok (.iconst (-1), 1) := by decide +kernel
theorem dX6_reduceAll_184 : decode cX6_reduceAll 184 = .ok (.ixor, 1) := by decide +kernel
theorem dX6_reduceAll_185 : decode cX6_reduceAll 185 = .ok (.iand, 1) := by decide +kernel
theorem dX6_reduceAll_186 : decode cX6_reduceAll 186 = .ok (.istore_n 1, 1) := by decide +kernel
theorem dX6_reduceAll_187 : decode cX6_reduceAll 187 = .ok (.iinc 2 1, 3) := by decide +kernel
theorem dX6_reduceAll_190 : decode cX6_reduceAll 190 = .ok (.goto (-175), 3) := by decide +kernel
theorem dX6_reduceAll_193 : decode cX6_reduceAll 193 = .ok (.aload_n 0, 1) := by decide +kernel
theorem dX6_reduceAll_194 : decode cX6_reduceAll 194 = .ok (.getfield 132, 3) := by decide +kernel
theorem dX6_reduceAll_197 : decode cX6_reduceAll 197 = .ok (.iconst 1, 1) := by decide +kernel
theorem dX6_reduceAll_198 : decode cX6_reduceAll 198 = .ok (.isub, 1) := by decide +kernel
theorem dX6_reduceAll_199 : decode cX6_reduceAll 199 = .ok (.istore_n 2, 1) := by decide +kernel
theorem dX6_reduceAll_200 : decode cX6_reduceAll 200 = .ok (.iload_n 2, 1) := by decide +kernel
theorem dX6_reduceAll_201 : decode cX6_reduceAll 201 = .ok (.ifCond .lt 35, 3) := by decide +kernel
theorem dX6_reduceAll_204 : decode cX6_reduceAll 204 = .ok (.aload_n 0, 1) := by decide +kernel
theorem dX6_reduceAll_205 : decode cX6_reduceAll 205 = .ok (.getfield 43, 3) := by decide +kernel
theorem dX6_reduceAll_208 : decode cX6_reduceAll 208 = .ok (.iload_n 2, 1) := by decide +kernel
theorem dX6_reduceAll_209 : decode cX6_reduceAll 209 = .ok (.iaload, 1) := by decide +kernel
theorem dX6_reduceAll_210 : decode cX6_reduceAll 210 = .ok (.iconst 3, 1) := by decide +kernel
theorem dX6_reduceAll_211 : decode cX6_reduceAll 211 = .ok (.if_icmp .ge 19, 3) := by decide +kernel
theorem dX6_reduceAll_214 : decode cX6_reduceAll 214 = .ok (.aload_n 0, 1) := by decide +kernel
theorem dX6_reduceAll_215 : decode cX6_reduceAll 215 = .ok (.aload_n 0, 1) := by decide +kernel
theorem dX6_reduceAll_216 : decode cX6_reduceAll 216 = .ok (.getfield 40, 3) := by decide +kernel
theorem dX6_reduceAll_219 : decode cX6_reduceAll 219 = .ok (.iload_n 2, 1) := by decide +kernel
theorem dX6_reduceAll_220 : decode cX6_reduceAll 220 = .ok (.iaload, 1) := by decide +kernel
theorem dX6_reduceAll_221 : decode cX6_reduceAll 221 = .ok (.aload_n 0, 1) := by decide +kernel
theorem dX6_reduceAll_222 : decode cX6_reduceAll 222 = .ok (.getfield 46, 3) := by decide +kernel
theorem dX6_reduceAll_225 : decode cX6_reduceAll 225 = .ok (.iload_n 2, 1) := by decide +kernel
theorem dX6_reduceAll_226 : decode cX6_reduceAll 226 = .ok (.iaload, 1) := by decide +kernel
theorem dX6_reduceAll_227 : decode cX6_reduceAll 227 = .ok (.invokevirtual 218, 3) := by decide +kernel
theorem dX6_reduceAll_230 : decode cX6_reduceAll 230 = .ok (.iinc 2 (-1), 3) := by decide +kernel
theorem dX6_reduceAll_233 : decode cX6_reduceAll 233 = .ok (.goto (-33), 3) := by decide +kernel
theorem dX6_reduceAll_236 : decode cX6_reduceAll 236 = .ok (.return_, 1) := by decide +kernel
theorem dX6_takeBest_0 : decode cX6_takeBest 0 = .ok (.ldc 194, 2) := by decide +kernel
theorem dX6_takeBest_2 : decode cX6_takeBest 2 = .ok (.istore_n 3, 1) := by decide +kernel
theorem dX6_takeBest_3 : decode cX6_takeBest 3 = .ok (.iconst 0, 1) := by decide +kernel
theorem dX6_takeBest_4 : decode cX6_takeBest 4 = .ok (.istore 4, 2) := by decide +kernel
theorem dX6_takeBest_6 : decode cX6_takeBest 6 = .ok (.iload 4, 2) := by decide +kernel
theorem dX6_takeBest_8 : decode cX6_takeBest 8 = .ok (.aload_n 0, 1) := by decide +kernel
theorem dX6_takeBest_9 : decode cX6_takeBest 9 = .ok (.getfield 13, 3) := by decide +kernel
theorem dX6_takeBest_12 : decode cX6_takeBest 12 = .ok (.iload_n 1, 1) := by decide +kernel
theorem dX6_takeBest_13 : decode cX6_takeBest 13 = .ok (.iaload, 1) := by decide +kernel
theorem dX6_takeBest_14 : decode cX6_takeBest 14 = .ok (.if_icmp .ge 117, 3) := by decide +kernel
theorem dX6_takeBest_17 : decode cX6_takeBest 17 = .ok (.aload_n 0, 1) := by decide +kernel
theorem dX6_takeBest_18 : decode cX6_takeBest 18 = .ok (.getfield 31, 3) := by decide +kernel
theorem dX6_takeBest_21 : decode cX6_takeBest 21 = .ok (.iconst 4, 1) := by decide +kernel
theorem dX6_takeBest_22 : decode cX6_takeBest 22 = .ok (.iload_n 1, 1) := by decide +kernel
theorem dX6_takeBest_23 : decode cX6_takeBest 23 = .ok (.imul, 1) := by decide +kernel
theorem dX6_takeBest_24 : decode cX6_takeBest 24 = .ok (.iload 4, 2) := by decide +kernel
theorem dX6_takeBest_26 : decode cX6_takeBest 26 = .ok (.iadd, 1) := by decide +kernel
theorem dX6_takeBest_27 : decode cX6_takeBest 27 = .ok (.iaload, 1) := by decide +kernel
theorem dX6_takeBest_28 : decode cX6_takeBest 28 = .ok (.istore 5, 2) := by decide +kernel
theorem dX6_takeBest_30 : decode cX6_takeBest 30 = .ok (.iconst 0, 1) := by decide +kernel
theorem dX6_takeBest_31 : decode cX6_takeBest 31 = .ok (.istore 6, 2) := by decide +kernel
theorem dX6_takeBest_33 : decode cX6_takeBest 33 = .ok (.iload 6, 2) := by decide +kernel
theorem dX6_takeBest_35 : decode cX6_takeBest 35 = .ok (.aload_n 0, 1) := by decide +kernel
theorem dX6_takeBest_36 : decode cX6_takeBest 36 = .ok (.getfield 132, 3) := by decide +kernel
theorem dX6_takeBest_39 : decode cX6_takeBest 39 = .ok (.if_icmp .ge 50, 3) := by decide +kernel
theorem dX6_takeBest_42 : decode cX6_takeBest 42 = .ok (.iload 5, 2) := by decide +kernel
theorem dX6_takeBest_44 : decode cX6_takeBest 44 = .ok (.iload_n 2, 1) := by decide +kernel
theorem dX6_takeBest_45 : decode cX6_takeBest 45 = .ok (.iload 6, 2) := by decide +kernel
theorem dX6_takeBest_47 : decode cX6_takeBest 47 = .ok (.invokestatic 185, 3) := by decide +kernel
theorem dX6_takeBest_50 : decode cX6_takeBest 50 = .ok (.ifCond .eq 26, 3) := by decide +kernel
theorem dX6_takeBest_53 : decode cX6_takeBest 53 = .ok (.aload_n 0, 1) := by decide +kernel
theorem dX6_takeBest_54 : decode cX6_takeBest 54 = .ok (.getfield 34, 3) := by decide +kernel
theorem dX6_takeBest_57 : decode cX6_takeBest 57 = .ok (.iload_n 1, 1) := by decide +kernel
theorem dX6_takeBest_58 : decode cX6_takeBest 58 = .ok (.iload 6, 2) := by decide +kernel
theorem dX6_takeBest_60 : decode cX6_takeBest 60 = .ok (.iload 4, 2) := by decide +kernel
theorem dX6_takeBest_62 : decode cX6_takeBest 62 = .ok (.aload_n 0, 1) := by decide +kernel
theorem dX6_takeBest_63 : decode cX6_takeBest 63 = .ok (.getfield 49, 3) := by decide +kernel
theorem dX6_takeBest_66 : decode cX6_takeBest 66 = .ok (.iload 6, 2) := by decide +kernel
theorem dX6_takeBest_68 : decode cX6_takeBest 68 = .ok (.iaload, 1) := by decide +kernel
theorem dX6_takeBest_69 : decode cX6_takeBest 69 = .ok (.invokestatic 179, 3) := by decide +kernel
theorem dX6_takeBest_72 : decode cX6_takeBest 72 = .ok (.iaload, 1) := by decide +kernel
theorem dX6_takeBest_73 : decode cX6_takeBest 73 = .ok (.goto 4, 3) := by decide +kernel
theorem dX6_takeBest_76 : decode cX6_takeBest 76 = .ok (.iconst 0, 1) := by decide +kernel
theorem dX6_takeBest_77 : decode cX6_takeBest 77 = .ok (.iadd, 1) := by decide +kernel
theorem dX6_takeBest_78 : decode cX6_takeBest 78 = .ok (.invokestatic 191, 3) := by decide +kernel
theorem dX6_takeBest_81 : decode cX6_takeBest 81 = .ok (.istore 5, 2) := by decide +kernel
theorem dX6_takeBest_83 : decode cX6_takeBest 83 = .ok (.iinc 6 1, 3) := by decide +kernel
theorem dX6_takeBest_86 : decode cX6_takeBest 86 = .ok (.goto (-53), 3) := by decide +kernel
theorem dX6_takeBest_89 : decode cX6_takeBest 89 = .ok (.aload_n 0, 1) := by decide +kernel
theorem dX6_takeBest_90 : decode cX6_takeBest 90 = .ok (.getfield 49, 3) := by decide +kernel
theorem dX6_takeBest_93 : decode cX6_takeBest 93 = .ok (.iload_n 1, 1) := by decide +kernel
theorem dX6_takeBest_94 : decode cX6_takeBest 94 = .ok (.iload 5, 2) := by decide +kernel
theorem dX6_takeBest_96 : decode cX6_takeBest 96 = .ok (.iload_n 3, 1) := by decide +kernel
theorem dX6_takeBest_97 : decode cX6_takeBest 97 = .ok (.if_icmp .ge 8, 3) := by decide +kernel
theorem dX6_takeBest_100 : decode cX6_takeBest 100 = .ok (.iload 4, 2) := by decide +kernel
theorem dX6_takeBest_102 : decode cX6_takeBest 102 = .ok (.goto 9, 3) := by decide +kernel
theorem dX6_takeBest_105 : decode cX6_takeBest 105 = .ok (.aload_n 0, 1) := by decide +kernel
theorem dX6_takeBest_106 : decode cX6_takeBest 106 = .ok (.getfield 49, 3) := by decide +kernel
theorem dX6_takeBest_109 : decode cX6_takeBest 109 = .ok (.iload_n 1, 1) := by decide +kernel
theorem dX6_takeBest_110 : decode cX6_takeBest 110 = .ok (.iaload, 1) := by decide +kernel
theorem dX6_takeBest_111 : decode cX6_takeBest 111 = .ok (.iastore, 1) := by decide +kernel
theorem dX6_takeBest_112 : decode cX6_takeBest 112 = .ok (.iload 5, 2) := by decide +kernel
theorem dX6_takeBest_114 : decode cX6_takeBest 114 = .ok (.iload_n 3, 1) := by decide +kernel
theorem dX6_takeBest_115 : decode cX6_takeBest 115 = .ok (.if_icmp .ge 8, 3) := by decide +kernel
theorem dX6_takeBest_118 : decode cX6_takeBest 118 = .ok (.iload 5, 2) := by decide +kernel
theorem dX6_takeBest_120 : decode cX6_takeBest 120 = .ok (.goto 4, 3) := by decide +kernel
theorem dX6_takeBest_123 : decode cX6_takeBest 123 = .ok (.iload_n 3, 1) := by decide +kernel
theorem dX6_takeBest_124 : decode cX6_takeBest 124 = .ok (.istore_n 3, 1) := by decide +kernel
theorem dX6_takeBest_125 : decode cX6_takeBest 125 = .ok (.iinc 4 1, 3) := by decide +kernel
theorem dX6_takeBest_128 : decode cX6_takeBest 128 = .ok (.goto (-122), 3) := by decide +kernel
theorem dX6_takeBest_131 : decode cX6_takeBest 131 = .ok (.return_, 1) := by decide +kernel
theorem dX6_planCost_0 : decode cX6_planCost 0 = .ok (.iconst 0, 1) := by decide +kernel
theorem dX6_planCost_1 : decode cX6_planCost 1 = .ok (.istore_n 1, 1) := by decide +kernel
theorem dX6_planCost_2 : decode cX6_planCost 2 = .ok (.iconst 0, 1) := by decide +kernel
theorem dX6_planCost_3 : decode cX6_planCost 3 = .ok (.istore_n 2, 1) := by decide +kernel
theorem dX6_planCost_4 : decode cX6_planCost 4 = .ok (.iload_n 2, 1) := by decide +kernel
theorem dX6_planCost_5 : decode cX6_planCost 5 = .ok (.aload_n 0, 1) := by decide +kernel
theorem dX6_planCost_6 : decode cX6_planCost 6 = .ok (.getfield 132, 3) := by decide +kernel
theorem dX6_planCost_9 : decode cX6_planCost 9 = .ok (.if_icmp .ge 76, 3) := by decide +kernel
theorem dX6_planCost_12 : decode cX6_planCost 12 = .ok (.iload_n 1, 1) := by decide +kernel
theorem dX6_planCost_13 : decode cX6_planCost 13 = .ok (.aload_n 0, 1) := by decide +kernel
theorem dX6_planCost_14 : decode cX6_planCost 14 = .ok (.iload_n 2, 1) := by decide +kernel
theorem dX6_planCost_15 : decode cX6_planCost 15 = .ok (.aload_n 0, 1) := by decide +kernel
theorem dX6_planCost_16 : decode cX6_planCost 16 = .ok (.getfield 49, 3) := by decide +kernel
theorem dX6_planCost_19 : decode cX6_planCost 19 = .ok (.iload_n 2, 1) := by decide +kernel
theorem dX6_planCost_20 : decode cX6_planCost 20 = .ok (.iaload, 1) := by decide +kernel
theorem dX6_planCost_21 : decode cX6_planCost 21 = .ok (.invokevirtual 158, 3) := by decide +kernel
theorem dX6_planCost_24 : decode cX6_planCost 24 = .ok (.iadd, 1) := by decide +kernel
theorem dX6_planCost_25 : decode cX6_planCost 25 = .ok (.invokestatic 191, 3) := by decide +kernel
theorem dX6_planCost_28 : decode cX6_planCost 28 = .ok (.istore_n 1, 1) := by decide +kernel
theorem dX6_planCost_29 : decode cX6_planCost 29 = .ok (.iconst 0, 1) := by decide +kernel
theorem dX6_planCost_30 : decode cX6_planCost 30 = .ok (.istore_n 3, 1) := by decide +kernel
theorem dX6_planCost_31 : decode cX6_planCost 31 = .ok (.iload_n 3, 1) := by decide +kernel
theorem dX6_planCost_32 : decode cX6_planCost 32 = .ok (.iload_n 2, 1) := by decide +kernel
theorem dX6_planCost_33 : decode cX6_planCost 33 = .ok (.if_icmp .ge 46, 3) := by decide +kernel
theorem dX6_planCost_36 : decode cX6_planCost 36 = .ok (.iload_n 1, 1) := by decide +kernel
theorem dX6_planCost_37 : decode cX6_planCost 37 = .ok (.aload_n 0, 1) := by decide +kernel
theorem dX6_planCost_38 : decode cX6_planCost 38 = .ok (.iload_n 2, 1) := by decide +kernel
theorem dX6_planCost_39 : decode cX6_planCost 39 = .ok (.iload_n 3, 1) := by decide +kernel
theorem dX6_planCost_40 : decode cX6_planCost 40 = .ok (.invokevirtual 146, 3) := by decide +kernel
theorem dX6_planCost_43 : decode cX6_planCost 43 = .ok (.ifCond .eq 24, 3) := by decide +kernel
theorem dX6_planCost_46 : decode cX6_planCost 46 = .ok (.aload_n 0, 1) := by decide +kernel
theorem dX6_planCost_47 : decode cX6_planCost 47 = .ok (.iload_n 2, 1) := by decide +kernel
theorem dX6_planCost_48 : decode cX6_planCost 48 = .ok (.iload_n 3, 1) := by decide +kernel
theorem dX6_planCost_49 : decode cX6_planCost 49 = .ok (.aload_n 0, 1) := by decide +kernel
theorem dX6_planCost_50 : decode cX6_planCost 50 = .ok (.getfield 49, 3) := by decide +kernel
theorem dX6_planCost_53 : decode cX6_planCost 53 = .ok (.iload_n 2, 1) := by decide +kernel
theorem dX6_planCost_54 : decode cX6_planCost 54 = .ok (.iaload, 1) := by decide +kernel
theorem dX6_planCost_55 : decode cX6_planCost 55 = .ok (.aload_n 0, 1) := by decide +kernel
theorem dX6_planCost_56 : decode cX6_planCost 56 = .ok (.getfield 49, 3) := by decide +kernel
theorem dX6_planCost_59 : decode cX6_planCost 59 = .ok (.iload_n 3, 1) := by decide +kernel
theorem dX6_planCost_60 : decode cX6_planCost 60 = .ok (.iaload, 1) := by decide +kernel
theorem dX6_planCost_61 : decode cX6_planCost 61 = .ok (.invokevirtual 162, 3) := by decide +kernel
theorem dX6_planCost_64 : decode cX6_planCost 64 = .ok (.goto 4, 3) := by decide +kernel
theorem dX6_planCost_67 : decode cX6_planCost 67 = .ok (.iconst 0, 1) := by decide +kernel
theorem dX6_planCost_68 : decode cX6_planCost 68 = .ok (.iadd, 1) := by decide +kernel
theorem dX6_planCost_69 : decode cX6_planCost 69 = .ok (.invokestatic 191, 3) := by decide +kernel
theorem dX6_planCost_72 : decode cX6_planCost 72 = .ok (.istore_n 1, 1) := by decide +kernel
theorem dX6_planCost_73 : decode cX6_planCost 73 = .ok (.iinc 3 1, 3) := by decide +kernel
theorem dX6_planCost_76 : decode cX6_planCost 76 = .ok (.goto (-45), 3) := by decide +kernel
theorem dX6_planCost_79 : decode cX6_planCost 79 = .ok (.iinc 2 1, 3) := by decide +kernel
theorem dX6_planCost_82 : decode cX6_planCost 82 = .ok (.goto (-78), 3) := by decide +kernel
theorem dX6_planCost_85 : decode cX6_planCost 85 = .ok (.iload_n 1, 1) := by decide +kernel
theorem dX6_planCost_86 : decode cX6_planCost 86 = .ok (.ireturn, 1) := by decide +kernel
theorem dX6_turn_0 : decode cX6_turn 0 = .ok (.iload_n 1, 1) := by decide +kernel
theorem dX6_turn_1 : decode cX6_turn 1 = .ok (.i2l, 1) := by decide +kernel
theorem dX6_turn_2 : decode cX6_turn 2 = .ok (.lconst 0, 1) := by decide +kernel
theorem dX6_turn_3 : decode cX6_turn 3 = .ok (.aload_n 0, 1) := by decide +kernel
theorem dX6_turn_4 : decode cX6_turn 4 = .ok (.getfield 132, 3) := by decide +kernel
theorem dX6_turn_7 : decode cX6_turn 7 = .ok (.iconst 1, 1) := by decide +kernel
theorem dX6_turn_8 : decode cX6_turn 8 = .ok (.isub, 1) := by decide +kernel
theorem dX6_turn_9 : decode cX6_turn 9 = .ok (.i2l, 1) := by decide +kernel
theorem dX6_turn_10 : decode cX6_turn 10 = .ok (.invokestatic 89, 3) := by decide +kernel
theorem dX6_turn_13 : decode cX6_turn 13 = .ok (.ifCond .eq 13, 3) := by decide +kernel
theorem dX6_turn_16 : decode cX6_turn 16 = .ok (.iload_n 2, 1) := by decide +kernel
theorem dX6_turn_17 : decode cX6_turn 17 = .ok (.i2l, 1) := by decide +kernel
theorem dX6_turn_18 : decode cX6_turn 18 = .ok (.lconst 0, 1) := by decide +kernel
theorem dX6_turn_19 : decode cX6_turn 19 = .ok (.lconst 1, 1) := by decide +kernel
theorem dX6_turn_20 : decode cX6_turn 20 = .ok (.invokestatic 89, 3) := by decide +kernel
theorem dX6_turn_23 : decode cX6_turn 23 = .ok (.ifCond .ne 5, 3) := by decide +kernel
theorem dX6_turn_26 : decode cX6_turn 26 = .ok (.iconst (-1), 1) := by decide +kernel
theorem dX6_turn_27 : decode cX6_turn 27 = .ok (.ireturn, 1) := by decide +kernel
theorem dX6_turn_28 : decode cX6_turn 28 = .ok (.aload_n 0, 1) := by decide +kernel
theorem dX6_turn_29 : decode cX6_turn 29 = .ok (.invokevirtual 221, 3) := by decide +kernel
theorem dX6_turn_32 : decode cX6_turn 32 = .ok (.iload_n 2, 1) := by decide +kernel
theorem dX6_turn_33 : decode cX6_turn 33 = .ok (.ifCond .ne 12, 3) := by decide +kernel
theorem dX6_turn_36 : decode cX6_turn 36 = .ok (.aload_n 0, 1) := by decide +kernel
theorem dX6_turn_37 : decode cX6_turn 37 = .ok (.getfield 40, 3) := by decide +kernel
theorem dX6_turn_40 : decode cX6_turn 40 = .ok (.iload_n 1, 1) := by decide +kernel
theorem dX6_turn_41 : decode cX6_turn 41 = .ok (.iaload, 1) := by decide +kernel
theorem dX6_turn_42 : decode cX6_turn 42 = .ok (.goto 9, 3) := by decide +kernel
theorem dX6_turn_45 : decode cX6_turn 45 = .ok (.aload_n 0, 1) := by decide +kernel
theorem dX6_turn_46 : decode cX6_turn 46 = .ok (.getfield 43, 3) := by decide +kernel
theorem dX6_turn_49 : decode cX6_turn 49 = .ok (.iload_n 1, 1) := by decide +kernel
theorem dX6_turn_50 : decode cX6_turn 50 = .ok (.iaload, 1) := by decide +kernel
theorem dX6_turn_51 : decode cX6_turn 51 = .ok (.ireturn, 1) := by decide +kernel
theorem dX6_reduced_0 : decode cX6_reduced 0 = .ok (.aload_n 0, 1) := by decide +kernel
theorem dX6_reduced_1 : decode cX6_reduced 1 = .ok (.iload_n 1, 1) := by decide +kernel
theorem dX6_reduced_2 : decode cX6_reduced 2 = .ok (.invokevirtual 141, 3) := by decide +kernel
theorem dX6_reduced_5 : decode cX6_reduced 5 = .ok (.ifCond .ne 5, 3) := by decide +kernel
theorem dX6_reduced_8 : decode cX6_reduced 8 = .ok (.iconst (-1), 1) := by decide +kernel
theorem dX6_reduced_9 : decode cX6_reduced 9 = .ok (.ireturn, 1) := by decide +kernel
theorem dX6_reduced_10 : decode cX6_reduced 10 = .ok (.aload_n 0, 1) := by decide +kernel
theorem dX6_reduced_11 : decode cX6_reduced 11 = .ok (.invokevirtual 221, 3) := by decide +kernel
theorem dX6_reduced_14 : decode cX6_reduced 14 = .ok (.aload_n 0, 1) := by decide +kernel
theorem dX6_reduced_15 : decode cX6_reduced 15 = .ok (.getfield 49, 3) := by decide +kernel
theorem dX6_reduced_18 : decode cX6_reduced 18 = .ok (.iload_n 1, 1) := by decide +kernel
theorem dX6_reduced_19 : decode cX6_reduced 19 = .ok (.iaload, 1) := by decide +kernel
theorem dX6_reduced_20 : decode cX6_reduced 20 = .ok (.ireturn, 1) := by decide +kernel
theorem dX6_plan_0 : decode cX6_plan 0 = .ok (.iload_n 1, 1) := by decide +kernel
theorem dX6_plan_1 : decode cX6_plan 1 = .ok (.i2l, 1) := by decide +kernel
theorem dX6_plan_2 : decode cX6_plan 2 = .ok (.lconst 0, 1) := by decide +kernel
theorem dX6_plan_3 : decode cX6_plan 3 = .ok (.lconst 1, 1) := by decide +kernel
theorem dX6_plan_4 : decode cX6_plan 4 = .ok (.invokestatic 89, 3) := by decide +kernel
theorem dX6_plan_7 : decode cX6_plan 7 = .ok (.ifCond .ne 5, 3) := by decide +kernel
theorem dX6_plan_10 : decode cX6_plan 10 = .ok (.iconst (-1), 1) := by decide +kernel
theorem dX6_plan_11 : decode cX6_plan 11 = .ok (.ireturn, 1) := by decide +kernel
theorem dX6_plan_12 : decode cX6_plan 12 = .ok (.aload_n 0, 1) := by decide +kernel
theorem dX6_plan_13 : decode cX6_plan 13 = .ok (.invokevirtual 221, 3) := by decide +kernel
theorem dX6_plan_16 : decode cX6_plan 16 = .ok (.iload_n 1, 1) := by decide +kernel
theorem dX6_plan_17 : decode cX6_plan 17 = .ok (.ifCond .ne 8, 3) := by decide +kernel
theorem dX6_plan_20 : decode cX6_plan 20 = .ok (.aload_n 0, 1) := by decide +kernel
theorem dX6_plan_21 : decode cX6_plan 21 = .ok (.invokevirtual 224, 3) := by decide +kernel
theorem dX6_plan_24 : decode cX6_plan 24 = .ok (.ireturn, 1) := by decide +kernel
theorem dX6_plan_25 : decode cX6_plan 25 = .ok (.iconst 1, 1) := by decide +kernel
theorem dX6_plan_26 : decode cX6_plan 26 = .ok (.istore_n 2, 1) := by decide +kernel
theorem dX6_plan_27 : decode cX6_plan 27 = .ok (.iconst 0, 1) := by decide +kernel
theorem dX6_plan_28 : decode cX6_plan 28 = .ok (.istore_n 3, 1) := by decide +kernel
theorem dX6_plan_29 : decode cX6_plan 29 = .ok (.iload_n 3, 1) := by decide +kernel
theorem dX6_plan_30 : decode cX6_plan 30 = .ok (.aload_n 0, 1) := by decide +kernel
theorem dX6_plan_31 : decode cX6_plan 31 = .ok (.getfield 132, 3) := by decide +kernel
theorem dX6_plan_34 : decode cX6_plan 34 = .ok (.if_icmp .ge 25, 3) := by decide +kernel
theorem dX6_plan_37 : decode cX6_plan 37 = .ok (.aload_n 0, 1) := by decide +kernel
theorem dX6_plan_38 : decode cX6_plan 38 = .ok (.getfield 43, 3) := by decide +kernel
theorem dX6_plan_41 : decode cX6_plan 41 = .ok (.iload_n 3, 1) := by decide +kernel
theorem dX6_plan_42 : decode cX6_plan 42 = .ok (.iaload, 1) := by decide +kernel
theorem dX6_plan_43 : decode cX6_plan 43 = .ok (.iconst 3, 1) := by decide +kernel
theorem dX6_plan_44 : decode cX6_plan 44 = .ok (.if_icmp .ne 7, 3) := by decide +kernel
theorem dX6_plan_47 : decode cX6_plan 47 = .ok (.iconst 0, 1) := by decide +kernel
theorem dX6_plan_48 : decode cX6_plan 48 = .ok (.goto 4, 3) := by decide +kernel
theorem dX6_plan_51 : decode cX6_plan 51 = .ok (.iload_n 2, 1) := by decide +kernel
theorem dX6_plan_52 : decode cX6_plan 52 = .ok (.istore_n 2, 1) := by decide +kernel
theorem dX6_plan_53 : decode cX6_plan 53 = .ok (.iinc 3 1, 3) := by decide +kernel
theorem dX6_plan_56 : decode cX6_plan 56 = .ok (.goto (-27), 3) := by decide +kernel
theorem dX6_plan_59 : decode cX6_plan 59 = .ok (.iload_n 2, 1) := by decide +kernel
theorem dX6_plan_60 : decode cX6_plan 60 = .ok (.ireturn, 1) := by decide +kernel
theorem dX6_goAll_0 : decode cX6_goAll 0 = .ok (.aload_n 0, 1) := by decide +kernel
theorem dX6_goAll_1 : decode cX6_goAll 1 = .ok (.ldc 145, 2) := by decide +kernel
theorem dX6_goAll_3 : decode cX6_goAll 3 = .ok (.putfield 227, 3) := by decide +kernel
theorem dX6_goAll_6 : decode cX6_goAll 6 = .ok (.aload_n 0, 1) := by decide +kernel
theorem dX6_goAll_7 : decode cX6_goAll 7 = .ok (.iconst 0, 1) := by decide +kernel
theorem dX6_goAll_8 : decode cX6_goAll 8 = .ok (.putfield 230, 3) := by decide +kernel
theorem dX6_goAll_11 : decode cX6_goAll 11 = .ok (.aload_n 0, 1) := by decide +kernel
theorem dX6_goAll_12 : decode cX6_goAll 12 = .ok (.ldc 145, 2) := by decide +kernel
theorem dX6_goAll_14 : decode cX6_goAll 14 = .ok (.putfield 233, 3) := by decide +kernel
theorem dX6_goAll_17 : decode cX6_goAll 17 = .ok (.iconst 1, 1) := by decide +kernel
theorem dX6_goAll_18 : decode cX6_goAll 18 = .ok (.istore_n 3, 1) := by decide +kernel
theorem dX6_goAll_19 : decode cX6_goAll 19 = .ok (.iconst 0, 1) := by decide +kernel
theorem dX6_goAll_20 : decode cX6_goAll 20 = .ok (.istore 4, 2) := by decide +kernel
theorem dX6_goAll_22 : decode cX6_goAll 22 = .ok (.iload 4, 2) := by decide +kernel
theorem dX6_goAll_24 : decode cX6_goAll 24 = .ok (.aload_n 0, 1) := by decide +kernel
theorem dX6_goAll_25 : decode cX6_goAll 25 = .ok (.getfield 132, 3) := by decide +kernel
theorem dX6_goAll_28 : decode cX6_goAll 28 = .ok (.if_icmp .ge 28, 3) := by decide +kernel
theorem dX6_goAll_31 : decode cX6_goAll 31 = .ok (.iload_n 3, 1) := by decide +kernel
theorem dX6_goAll_32 : decode cX6_goAll 32 = .ok (.aload_n 0, 1) := by decide +kernel
theorem dX6_goAll_33 : decode cX6_goAll 33 = .ok (.getfield 13, 3) := by decide +kernel
theorem dX6_goAll_36 : decode cX6_goAll 36 = .ok (.iload 4, 2) := by decide +kernel
theorem dX6_goAll_38 : decode cX6_goAll 38 = .ok (.iaload, 1) := by decide +kernel
theorem dX6_goAll_39 : decode cX6_goAll 39 = .ok (.imul, 1) := by decide +kernel
theorem dX6_goAll_40 : decode cX6_goAll 40 = .ok (.istore_n 3, 1) := by decide +kernel
theorem dX6_goAll_41 : decode cX6_goAll 41 = .ok (.aload_n 0, 1) := by decide +kernel
theorem dX6_goAll_42 : decode cX6_goAll 42 = .ok (.getfield 52, 3) := by decide +kernel
theorem dX6_goAll_45 : decode cX6_goAll 45 = .ok (.iload 4, 2) := by decide +kernel
theorem dX6_goAll_47 : decode cX6_goAll 47 = .ok (.bipush (-4), 2) := by decide +kernel
theorem dX6_goAll_49 : decode cX6_goAll 49 = .ok (.iastore, 1) := by decide +kernel
theorem dX6_goAll_50 : decode cX6_goAll 50 = .ok (.iinc 4 1, 3) := by decide +kernel
theorem dX6_goAll_53 : decode cX6_goAll 53 = .ok (.goto (-31), 3) := by decide +kernel
theorem dX6_goAll_56 : decode cX6_goAll 56 = .ok (.iconst 0, 1) := by decide +kernel
theorem dX6_goAll_57 : decode cX6_goAll 57 = .ok (.istore 4, 2) := by decide +kernel
theorem dX6_goAll_59 : decode cX6_goAll 59 = .ok (.iload 4, 2) := by decide +kernel
theorem dX6_goAll_61 : decode cX6_goAll 61 = .ok (.iload_n 3, 1) := by decide +kernel
theorem dX6_goAll_62 : decode cX6_goAll 62 = .ok (.if_icmp .ge 85, 3) := by decide +kernel
theorem dX6_goAll_65 : decode cX6_goAll 65 = .ok (.iload 4, 2) := by decide +kernel
theorem dX6_goAll_67 : decode cX6_goAll 67 = .ok (.istore 5, 2) := by decide +kernel
theorem dX6_goAll_69 : decode cX6_goAll 69 = .ok (.aload_n 0, 1) := by decide +kernel
theorem dX6_goAll_70 : decode cX6_goAll 70 = .ok (.getfield 132, 3) := by decide +kernel
theorem dX6_goAll_73 : decode cX6_goAll 73 = .ok (.iconst 1, 1) := by decide +kernel
theorem dX6_goAll_74 : decode cX6_goAll 74 = .ok (.isub, 1) := by decide +kernel
theorem dX6_goAll_75 : decode cX6_goAll 75 = .ok (.istore 6, 2) := by decide +kernel
theorem dX6_goAll_77 : decode cX6_goAll 77 = .ok (.iload 6, 2) := by decide +kernel
theorem dX6_goAll_79 : decode cX6_goAll 79 = .ok (.ifCond .lt 38, 3) := by decide +kernel
theorem dX6_goAll_82 : decode cX6_goAll 82 = .ok (.aload_n 0, 1) := by decide +kernel
theorem dX6_goAll_83 : decode cX6_goAll 83 = .ok (.getfield 49, 3) := by decide +kernel
theorem dX6_goAll_86 : decode cX6_goAll 86 = .ok (.iload 6, 2) := by decide +kernel
theorem dX6_goAll_88 : decode cX6_goAll 88 = .ok (.iload 5, 2) := by decide +kernel
theorem dX6_goAll_90 : decode cX6_goAll 90 = .ok (.aload_n 0, 1) := by decide +kernel
theorem dX6_goAll_91 : decode cX6_goAll 91 = .ok (.getfield 13, 3) := by decide +kernel
theorem dX6_goAll_94 : decode cX6_goAll 94 = .ok (.iload 6, 2) := by decide +kernel
theorem dX6_goAll_96 : decode cX6_goAll 96 = .ok (.iaload, 1) := by decide +kernel
theorem dX6_goAll_97 : decode cX6_goAll 97 = .ok (.irem, 1) := by decide +kernel
theorem dX6_goAll_98 : decode cX6_goAll 98 = .ok (.iastore, 1) := by decide +kernel
theorem dX6_goAll_99 : decode cX6_goAll 99 = .ok (.iload 5, 2) := by decide +kernel
theorem dX6_goAll_101 : decode cX6_goAll 101 = .ok (.aload_n 0, 1) := by decide +kernel
theorem dX6_goAll_102 : decode cX6_goAll 102 = .ok (.getfield 13, 3) := by decide +kernel
theorem dX6_goAll_105 : decode cX6_goAll 105 = .ok (.iload 6, 2) := by decide +kernel
theorem dX6_goAll_107 : decode cX6_goAll 107 = .ok (.iaload, 1) := by decide +kernel
theorem dX6_goAll_108 : decode cX6_goAll 108 = .ok (.idiv, 1) := by decide +kernel
theorem dX6_goAll_109 : decode cX6_goAll 109 = .ok (.istore 5, 2) := by decide +kernel
theorem dX6_goAll_111 : decode cX6_goAll 111 = .ok (.iinc 6 (-1), 3) := by decide +kernel
theorem dX6_goAll_114 : decode cX6_goAll 114 = .ok (.goto (-37), 3) := by decide +kernel
theorem dX6_goAll_117 : decode cX6_goAll 117 = .ok (.iload_n 1, 1) := by decide +kernel
theorem dX6_goAll_118 : decode cX6_goAll 118 = .ok (.bipush (-4), 2) := by decide +kernel
theorem dX6_goAll_120 : decode cX6_goAll 120 = .ok (.if_icmp .eq 13, 3) := by decide +kernel
theorem dX6_goAll_123 : decode cX6_goAll 123 = .ok (.aload_n 0, 1) := by decide +kernel
theorem dX6_goAll_124 : decode cX6_goAll 124 = .ok (.getfield 49, 3) := by decide +kernel
theorem dX6_goAll_127 : decode cX6_goAll 127 = .ok (.iload_n 1, 1) := by decide +kernel
theorem dX6_goAll_128 : decode cX6_goAll 128 = .ok (.iaload, 1) := by decide +kernel
theorem dX6_goAll_129 : decode cX6_goAll 129 = .ok (.iload_n 2, 1) := by decide +kernel
theorem dX6_goAll_130 : decode cX6_goAll 130 = .ok (.if_icmp .ne 11, 3) := by decide +kernel
theorem dX6_goAll_133 : decode cX6_goAll 133 = .ok (.aload_n 0, 1) := by decide +kernel
theorem dX6_goAll_134 : decode cX6_goAll 134 = .ok (.aload_n 0, 1) := by decide +kernel
theorem dX6_goAll_135 : decode cX6_goAll 135 = .ok (.invokevirtual 224, 3) := by decide +kernel
theorem dX6_goAll_138 : decode cX6_goAll 138 = .ok (.invokevirtual 236, 3) := by decide +kernel
theorem dX6_goAll_141 : decode cX6_goAll 141 = .ok (.iinc 4 1, 3) := by decide +kernel
theorem dX6_goAll_144 : decode cX6_goAll 144 = .ok (.goto (-85), 3) := by decide +kernel
theorem dX6_goAll_147 : decode cX6_goAll 147 = .ok (.return_, 1) := by decide +kernel
theorem dX6_meetPlan_0 : decode cX6_meetPlan 0 = .ok (.iload_n 1, 1) := by decide +kernel
theorem dX6_meetPlan_1 : decode cX6_meetPlan 1 = .ok (.aload_n 0, 1) := by decide +kernel
theorem dX6_meetPlan_2 : decode cX6_meetPlan 2 = .ok (.getfield 227, 3) := by decide +kernel
theorem dX6_meetPlan_5 : decode cX6_meetPlan 5 = .ok (.if_icmp .ge 59, 3) := by decide +kernel
theorem dX6_meetPlan_8 : decode cX6_meetPlan 8 = .ok (.aload_n 0, 1) := by decide +kernel
theorem dX6_meetPlan_9 : decode cX6_meetPlan 9 = .ok (.aload_n 0, 1) := by decide +kernel
theorem dX6_meetPlan_10 : decode cX6_meetPlan 10 = .ok (.getfield 227, 3) := by decide +kernel
theorem dX6_meetPlan_13 : decode cX6_meetPlan 13 = .ok (.putfield 233, 3) := by decide +kernel
theorem dX6_meetPlan_16 : decode cX6_meetPlan 16 = .ok (.aload_n 0, 1) := by decide +kernel
theorem dX6_meetPlan_17 : decode cX6_meetPlan 17 = .ok (.iload_n 1, 1) := by decide +kernel
theorem dX6_meetPlan_18 : decode cX6_meetPlan 18 = .ok (.putfield 227, 3) := by decide +kernel
theorem dX6_meetPlan_21 : decode cX6_meetPlan 21 = .ok (.aload_n 0, 1) := by decide +kernel
theorem dX6_meetPlan_22 : decode cX6_meetPlan 22 = .ok (.iconst 0, 1) := by decide +kernel
theorem dX6_meetPlan_23 : decode cX6_meetPlan 23 = .ok (.putfield 230, 3) := by decide +kernel
theorem dX6_meetPlan_26 : decode cX6_meetPlan 26 = .ok (.iconst 0, 1) := by decide +kernel
theorem dX6_meetPlan_27 : decode cX6_meetPlan 27 = .ok (.istore_n 2, 1) := by decide +kernel
theorem dX6_meetPlan_28 : decode cX6_meetPlan 28 = .ok (.iload_n 2, 1) := by decide +kernel
theorem dX6_meetPlan_29 : decode cX6_meetPlan 29 = .ok (.aload_n 0, 1) := by decide +kernel
theorem dX6_meetPlan_30 : decode cX6_meetPlan 30 = .ok (.getfield 132, 3) := by decide +kernel
theorem dX6_meetPlan_33 : decode cX6_meetPlan 33 = .ok (.if_icmp .ge 28, 3) := by decide +kernel
theorem dX6_meetPlan_36 : decode cX6_meetPlan 36 = .ok (.aload_n 0, 1) := by decide +kernel
theorem dX6_meetPlan_37 : decode cX6_meetPlan 37 = .ok (.getfield 52, 3) := by decide +kernel
theorem dX6_meetPlan_40 : decode cX6_meetPlan 40 = .ok (.iload_n 2, 1) := by decide +kernel
theorem dX6_meetPlan_41 : decode cX6_meetPlan 41 = .ok (.aload_n 0, 1) := by decide +kernel
theorem dX6_meetPlan_42 : decode cX6_meetPlan 42 = .ok (.getfield 49, 3) := by decide +kernel
theorem dX6_meetPlan_45 : decode cX6_meetPlan 45 = .ok (.iload_n 2, 1) := by decide +kernel
theorem dX6_meetPlan_46 : decode cX6_meetPlan 46 = .ok (.iaload, 1) := by decide +kernel
theorem dX6_meetPlan_47 : decode cX6_meetPlan 47 = .ok (.iastore, 1) := by decide +kernel
theorem dX6_meetPlan_48 : decode cX6_meetPlan 48 = .ok (.aload_n 0, 1) := by decide +kernel
theorem dX6_meetPlan_49 : decode cX6_meetPlan 49 = .ok (.getfield 55, 3) := by decide +kernel
theorem dX6_meetPlan_52 : decode cX6_meetPlan 52 = .ok (.iload_n 2, 1) := by decide +kernel
theorem dX6_meetPlan_53 : decode cX6_meetPlan 53 = .ok (.iconst 0, 1) := by decide +kernel
theorem dX6_meetPlan_54 : decode cX6_meetPlan 54 = .ok (.iastore, 1) := by decide +kernel
theorem dX6_meetPlan_55 : decode cX6_meetPlan 55 = .ok (.iinc 2 1, 3) := by decide +kernel
theorem dX6_meetPlan_58 : decode cX6_meetPlan 58 = .ok (.goto (-30), 3) := by decide +kernel
theorem dX6_meetPlan_61 : decode cX6_meetPlan 61 = .ok (.goto 24, 3) := by decide +kernel
theorem dX6_meetPlan_64 : decode cX6_meetPlan 64 = .ok (.iload_n 1, 1) := by decide +kernel
theorem dX6_meetPlan_65 : decode cX6_meetPlan 65 = .ok (.aload_n 0, 1) := by decide +kernel
theorem dX6_meetPlan_66 : decode cX6_meetPlan 66 = .ok (.getfield 227, 3) := by decide +kernel
theorem dX6_meetPlan_69 : decode cX6_meetPlan 69 = .ok (.if_icmp .le 16, 3) := by decide +kernel
theorem dX6_meetPlan_72 : decode cX6_meetPlan 72 = .ok (.iload_n 1, 1) := by decide +kernel
theorem dX6_meetPlan_73 : decode cX6_meetPlan 73 = .ok (.aload_n 0, 1) := by decide +kernel
theorem dX6_meetPlan_74 : decode cX6_meetPlan 74 = .ok (.getfield 233, 3) := by decide +kernel
theorem dX6_meetPlan_77 : decode cX6_meetPlan 77 = .ok (.if_icmp .ge 8, 3) := by decide +kernel
theorem dX6_meetPlan_80 : decode cX6_meetPlan 80 = .ok (.aload_n 0, 1) := by decide +kernel
theorem dX6_meetPlan_81 : decode cX6_meetPlan 81 = .ok (.iload_n 1, 1) := by decide +kernel
theorem dX6_meetPlan_82 : decode cX6_meetPlan 82 = .ok (.putfield 233, 3) := by decide +kernel
theorem dX6_meetPlan_85 : decode cX6_meetPlan 85 = .ok (.iload_n 1, 1) := by decide +kernel
theorem dX6_meetPlan_86 : decode cX6_meetPlan 86 = .ok (.aload_n 0, 1) := by decide +kernel
theorem dX6_meetPlan_87 : decode cX6_meetPlan 87 = .ok (.getfield 227, 3) := by decide +kernel
theorem dX6_meetPlan_90 : decode cX6_meetPlan 90 = .ok (.if_icmp .ne 52, 3) := by decide +kernel
theorem dX6_meetPlan_93 : decode cX6_meetPlan 93 = .ok (.iload_n 1, 1) := by decide +kernel
theorem dX6_meetPlan_94 : decode cX6_meetPlan 94 = .ok (.ldc 145, 2) := by decide +kernel
theorem dX6_meetPlan_96 : decode cX6_meetPlan 96 = .ok (.if_icmp .ge 46, 3) := by decide +kernel
theorem dX6_meetPlan_99 : decode cX6_meetPlan 99 = .ok (.aload_n 0, 1) := by decide +kernel
theorem dX6_meetPlan_100 : decode cX6_meetPlan 100 = .ok (.dup, 1) := by decide +kernel
theorem dX6_meetPlan_101 : decode cX6_meetPlan 101 = .ok (.getfield 230, 3) := by decide +kernel
theorem dX6_meetPlan_104 : decode cX6_meetPlan 104 = .ok (.iconst 1, 1) := by decide +kernel
theorem dX6_meetPlan_105 : decode cX6_meetPlan 105 = .ok (.iadd, 1) := by decide +kernel
theorem dX6_meetPlan_106 : decode cX6_meetPlan 106 = .ok (.putfield 230, 3) := by decide +kernel
theorem dX6_meetPlan_109 : decode cX6_meetPlan 109 = .ok (.iconst 0, 1) := by decide +kernel
theorem dX6_meetPlan_110 : decode cX6_meetPlan 110 = .ok (.istore_n 2, 1) := by decide +kernel
theorem dX6_meetPlan_111 : decode cX6_meetPlan 111 = .ok (.iload_n 2, 1) := by decide +kernel
theorem dX6_meetPlan_112 : decode cX6_meetPlan 112 = .ok (.aload_n 0, 1) := by decide +kernel
theorem dX6_meetPlan_113 : decode cX6_meetPlan 113 = .ok (.getfield 132, 3) := by decide +kernel
theorem dX6_meetPlan_116 : decode cX6_meetPlan 116 = .ok (.if_icmp .ge 26, 3) := by decide +kernel
theorem dX6_meetPlan_119 : decode cX6_meetPlan 119 = .ok (.aload_n 0, 1) := by decide +kernel
theorem dX6_meetPlan_120 : decode cX6_meetPlan 120 = .ok (.getfield 55, 3) := by decide +kernel
theorem dX6_meetPlan_123 : decode cX6_meetPlan 123 = .ok (.iload_n 2, 1) := by decide +kernel
theorem dX6_meetPlan_124 : decode cX6_meetPlan 124 = .ok (.dup2, 1) := by decide +kernel
theorem dX6_meetPlan_125 : decode cX6_meetPlan 125 = .ok (.iaload, 1) := by decide +kernel
theorem dX6_meetPlan_126 : decode cX6_meetPlan 126 = .ok (.iconst 1, 1) := by decide +kernel
theorem dX6_meetPlan_127 : decode cX6_meetPlan 127 = .ok (.aload_n 0, 1) := by decide +kernel
theorem dX6_meetPlan_128 : decode cX6_meetPlan 128 = .ok (.getfield 49, 3) := by decide +kernel
theorem dX6_meetPlan_131 : decode cX6_meetPlan 131 = .ok (.iload_n 2, 1) := by decide +kernel
theorem dX6_meetPlan_132 : decode cX6_meetPlan 132 = .ok (.iaload, 1) := by decide +kernel
theorem dX6_meetPlan_133 : decode cX6_meetPlan 133 = .ok (.ishl, 1) := by decide +kernel
theorem dX6_meetPlan_134 : decode cX6_meetPlan 134 = .ok (.ior, 1) := by decide +kernel
theorem dX6_meetPlan_135 : decode cX6_meetPlan 135 = .ok (.iastore, 1) := by decide +kernel
theorem dX6_meetPlan_136 : decode cX6_meetPlan 136 = .ok (.iinc 2 1, 3) := by decide +kernel
theorem dX6_meetPlan_139 : decode cX6_meetPlan 139 = .ok (.goto (-28), 3) := by decide +kernel
theorem dX6_meetPlan_142 : decode cX6_meetPlan 142 = .ok (.return_, 1) := by decide +kernel
theorem dX6_sameSet_0 : decode cX6_sameSet 0 = .ok (.iconst 0, 1) := by decide +kernel
theorem dX6_sameSet_1 : decode cX6_sameSet 1 = .ok (.istore_n 1, 1) := by decide +kernel
theorem dX6_sameSet_2 : decode cX6_sameSet 2 = .ok (.iconst 0, 1) := by decide +kernel
theorem dX6_sameSet_3 : decode cX6_sameSet 3 = .ok (.istore_n 2, 1) := by decide +kernel
theorem dX6_sameSet_4 : decode cX6_sameSet 4 = .ok (.iload_n 2, 1) := by decide +kernel
theorem dX6_sameSet_5 : decode cX6_sameSet 5 = .ok (.aload_n 0, 1) := by decide +kernel
theorem dX6_sameSet_6 : decode cX6_sameSet 6 = .ok (.getfield 132, 3) := by decide +kernel
theorem dX6_sameSet_9 : decode cX6_sameSet 9 = .ok (.if_icmp .ge 32, 3) := by decide +kernel
theorem dX6_sameSet_12 : decode cX6_sameSet 12 = .ok (.iload_n 1, 1) := by decide +kernel
theorem dX6_sameSet_13 : decode cX6_sameSet 13 = .ok (.aload_n 0, 1) := by decide +kernel
theorem dX6_sameSet_14 : decode cX6_sameSet 14 = .ok (.getfield 55, 3) := by decide +kernel
theorem dX6_sameSet_17 : decode cX6_sameSet 17 = .ok (.iload_n 2, 1) := by decide +kernel
theorem dX6_sameSet_18 : decode cX6_sameSet 18 = .ok (.iaload, 1) := by decide +kernel
theorem dX6_sameSet_19 : decode cX6_sameSet 19 = .ok (.invokestatic 182, 3) := by decide +kernel
theorem dX6_sameSet_22 : decode cX6_sameSet 22 = .ok (.iconst 1, 1) := by decide +kernel
theorem dX6_sameSet_23 : decode cX6_sameSet 23 = .ok (.if_icmp .ne 9, 3) := by decide +kernel
theorem dX6_sameSet_26 : decode cX6_sameSet 26 = .ok (.iconst 1, 1) := by decide +kernel
theorem dX6_sameSet_27 : decode cX6_sameSet 27 = .ok (.iload_n 2, 1) := by decide +kernel
theorem dX6_sameSet_28 : decode cX6_sameSet 28 = .ok (.ishl, 1) := by decide +kernel
theorem dX6_sameSet_29 : decode cX6_sameSet 29 = .ok (.goto 4, 3) := by decide +kernel
theorem dX6_sameSet_32 : decode cX6_sameSet 32 = .ok (.iconst 0, 1) := by decide +kernel
theorem dX6_sameSet_33 : decode cX6_sameSet 33 = .ok (.ior, 1) := by decide +kernel
theorem dX6_sameSet_34 : decode cX6_sameSet 34 = .ok (.istore_n 1, 1) := by decide +kernel
theorem dX6_sameSet_35 : decode cX6_sameSet 35 = .ok (.iinc 2 1, 3) := by decide +kernel
theorem dX6_sameSet_38 : decode cX6_sameSet 38 = .ok (.goto (-34), 3) := by decide +kernel
theorem dX6_sameSet_41 : decode cX6_sameSet 41 = .ok (.iload_n 1, 1) := by decide +kernel
theorem dX6_sameSet_42 : decode cX6_sameSet 42 = .ok (.ireturn, 1) := by decide +kernel
theorem dX6_bound_0 : decode cX6_bound 0 = .ok (.iconst 0, 1) := by decide +kernel
theorem dX6_bound_1 : decode cX6_bound 1 = .ok (.istore_n 1, 1) := by decide +kernel
theorem dX6_bound_2 : decode cX6_bound 2 = .ok (.iconst 0, 1) := by decide +kernel
theorem dX6_bound_3 : decode cX6_bound 3 = .ok (.istore_n 2, 1) := by decide +kernel
theorem dX6_bound_4 : decode cX6_bound 4 = .ok (.iload_n 2, 1) := by decide +kernel
theorem dX6_bound_5 : decode cX6_bound 5 = .ok (.aload_n 0, 1) := by decide +kernel
theorem dX6_bound_6 : decode cX6_bound 6 = .ok (.getfield 132, 3) := by decide +kernel
theorem dX6_bound_9 : decode cX6_bound 9 = .ok (.if_icmp .ge 181, 3) := by decide +kernel
theorem dX6_bound_12 : decode cX6_bound 12 = .ok (.ldc 145, 2) := by decide +kernel
theorem dX6_bound_14 : decode cX6_bound 14 = .ok (.istore_n 3, 1) := by decide +kernel
theorem dX6_bound_15 : decode cX6_bound 15 = .ok (.iconst 0, 1) := by decide +kernel
theorem dX6_bound_16 : decode cX6_bound 16 = .ok (.istore 4, 2) := by decide +kernel
theorem dX6_bound_18 : decode cX6_bound 18 = .ok (.iload 4, 2) := by decide +kernel
theorem dX6_bound_20 : decode cX6_bound 20 = .ok (.aload_n 0, 1) := by decide +kernel
theorem dX6_bound_21 : decode cX6_bound 21 = .ok (.getfield 13, 3) := by decide +kernel
theorem dX6_bound_24 : decode cX6_bound 24 = .ok (.iload_n 2, 1) := by decide +kernel
theorem dX6_bound_25 : decode cX6_bound 25 = .ok (.iaload, 1) := by decide +kernel
theorem dX6_bound_26 : decode cX6_bound 26 = .ok (.if_icmp .ge 32, 3) := by decide +kernel
theorem dX6_bound_29 : decode cX6_bound 29 = .ok (.aload_n 0, 1) := by decide +kernel
theorem dX6_bound_30 : decode cX6_bound 30 = .ok (.iload_n 2, 1) := by decide +kernel
theorem dX6_bound_31 : decode cX6_bound 31 = .ok (.iload 4, 2) := by decide +kernel
theorem dX6_bound_33 : decode cX6_bound 33 = .ok (.invokevirtual 158, 3) := by decide +kernel
theorem dX6_bound_36 : decode cX6_bound 36 = .ok (.iload_n 3, 1) := by decide +kernel
theorem dX6_bound_37 : decode cX6_bound 37 = .ok (.if_icmp .ge 13, 3) := by decide +kernel
theorem dX6_bound_40 : decode cX6_bound 40 = .ok (.aload_n 0, 1) := by decide +kernel
theorem dX6_bound_41 : decode cX6_bound 41 = .ok (.iload_n 2, 1) := by decide +kernel
theorem dX6_bound_42 : decode cX6_bound 42 = .ok (.iload 4, 2) := by decide +kernel
theorem dX6_bound_44 : decode cX6_bound 44 = .ok (.invokevirtual 158, 3) := by decide +kernel
theorem dX6_bound_47 : decode cX6_bound 47 = .ok (.goto 4, 3) := by decide +kernel
theorem dX6_bound_50 : decode cX6_bound 50 = .ok (.iload_n 3, 1) := by decide +kernel
theorem dX6_bound_51 : decode cX6_bound 51 = .ok (.istore_n 3, 1) := by decide +kernel
theorem dX6_bound_52 : decode cX6_bound 52 = .ok (.iinc 4 1, 3) := by decide +kernel
theorem dX6_bound_55 : decode cX6_bound 55 = .ok (.goto (-37), 3) := by decide +kernel
theorem dX6_bound_58 : decode cX6_bound 58 = .ok (.iload_n 1, 1) := by decide +kernel
theorem dX6_bound_59 : decode cX6_bound 59 = .ok (.iload_n 3, 1) := by decide +kernel
theorem dX6_bound_60 : decode cX6_bound 60 = .ok (.iadd, 1) := by decide +kernel
theorem dX6_bound_61 : decode cX6_bound 61 = .ok (.invokestatic 191, 3) := by decide +kernel
theorem dX6_bound_64 : decode cX6_bound 64 = .ok (.istore_n 1, 1) := by decide +kernel
theorem dX6_bound_65 : decode cX6_bound 65 = .ok (.iconst 0, 1) := by decide +kernel
theorem dX6_bound_66 : decode cX6_bound 66 = .ok (.istore 4, 2) := by decide +kernel
theorem dX6_bound_68 : decode cX6_bound 68 = .ok (.iload 4, 2) := by decide +kernel
theorem dX6_bound_70 : decode cX6_bound 70 = .ok (.iload_n 2, 1) := by decide +kernel
theorem dX6_bound_71 : decode cX6_bound 71 = .ok (.if_icmp .ge 113, 3) := by decide +kernel
theorem dX6_bound_74 : decode cX6_bound 74 = .ok (.aload_n 0, 1) := by decide +kernel
theorem dX6_bound_75 : decode cX6_bound 75 = .ok (.iload_n 2, 1) := by decide +kernel
theorem dX6_bound_76 : decode cX6_bound 76 = .ok (.iload 4, 2) := by decide +kernel
theorem dX6_bound_78 : decode cX6_bound 78 = .ok (.invokevirtual 146, 3) := by decide +kernel
theorem dX6_bound_81 : decode cX6_bound 81 = .ok (.ifCond .eq 8, 3) := by decide +kernel
theorem dX6_bound_84 : decode cX6_bound 84 = .ok (.ldc 145, 2) := by decide +kernel
theorem dX6_bound_86 : decode cX6_bound 86 = .ok (.goto 4, 3) := by decide +kernel
theorem dX6_bound_89 : decode cX6_bound 89 = .ok (.iconst 0, 1) := by decide +kernel
theorem dX6_bound_90 : decode cX6_bound 90 = .ok (.istore_n 3, 1) := by decide +kernel
theorem dX6_bound_91 : decode cX6_bound 91 = .ok (.iconst 0, 1) := by decide +kernel
theorem dX6_bound_92 : decode cX6_bound 92 = .ok (.istore 5, 2) := by decide +kernel
theorem dX6_bound_94 : decode cX6_bound 94 = .ok (.iload 5, 2) := by decide +kernel
theorem dX6_bound_96 : decode cX6_bound 96 = .ok (.aload_n 0, 1) := by decide +kernel
theorem dX6_bound_97 : decode cX6_bound 97 = .ok (.getfield 13, 3) := by decide +kernel
theorem dX6_bound_100 : decode cX6_bound 100 = .ok (.iload_n 2, 1) := by decide +kernel
theorem dX6_bound_101 : decode cX6_bound 101 = .ok (.iaload, 1) := by decide +kernel
theorem dX6_bound_102 : decode cX6_bound 102 = .ok (.aload_n 0, 1) := by decide +kernel
theorem dX6_bound_103 : decode cX6_bound 103 = .ok (.getfield 13, 3) := by decide +kernel
theorem dX6_bound_106 : decode cX6_bound 106 = .ok (.iload 4, 2) := by decide +kernel
theorem dX6_bound_108 : decode cX6_bound 108 = .ok (.iaload, 1) := by decide +kernel
theorem dX6_bound_109 : decode cX6_bound 109 = .ok (.imul, 1) := by decide +kernel
theorem dX6_bound_110 : decode cX6_bound 110 = .ok (.if_icmp .ge 61, 3) := by decide +kernel
theorem dX6_bound_113 : decode cX6_bound 113 = .ok (.aload_n 0, 1) := by decide +kernel
theorem dX6_bound_114 : decode cX6_bound 114 = .ok (.iload_n 2, 1) := by decide +kernel
theorem dX6_bound_115 : decode cX6_bound 115 = .ok (.iload 4, 2) := by decide +kernel
theorem dX6_bound_117 : decode cX6_bound 117 = .ok (.invokevirtual 146, 3) := by decide +kernel
theorem dX6_bound_120 : decode cX6_bound 120 = .ok (.ifCond .eq 51, 3) := by decide +kernel
theorem dX6_bound_123 : decode cX6_bound 123 = .ok (.aload_n 0, 1) := by decide +kernel
theorem dX6_bound_124 : decode cX6_bound 124 = .ok (.iload_n 2, 1) := by decide +kernel
theorem dX6_bound_125 : decode cX6_bound 125 = .ok (.iload 4, 2) := by decide +kernel
theorem dX6_bound_127 : decode cX6_bound 127 = .ok (.iload 5, 2) := by decide +kernel
theorem dX6_bound_129 : decode cX6_bound 129 = .ok (.aload_n 0, 1) := by decide +kernel
theorem dX6_bound_130 : decode cX6_bound 130 = .ok (.getfield 13, 3) := by decide +kernel
theorem dX6_bound_133 : decode cX6_bound 133 = .ok (.iload 4, 2) := by decide +kernel
theorem dX6_bound_135 : decode cX6_bound 135 = .ok (.iaload, 1) := by decide +kernel
theorem dX6_bound_136 : decode cX6_bound 136 = .ok (.idiv, 1) := by decide +kernel
theorem dX6_bound_137 : decode cX6_bound 137 = .ok (.iload 5, 2) := by decide +kernel
theorem dX6_bound_139 : decode cX6_bound 139 = .ok (.aload_n 0, 1) := by decide +kernel
theorem dX6_bound_140 : decode cX6_bound 140 = .ok (.getfield 13, 3) := by decide +kernel
theorem dX6_bound_143 : decode cX6_bound 143 = .ok (.iload 4, 2) := by decide +kernel
theorem dX6_bound_145 : decode cX6_bound 145 = .ok (.iaload, 1) := by decide +kernel
theorem dX6_bound_146 : decode cX6_bound 146 = .ok (.irem, 1) := by decide +kernel
theorem dX6_bound_147 : decode cX6_bound 147 = .ok (.invokevirtual 162, 3) := by decide +kernel
theorem dX6_bound_150 : decode cX6_bound 150 = .ok (.istore 6, 2) := by decide +kernel
theorem dX6_bound_152 : decode cX6_bound 152 = .ok (.iload 6, 2) := by decide +kernel
theorem dX6_bound_154 : decode cX6_bound 154 = .ok (.iload_n 3, 1) := by decide +kernel
theorem dX6_bound_155 : decode cX6_bound 155 = .ok (.if_icmp .ge 8, 3) := by decide +kernel
theorem dX6_bound_158 : decode cX6_bound 158 = .ok (.iload 6, 2) := by decide +kernel
theorem dX6_bound_160 : decode cX6_bound 160 = .ok (.goto 4, 3) := by decide +kernel
theorem dX6_bound_163 : decode cX6_bound 163 = .ok (.iload_n 3, 1) := by decide +kernel
theorem dX6_bound_164 : decode cX6_bound 164 = .ok (.istore_n 3, 1) := by decide +kernel
theorem dX6_bound_165 : decode cX6_bound 165 = .ok (.iinc 5 1, 3) := by decide +kernel
theorem dX6_bound_168 : decode cX6_bound 168 = .ok (.goto (-74), 3) := by decide +kernel
theorem dX6_bound_171 : decode cX6_bound 171 = .ok (.iload_n 1, 1) := by decide +kernel
theorem dX6_bound_172 : decode cX6_bound 172 = .ok (.iload_n 3, 1) := by decide +kernel
theorem dX6_bound_173 : decode cX6_bound 173 = .ok (.iadd, 1) := by decide +kernel
theorem dX6_bound_174 : decode cX6_bound 174 = .ok (.invokestatic 191, 3) := by decide +kernel
theorem dX6_bound_177 : decode cX6_bound 177 = .ok (.istore_n 1, 1) := by decide +kernel
theorem dX6_bound_178 : decode cX6_bound 178 = .ok (.iinc 4 1, 3) := by decide +kernel
theorem dX6_bound_181 : decode cX6_bound 181 = .ok (.goto (-113), 3) := by decide +kernel
theorem dX6_bound_184 : decode cX6_bound 184 = .ok (.iinc 2 1, 3) := by decide +kernel
theorem dX6_bound_187 : decode cX6_bound 187 = .ok (.goto (-183), 3) := by decide +kernel
theorem dX6_bound_190 : decode cX6_bound 190 = .ok (.iload_n 1, 1) := by decide +kernel
theorem dX6_bound_191 : decode cX6_bound 191 = .ok (.ireturn, 1) := by decide +kernel
theorem dX6_least_0 : decode cX6_least 0 = .ok (.iload_n 1, 1) := by decide +kernel
theorem dX6_least_1 : decode cX6_least 1 = .ok (.i2l, 1) := by decide +kernel
theorem dX6_least_2 : decode cX6_least 2 = .ok (.lconst 0, 1) := by decide +kernel
theorem dX6_least_3 : decode cX6_least 3 = .ok (.ldc2_w 239, 3) := by decide +kernel
theorem dX6_least_6 : decode cX6_least 6 = .ok (.invokestatic 89, 3) := by decide +kernel
theorem dX6_least_9 : decode cX6_least 9 = .ok (.ifCond .ne 5, 3) := by decide +kernel
theorem dX6_least_12 : decode cX6_least 12 = .ok (.iconst (-1), 1) := by decide +kernel
theorem dX6_least_13 : decode cX6_least 13 = .ok (.ireturn, 1) := by decide +kernel
theorem dX6_least_14 : decode cX6_least 14 = .ok (.iload_n 1, 1) := by decide +kernel
theorem dX6_least_15 : decode cX6_least 15 = .ok (.iconst 4, 1) := by decide +kernel
theorem dX6_least_16 : decode cX6_least 16 = .ok (.if_icmp .ne 8, 3) := by decide +kernel
theorem dX6_least_19 : decode cX6_least 19 = .ok (.aload_n 0, 1) := by decide +kernel
theorem dX6_least_20 : decode cX6_least 20 = .ok (.invokevirtual 241, 3) := by decide +kernel
theorem dX6_least_23 : decode cX6_least 23 = .ok (.ireturn, 1) := by decide +kernel
theorem dX6_least_24 : decode cX6_least 24 = .ok (.aload_n 0, 1) := by decide +kernel
theorem dX6_least_25 : decode cX6_least 25 = .ok (.bipush (-4), 2) := by decide +kernel
theorem dX6_least_27 : decode cX6_least 27 = .ok (.iconst 0, 1) := by decide +kernel
theorem dX6_least_28 : decode cX6_least 28 = .ok (.invokevirtual 244, 3) := by decide +kernel
theorem dX6_least_31 : decode cX6_least 31 = .ok (.aload_n 0, 1) := by decide +kernel
theorem dX6_least_32 : decode cX6_least 32 = .ok (.getfield 227, 3) := by decide +kernel
theorem dX6_least_35 : decode cX6_least 35 = .ok (.ldc 145, 2) := by decide +kernel
theorem dX6_least_37 : decode cX6_least 37 = .ok (.if_icmp .ne 7, 3) := by decide +kernel
theorem dX6_least_40 : decode cX6_least 40 = .ok (.iconst 1, 1) := by decide +kernel
theorem dX6_least_41 : decode cX6_least 41 = .ok (.goto 4, 3) := by decide +kernel
theorem dX6_least_44 : decode cX6_least 44 = .ok (.iconst 0, 1) := by decide +kernel
theorem dX6_least_45 : decode cX6_least 45 = .ok (.istore_n 2, 1) := by decide +kernel
theorem dX6_least_46 : decode cX6_least 46 = .ok (.iload_n 1, 1) := by decide +kernel
theorem dX6_least_47 : decode cX6_least 47 = .ok (.ifCond .ne 10, 3) := by decide +kernel
theorem dX6_least_50 : decode cX6_least 50 = .ok (.aload_n 0, 1) := by decide +kernel
theorem dX6_least_51 : decode cX6_least 51 = .ok (.getfield 227, 3) := by decide +kernel
theorem dX6_least_54 : decode cX6_least 54 = .ok (.goto 58, 3) := by decide +kernel
theorem dX6_least_57 : decode cX6_least 57 = .ok (.iload_n 1, 1) := by decide +kernel
theorem dX6_least_58 : decode cX6_least 58 = .ok (.iconst 1, 1) := by decide +kernel
theorem dX6_least_59 : decode cX6_least 59 = .ok (.if_icmp .ne 10, 3) := by decide +kernel
theorem dX6_least_62 : decode cX6_least 62 = .ok (.aload_n 0, 1) := by decide +kernel
theorem dX6_least_63 : decode cX6_least 63 = .ok (.getfield 230, 3) := by decide +kernel
theorem dX6_least_66 : decode cX6_least 66 = .ok (.goto 46, 3) := by decide +kernel
theorem dX6_least_69 : decode cX6_least 69 = .ok (.iload_n 1, 1) := by decide +kernel
theorem dX6_least_70 : decode cX6_least 70 = .ok (.iconst 2, 1) := by decide +kernel
theorem dX6_least_71 : decode cX6_least 71 = .ok (.if_icmp .ne 19, 3) := by decide +kernel
theorem dX6_least_74 : decode cX6_least 74 = .ok (.iload_n 2, 1) := by decide +kernel
theorem dX6_least_75 : decode cX6_least 75 = .ok (.ifCond .eq 8, 3) := by decide +kernel
theorem dX6_least_78 : decode cX6_least 78 = .ok (.bipush (-4), 2) := by decide +kernel
theorem dX6_least_80 : decode cX6_least 80 = .ok (.goto 32, 3) := by decide +kernel
theorem dX6_least_83 : decode cX6_least 83 = .ok (.aload_n 0, 1) := by decide +kernel
theorem dX6_least_84 : decode cX6_least 84 = .ok (.invokevirtual 247, 3) := by decide +kernel
theorem dX6_least_87 : decode cX6_least 87 = .ok (.goto 25, 3) := by decide +kernel
theorem dX6_least_90 : decode cX6_least 90 = .ok (.iload_n 2, 1) := by decide +kernel
theorem dX6_least_91 : decode cX6_least 91 = .ok (.ifCond .ne 12, 3) := by decide +kernel
theorem dX6_least_94 : decode cX6_least 94 = .ok (.aload_n 0, 1) := by decide +kernel
theorem dX6_least_95 : decode cX6_least 95 = .ok (.getfield 233, 3) := by decide +kernel
theorem dX6_least_98 : decode cX6_least 98 = .ok (.ldc 145, 2) := by decide +kernel
theorem dX6_least_100 : decode cX6_least 100 = .ok (.if_icmp .ne 8, 3) := by decide +kernel
theorem dX6_least_103 : decode cX6_least 103 = .ok (.bipush (-4), 2) := by decide +kernel
theorem dX6_least_105 : decode cX6_least 105 = .ok (.goto 7, 3) := by decide +kernel
theorem dX6_least_108 : decode cX6_least 108 = .ok (.aload_n 0, 1) := by decide +kernel
theorem dX6_least_109 : decode cX6_least 109 = .ok (.getfield 233, 3) := by decide +kernel
theorem dX6_least_112 : decode cX6_least 112 = .ok (.ireturn, 1) := by decide +kernel
theorem dX6_first_0 : decode cX6_first 0 = .ok (.aload_n 0, 1) := by decide +kernel
theorem dX6_first_1 : decode cX6_first 1 = .ok (.iload_n 1, 1) := by decide +kernel
theorem dX6_first_2 : decode cX6_first 2 = .ok (.invokevirtual 141, 3) := by decide +kernel
theorem dX6_first_5 : decode cX6_first 5 = .ok (.ifCond .ne 5, 3) := by decide +kernel
theorem dX6_first_8 : decode cX6_first 8 = .ok (.iconst (-1), 1) := by decide +kernel
theorem dX6_first_9 : decode cX6_first 9 = .ok (.ireturn, 1) := by decide +kernel
theorem dX6_first_10 : decode cX6_first 10 = .ok (.aload_n 0, 1) := by decide +kernel
theorem dX6_first_11 : decode cX6_first 11 = .ok (.bipush (-4), 2) := by decide +kernel
theorem dX6_first_13 : decode cX6_first 13 = .ok (.iconst 0, 1) := by decide +kernel
theorem dX6_first_14 : decode cX6_first 14 = .ok (.invokevirtual 244, 3) := by decide +kernel
theorem dX6_first_17 : decode cX6_first 17 = .ok (.aload_n 0, 1) := by decide +kernel
theorem dX6_first_18 : decode cX6_first 18 = .ok (.getfield 52, 3) := by decide +kernel
theorem dX6_first_21 : decode cX6_first 21 = .ok (.iload_n 1, 1) := by decide +kernel
theorem dX6_first_22 : decode cX6_first 22 = .ok (.iaload, 1) := by decide +kernel
theorem dX6_first_23 : decode cX6_first 23 = .ok (.ireturn, 1) := by decide +kernel
theorem dX6_with_0 : decode cX6_with 0 = .ok (.aload_n 0, 1) := by decide +kernel
theorem dX6_with_1 : decode cX6_with 1 = .ok (.iload_n 1, 1) := by decide +kernel
theorem dX6_with_2 : decode cX6_with 2 = .ok (.iload_n 2, 1) := by decide +kernel
theorem dX6_with_3 : decode cX6_with 3 = .ok (.invokevirtual 155, 3) := by decide +kernel
theorem dX6_with_6 : decode cX6_with 6 = .ok (.ifCond .ne 5, 3) := by decide +kernel
theorem dX6_with_9 : decode cX6_with 9 = .ok (.iconst (-1), 1) := by decide +kernel
theorem dX6_with_10 : decode cX6_with 10 = .ok (.ireturn, 1) := by decide +kernel
theorem dX6_with_11 : decode cX6_with 11 = .ok (.aload_n 0, 1) := by decide +kernel
theorem dX6_with_12 : decode cX6_with 12 = .ok (.iload_n 1, 1) := by decide +kernel
theorem dX6_with_13 : decode cX6_with 13 = .ok (.iload_n 2, 1) := by decide +kernel
theorem dX6_with_14 : decode cX6_with 14 = .ok (.invokevirtual 244, 3) := by decide +kernel
theorem dX6_with_17 : decode cX6_with 17 = .ok (.aload_n 0, 1) := by decide +kernel
theorem dX6_with_18 : decode cX6_with 18 = .ok (.getfield 227, 3) := by decide +kernel
theorem dX6_with_21 : decode cX6_with 21 = .ok (.ireturn, 1) := by decide +kernel
theorem dX6_without_0 : decode cX6_without 0 = .ok (.aload_n 0, 1) := by decide +kernel
theorem dX6_without_1 : decode cX6_without 1 = .ok (.iload_n 1, 1) := by decide +kernel
theorem dX6_without_2 : decode cX6_without 2 = .ok (.iload_n 2, 1) := by decide +kernel
theorem dX6_without_3 : decode cX6_without 3 = .ok (.invokevirtual 170, 3) := by decide +kernel
theorem dX6_without_6 : decode cX6_without 6 = .ok (.ifCond .ne 5, 3) := by decide +kernel
theorem dX6_without_9 : decode cX6_without 9 = .ok (.iconst (-1), 1) := by decide +kernel
theorem dX6_without_10 : decode cX6_without 10 = .ok (.ireturn, 1) := by decide +kernel
theorem dX6_without_11 : decode cX6_without 11 = .ok (.aload_n 0, 1) := by decide +kernel
theorem dX6_without_12 : decode cX6_without 12 = .ok (.iload_n 1, 1) := by decide +kernel
theorem dX6_without_13 : decode cX6_without 13 = .ok (.iload_n 2, 1) := by decide +kernel
theorem dX6_without_14 : decode cX6_without 14 = .ok (.invokevirtual 146, 3) := by decide +kernel
theorem dX6_without_17 : decode cX6_without 17 = .ok (.ifCond .ne 6, 3) := by decide +kernel
theorem dX6_without_20 : decode cX6_without 20 = .ok (.bipush (-4), 2) := by decide +kernel
theorem dX6_without_22 : decode cX6_without 22 = .ok (.ireturn, 1) := by decide +kernel
theorem dX6_without_23 : decode cX6_without 23 = .ok (.iconst 0, 1) := by decide +kernel
theorem dX6_without_24 : decode cX6_without 24 = .ok (.istore_n 3, 1) := by decide +kernel
theorem dX6_without_25 : decode cX6_without 25 = .ok (.iload_n 3, 1) := by decide +kernel
theorem dX6_without_26 : decode cX6_without 26 = .ok (.bipush 16, 2) := by decide +kernel
theorem dX6_without_28 : decode cX6_without 28 = .ok (.if_icmp .ge 31, 3) := by decide +kernel
theorem dX6_without_31 : decode cX6_without 31 = .ok (.aload_n 0, 1) := by decide +kernel
theorem dX6_without_32 : decode cX6_without 32 = .ok (.getfield 58, 3) := by decide +kernel
theorem dX6_without_35 : decode cX6_without 35 = .ok (.iload_n 3, 1) := by decide +kernel
theorem dX6_without_36 : decode cX6_without 36 = .ok (.aload_n 0, 1) := by decide +kernel
theorem dX6_without_37 : decode cX6_without 37 = .ok (.getfield 22, 3) := by decide +kernel
theorem dX6_without_40 : decode cX6_without 40 = .ok (.iload_n 1, 1) := by decide +kernel
theorem dX6_without_41 : decode cX6_without 41 = .ok (.iload_n 2, 1) := by decide +kernel
theorem dX6_without_42 : decode cX6_without 42 = .ok (.iload_n 3, 1) := by decide +kernel
theorem dX6_without_43 : decode cX6_without 43 = .ok (.iconst 4, 1) := by decide +kernel
theorem dX6_without_44 : decode cX6_without 44 = .ok (.idiv, 1) := by decide +kernel
theorem dX6_without_45 : decode cX6_without 45 = .ok (.iload_n 3, 1) := by decide +kernel
theorem dX6_without_46 : decode cX6_without 46 = .ok (.iconst 4, 1) := by decide +kernel
theorem dX6_without_47 : decode cX6_without 47 = .ok (.irem, 1) := by decide +kernel
theorem dX6_without_48 : decode cX6_without 48 = .ok (.invokestatic 81, 3) := by decide +kernel
theorem dX6_without_51 : decode cX6_without 51 = .ok (.iaload, 1) := by decide +kernel
theorem dX6_without_52 : decode cX6_without 52 = .ok (.iastore, 1) := by decide +kernel
theorem dX6_without_53 : decode cX6_without 53 = .ok (.iinc 3 1, 3) := by decide +kernel
theorem dX6_without_56 : decode cX6_without 56 = .ok (.goto (-31), 3) := by decide +kernel
theorem dX6_without_59 : decode cX6_without 59 = .ok (.aload_n 0, 1) := by decide +kernel
theorem dX6_without_60 : decode cX6_without 60 = .ok (.iload_n 1, 1) := by decide +kernel
theorem dX6_without_61 : decode cX6_without 61 = .ok (.iload_n 2, 1) := by decide +kernel
theorem dX6_without_62 : decode cX6_without 62 = .ok (.invokevirtual 173, 3) := by decide +kernel
theorem dX6_without_65 : decode cX6_without 65 = .ok (.aload_n 0, 1) := by decide +kernel
theorem dX6_without_66 : decode cX6_without 66 = .ok (.bipush (-4), 2) := by decide +kernel
theorem dX6_without_68 : decode cX6_without 68 = .ok (.iconst 0, 1) := by decide +kernel
theorem dX6_without_69 : decode cX6_without 69 = .ok (.invokevirtual 244, 3) := by decide +kernel
theorem dX6_without_72 : decode cX6_without 72 = .ok (.iconst 0, 1) := by decide +kernel
theorem dX6_without_73 : decode cX6_without 73 = .ok (.istore_n 3, 1) := by decide +kernel
theorem dX6_without_74 : decode cX6_without 74 = .ok (.iload_n 3, 1) := by decide +kernel
theorem dX6_without_75 : decode cX6_without 75 = .ok (.bipush 16, 2) := by decide +kernel
theorem dX6_without_77 : decode cX6_without 77 = .ok (.if_icmp .ge 31, 3) := by decide +kernel
theorem dX6_without_80 : decode cX6_without 80 = .ok (.aload_n 0, 1) := by decide +kernel
theorem dX6_without_81 : decode cX6_without 81 = .ok (.getfield 22, 3) := by decide +kernel
theorem dX6_without_84 : decode cX6_without 84 = .ok (.iload_n 1, 1) := by decide +kernel
theorem dX6_without_85 : decode cX6_without 85 = .ok (.iload_n 2, 1) := by decide +kernel
theorem dX6_without_86 : decode cX6_without 86 = .ok (.iload_n 3, 1) := by decide +kernel
theorem dX6_without_87 : decode cX6_without 87 = .ok (.iconst 4, 1) := by decide +kernel
theorem dX6_without_88 : decode cX6_without 88 = .ok (.idiv, 1) := by decide +kernel
theorem dX6_without_89 : decode cX6_without 89 = .ok (.iload_n 3, 1) := by decide +kernel
theorem dX6_without_90 : decode cX6_without 90 = .ok (.iconst 4, 1) := by decide +kernel
theorem dX6_without_91 : decode cX6_without 91 = .ok (.irem, 1) := by decide +kernel
theorem dX6_without_92 : decode cX6_without 92 = .ok (.invokestatic 81, 3) := by decide +kernel
theorem dX6_without_95 : decode cX6_without 95 = .ok (.aload_n 0, 1) := by decide +kernel
theorem dX6_without_96 : decode cX6_without 96 = .ok (.getfield 58, 3) := by decide +kernel
theorem dX6_without_99 : decode cX6_without 99 = .ok (.iload_n 3, 1) := by decide +kernel
theorem dX6_without_100 : decode cX6_without 100 = .ok (.iaload, 1) := by decide +kernel
theorem dX6_without_101 : decode cX6_without 101 = .ok (.iastore, 1) := by decide +kernel
theorem dX6_without_102 : decode cX6_without 102 = .ok (.iinc 3 1, 3) := by decide +kernel
theorem dX6_without_105 : decode cX6_without 105 = .ok (.goto (-31), 3) := by decide +kernel
theorem dX6_without_108 : decode cX6_without 108 = .ok (.aload_n 0, 1) := by decide +kernel
theorem dX6_without_109 : decode cX6_without 109 = .ok (.getfield 227, 3) := by decide +kernel
theorem dX6_without_112 : decode cX6_without 112 = .ok (.ireturn, 1) := by decide +kernel
theorem dX6_keep_0 : decode cX6_keep 0 = .ok (.aload_n 0, 1) := by decide +kernel
theorem dX6_keep_1 : decode cX6_keep 1 = .ok (.getfield 138, 3) := by decide +kernel
theorem dX6_keep_4 : decode cX6_keep 4 = .ok (.iconst 2, 1) := by decide +kernel
theorem dX6_keep_5 : decode cX6_keep 5 = .ok (.if_icmp .ne 6, 3) := by decide +kernel
theorem dX6_keep_8 : decode cX6_keep 8 = .ok (.bipush (-3), 2) := by decide +kernel
theorem dX6_keep_10 : decode cX6_keep 10 = .ok (.ireturn, 1) := by decide +kernel
theorem dX6_keep_11 : decode cX6_keep 11 = .ok (.iconst 0, 1) := by decide +kernel
theorem dX6_keep_12 : decode cX6_keep 12 = .ok (.istore_n 1, 1) := by decide +kernel
theorem dX6_keep_13 : decode cX6_keep 13 = .ok (.iload_n 1, 1) := by decide +kernel
theorem dX6_keep_14 : decode cX6_keep 14 = .ok (.sipush 500, 3) := by decide +kernel
theorem dX6_keep_17 : decode cX6_keep 17 = .ok (.if_icmp .ge 30, 3) := by decide +kernel
theorem dX6_keep_20 : decode cX6_keep 20 = .ok (.aload_n 0, 1) := by decide +kernel
theorem dX6_keep_21 : decode cX6_keep 21 = .ok (.getfield 28, 3) := by decide +kernel
theorem dX6_keep_24 : decode cX6_keep 24 = .ok (.sipush 500, 3) := by decide +kernel
theorem dX6_keep_27 : decode cX6_keep 27 = .ok (.aload_n 0, 1) := by decide +kernel
theorem dX6_keep_28 : decode cX6_keep 28 = .ok (.getfield 138, 3) := by decide +kernel
theorem dX6_keep_31 : decode cX6_keep 31 = .ok (.imul, 1) := by decide +kernel
theorem dX6_keep_32 : decode cX6_keep 32 = .ok (.iload_n 1, 1) := by decide +kernel
theorem dX6_keep_33 : decode cX6_keep 33 = .ok (.iadd, 1) := by decide +kernel
theorem dX6_keep_34 : decode cX6_keep 34 = .ok (.aload_n 0, 1) := by decide +kernel
theorem dX6_keep_35 : decode cX6_keep 35 = .ok (.getfield 22, 3) := by decide +kernel
theorem dX6_keep_38 : decode cX6_keep 38 = .ok (.iload_n 1, 1) := by decide +kernel
theorem dX6_keep_39 : decode cX6_keep 39 = .ok (.iaload, 1) := by decide +kernel
theorem dX6_keep_40 : decode cX6_keep 40 = .ok (.iastore, 1) := by decide +kernel
theorem dX6_keep_41 : decode cX6_keep 41 = .ok (.iinc 1 1, 3) := by decide +kernel
theorem dX6_keep_44 : decode cX6_keep 44 = .ok (.goto (-31), 3) := by decide +kernel
theorem dX6_keep_47 : decode cX6_keep 47 = .ok (.aload_n 0, 1) := by decide +kernel
theorem dX6_keep_48 : decode cX6_keep 48 = .ok (.dup, 1) := by decide +kernel
theorem dX6_keep_49 : decode cX6_keep 49 = .ok (.getfield 138, 3) := by decide +kernel
theorem dX6_keep_52 : decode cX6_keep 52 = .ok (.iconst 1, 1) := by decide +kernel
theorem dX6_keep_53 : decode cX6_keep 53 = .ok (.iadd, 1) := by decide +kernel
theorem dX6_keep_54 : decode cX6_keep 54 = .ok (.putfield 138, 3) := by decide +kernel
theorem dX6_keep_57 : decode cX6_keep 57 = .ok (.aload_n 0, 1) := by decide +kernel
theorem dX6_keep_58 : decode cX6_keep 58 = .ok (.getfield 138, 3) := by decide +kernel
theorem dX6_keep_61 : decode cX6_keep 61 = .ok (.ireturn, 1) := by decide +kernel
theorem dX6_back_0 : decode cX6_back 0 = .ok (.aload_n 0, 1) := by decide +kernel
theorem dX6_back_1 : decode cX6_back 1 = .ok (.getfield 138, 3) := by decide +kernel
theorem dX6_back_4 : decode cX6_back 4 = .ok (.ifCond .ne 6, 3) := by decide +kernel
theorem dX6_back_7 : decode cX6_back 7 = .ok (.bipush (-2), 2) := by decide +kernel
theorem dX6_back_9 : decode cX6_back 9 = .ok (.ireturn, 1) := by decide +kernel
theorem dX6_back_10 : decode cX6_back 10 = .ok (.aload_n 0, 1) := by decide +kernel
theorem dX6_back_11 : decode cX6_back 11 = .ok (.dup, 1) := by decide +kernel
theorem dX6_back_12 : decode cX6_back 12 = .ok (.getfield 138, 3) := by decide +kernel
theorem dX6_back_15 : decode cX6_back 15 = .ok (.iconst 1, 1) := by decide +kernel
theorem dX6_back_16 : decode cX6_back 16 = .ok (.isub, 1) := by decide +kernel
theorem dX6_back_17 : decode cX6_back 17 = .ok (.putfield 138, 3) := by decide +kernel
theorem dX6_back_20 : decode cX6_back 20 = .ok (.iconst 0, 1) := by decide +kernel
theorem dX6_back_21 : decode cX6_back 21 = .ok (.istore_n 1, 1) := by decide +kernel
theorem dX6_back_22 : decode cX6_back 22 = .ok (.iload_n 1, 1) := by decide +kernel
theorem dX6_back_23 : decode cX6_back 23 = .ok (.sipush 500, 3) := by decide +kernel
theorem dX6_back_26 : decode cX6_back 26 = .ok (.if_icmp .ge 30, 3) := by decide +kernel
theorem dX6_back_29 : decode cX6_back 29 = .ok (.aload_n 0, 1) := by decide +kernel
theorem dX6_back_30 : decode cX6_back 30 = .ok (.getfield 22, 3) := by decide +kernel
theorem dX6_back_33 : decode cX6_back 33 = .ok (.iload_n 1, 1) := by decide +kernel
theorem dX6_back_34 : decode cX6_back 34 = .ok (.aload_n 0, 1) := by decide +kernel
theorem dX6_back_35 : decode cX6_back 35 = .ok (.getfield 28, 3) := by decide +kernel
theorem dX6_back_38 : decode cX6_back 38 = .ok (.sipush 500, 3) := by decide +kernel
theorem dX6_back_41 : decode cX6_back 41 = .ok (.aload_n 0, 1) := by decide +kernel
theorem dX6_back_42 : decode cX6_back 42 = .ok (.getfield 138, 3) := by decide +kernel
theorem dX6_back_45 : decode cX6_back 45 = .ok (.imul, 1) := by decide +kernel
theorem dX6_back_46 : decode cX6_back 46 = .ok (.iload_n 1, 1) := by decide +kernel
theorem dX6_back_47 : decode cX6_back 47 = .ok (.iadd, 1) := by decide +kernel
theorem dX6_back_48 : decode cX6_back 48 = .ok (.iaload, 1) := by decide +kernel
theorem dX6_back_49 : decode cX6_back 49 = .ok (.iastore, 1) := by decide +kernel
theorem dX6_back_50 : decode cX6_back 50 = .ok (.iinc 1 1, 3) := by decide +kernel
theorem dX6_back_53 : decode cX6_back 53 = .ok (.goto (-31), 3) := by decide +kernel
theorem dX6_back_56 : decode cX6_back 56 = .ok (.aload_n 0, 1) := by decide +kernel
theorem dX6_back_57 : decode cX6_back 57 = .ok (.iconst 0, 1) := by decide +kernel
theorem dX6_back_58 : decode cX6_back 58 = .ok (.putfield 135, 3) := by decide +kernel
theorem dX6_back_61 : decode cX6_back 61 = .ok (.aload_n 0, 1) := by decide +kernel
theorem dX6_back_62 : decode cX6_back 62 = .ok (.getfield 138, 3) := by decide +kernel
theorem dX6_back_65 : decode cX6_back 65 = .ok (.ireturn, 1) := by decide +kernel
theorem dX6_pinned_0 : decode cX6_pinned 0 = .ok (.iconst 0, 1) := by decide +kernel
theorem dX6_pinned_1 : decode cX6_pinned 1 = .ok (.istore_n 1, 1) := by decide +kernel
theorem dX6_pinned_2 : decode cX6_pinned 2 = .ok (.iconst 0, 1) := by decide +kernel
theorem dX6_pinned_3 : decode cX6_pinned 3 = .ok (.istore_n 2, 1) := by decide +kernel
theorem dX6_pinned_4 : decode cX6_pinned 4 = .ok (.iload_n 2, 1) := by decide +kernel
theorem dX6_pinned_5 : decode cX6_pinned 5 = .ok (.aload_n 0, 1) := by decide +kernel
theorem dX6_pinned_6 : decode cX6_pinned 6 = .ok (.getfield 132, 3) := by decide +kernel
theorem dX6_pinned_9 : decode cX6_pinned 9 = .ok (.if_icmp .ge 29, 3) := by decide +kernel
theorem dX6_pinned_12 : decode cX6_pinned 12 = .ok (.iload_n 1, 1) := by decide +kernel
theorem dX6_pinned_13 : decode cX6_pinned 13 = .ok (.aload_n 0, 1) := by decide +kernel
theorem dX6_pinned_14 : decode cX6_pinned 14 = .ok (.getfield 22, 3) := by decide +kernel
theorem dX6_pinned_17 : decode cX6_pinned 17 = .ok (.bipush 40, 2) := by decide +kernel
theorem dX6_pinned_19 : decode cX6_pinned 19 = .ok (.iload_n 2, 1) := by decide +kernel
theorem dX6_pinned_20 : decode cX6_pinned 20 = .ok (.iadd, 1) := by decide +kernel
theorem dX6_pinned_21 : decode cX6_pinned 21 = .ok (.iaload, 1) := by decide +kernel
theorem dX6_pinned_22 : decode cX6_pinned 22 = .ok (.ifCond .le 7, 3) := by decide +kernel
theorem dX6_pinned_25 : decode cX6_pinned 25 = .ok (.iconst 1, 1) := by decide +kernel
theorem dX6_pinned_26 : decode cX6_pinned 26 = .ok (.goto 4, 3) := by decide +kernel
theorem dX6_pinned_29 : decode cX6_pinned 29 = .ok (.iconst 0, 1) := by decide +kernel
theorem dX6_pinned_30 : decode cX6_pinned 30 = .ok (.iadd, 1) := by decide +kernel
theorem dX6_pinned_31 : decode cX6_pinned 31 = .ok (.istore_n 1, 1) := by decide +kernel
theorem dX6_pinned_32 : decode cX6_pinned 32 = .ok (.iinc 2 1, 3) := by decide +kernel
theorem dX6_pinned_35 : decode cX6_pinned 35 = .ok (.goto (-31), 3) := by decide +kernel
theorem dX6_pinned_38 : decode cX6_pinned 38 = .ok (.iload_n 1, 1) := by decide +kernel
theorem dX6_pinned_39 : decode cX6_pinned 39 = .ok (.ireturn, 1) := by decide +kernel
theorem dX6_count_0 : decode cX6_count 0 = .ok (.iload_n 1, 1) := by decide +kernel
theorem dX6_count_1 : decode cX6_count 1 = .ok (.tableswitch 72 0 5 #[39, 44, 52, 57, 62, 67], 39) := by decide +kernel
theorem dX6_count_40 : decode cX6_count 40 = .ok (.aload_n 0, 1) := by decide +kernel
theorem dX6_count_41 : decode cX6_count 41 = .ok (.getfield 132, 3) := by decide +kernel
theorem dX6_count_44 : decode cX6_count 44 = .ok (.ireturn, 1) := by decide +kernel
theorem dX6_count_45 : decode cX6_count 45 = .ok (.aload_n 0, 1) := by decide +kernel
theorem dX6_count_46 : decode cX6_count 46 = .ok (.getfield 22, 3) := by decide +kernel
theorem dX6_count_49 : decode cX6_count 49 = .ok (.invokestatic 116, 3) := by decide +kernel
theorem dX6_count_52 : decode cX6_count 52 = .ok (.ireturn, 1) := by decide +kernel
theorem dX6_count_53 : decode cX6_count 53 = .ok (.aload_n 0, 1) := by decide +kernel
theorem dX6_count_54 : decode cX6_count 54 = .ok (.invokevirtual 250, 3) := by decide +kernel
theorem dX6_count_57 : decode cX6_count 57 = .ok (.ireturn, 1) := by decide +kernel
theorem dX6_count_58 : decode cX6_count 58 = .ok (.aload_n 0, 1) := by decide +kernel
theorem dX6_count_59 : decode cX6_count 59 = .ok (.getfield 135, 3) := by decide +kernel
theorem dX6_count_62 : decode cX6_count 62 = .ok (.ireturn, 1) := by decide +kernel
theorem dX6_count_63 : decode cX6_count 63 = .ok (.aload_n 0, 1) := by decide +kernel
theorem dX6_count_64 : decode cX6_count 64 = .ok (.getfield 138, 3) := by decide +kernel
theorem dX6_count_67 : decode cX6_count 67 = .ok (.ireturn, 1) := by decide +kernel
theorem dX6_count_68 : decode cX6_count 68 = .ok (.aload_n 0, 1) := by decide +kernel
theorem dX6_count_69 : decode cX6_count 69 = .ok (.getfield 93, 3) := by decide +kernel
theorem dX6_count_72 : decode cX6_count 72 = .ok (.ireturn, 1) := by decide +kernel
theorem dX6_count_73 : decode cX6_count 73 = .ok (.iconst (-1), 1) := by decide +kernel
theorem dX6_count_74 : decode cX6_count 74 = .ok (.ireturn, 1) := by decide +kernel
end
section
theorem dJ6_numberOfTrailingZeros_0f7a4_0 : decode cJ6_numberOfTrailingZeros_0f7a4 0 = .ok (.iload_n 0, 1) := by decide +kernel
theorem dJ6_numberOfTrailingZeros_0f7a4_1 : decode cJ6_numberOfTrailingZeros_0f7a4 1 = .ok (.iconst (-1), 1) := by decide +kernel
theorem dJ6_numberOfTrailingZeros_0f7a4_2 : decode cJ6_numberOfTrailingZeros_0f7a4 2 = .ok (.ixor, 1) := by decide +kernel
theorem dJ6_numberOfTrailingZeros_0f7a4_3 : decode cJ6_numberOfTrailingZeros_0f7a4 3 = .ok (.iload_n 0, 1) := by decide +kernel
theorem dJ6_numberOfTrailingZeros_0f7a4_4 : decode cJ6_numberOfTrailingZeros_0f7a4 4 = .ok (.iconst 1, 1) := by decide +kernel
theorem dJ6_numberOfTrailingZeros_0f7a4_5 : decode cJ6_numberOfTrailingZeros_0f7a4 5 = .ok (.isub, 1) := by decide +kernel
theorem dJ6_numberOfTrailingZeros_0f7a4_6 : decode cJ6_numberOfTrailingZeros_0f7a4 6 = .ok (.iand, 1) := by decide +kernel
theorem dJ6_numberOfTrailingZeros_0f7a4_7 : decode cJ6_numberOfTrailingZeros_0f7a4 7 = .ok (.istore_n 0, 1) := by decide +kernel
theorem dJ6_numberOfTrailingZeros_0f7a4_8 : decode cJ6_numberOfTrailingZeros_0f7a4 8 = .ok (.iload_n 0, 1) := by decide +kernel
theorem dJ6_numberOfTrailingZeros_0f7a4_9 : decode cJ6_numberOfTrailingZeros_0f7a4 9 = .ok (.ifCond .gt 8, 3) := by decide +kernel
theorem dJ6_numberOfTrailingZeros_0f7a4_12 : decode cJ6_numberOfTrailingZeros_0f7a4 12 = .ok (.iload_n 0, 1) := by decide +kernel
theorem dJ6_numberOfTrailingZeros_0f7a4_13 : decode cJ6_numberOfTrailingZeros_0f7a4 13 = .ok (.bipush 32, 2) := by decide +kernel
theorem dJ6_numberOfTrailingZeros_0f7a4_15 : decode cJ6_numberOfTrailingZeros_0f7a4 15 = .ok (.iand, 1) := by decide +kernel
theorem dJ6_numberOfTrailingZeros_0f7a4_16 : decode cJ6_numberOfTrailingZeros_0f7a4 16 = .ok (.ireturn, 1) := by decide +kernel
theorem dJ6_numberOfTrailingZeros_0f7a4_17 : decode cJ6_numberOfTrailingZeros_0f7a4 17 = .ok (.iconst 1, 1) := by decide +kernel
theorem dJ6_numberOfTrailingZeros_0f7a4_18 : decode cJ6_numberOfTrailingZeros_0f7a4 18 = .ok (.istore_n 1, 1) := by decide +kernel
theorem dJ6_numberOfTrailingZeros_0f7a4_19 : decode cJ6_numberOfTrailingZeros_0f7a4 19 = .ok (.iload_n 0, 1) := by decide +kernel
theorem dJ6_numberOfTrailingZeros_0f7a4_20 : decode cJ6_numberOfTrailingZeros_0f7a4 20 = .ok (.ldc_w 264, 3) := by decide +kernel
theorem dJ6_numberOfTrailingZeros_0f7a4_23 : decode cJ6_numberOfTrailingZeros_0f7a4 23 = .ok (.if_icmp .le 11, 3) := by decide +kernel
theorem dJ6_numberOfTrailingZeros_0f7a4_26 : decode cJ6_numberOfTrailingZeros_0f7a4 26 = .ok (.iinc 1 16, 3) := by decide +kernel
theorem dJ6_numberOfTrailingZeros_0f7a4_29 : decode cJ6_numberOfTrailingZeros_0f7a4 29 = .ok (.iload_n 0, 1) := by decide +kernel
theorem dJ6_numberOfTrailingZeros_0f7a4_30 : decode cJ6_numberOfTrailingZeros_0f7a4 30 = .ok (.bipush 16, 2) := by decide +kernel
theorem dJ6_numberOfTrailingZeros_0f7a4_32 : decode cJ6_numberOfTrailingZeros_0f7a4 32 = .ok (.iushr, 1) := by decide +kernel
theorem dJ6_numberOfTrailingZeros_0f7a4_33 : decode cJ6_numberOfTrailingZeros_0f7a4 33 = .ok (.istore_n 0, 1) := by decide +kernel
theorem dJ6_numberOfTrailingZeros_0f7a4_34 : decode cJ6_numberOfTrailingZeros_0f7a4 34 = .ok (.iload_n 0, 1) := by decide +kernel
theorem dJ6_numberOfTrailingZeros_0f7a4_35 : decode cJ6_numberOfTrailingZeros_0f7a4 35 = .ok (.sipush 256, 3) := by decide +kernel
theorem dJ6_numberOfTrailingZeros_0f7a4_38 : decode cJ6_numberOfTrailingZeros_0f7a4 38 = .ok (.if_icmp .le 11, 3) := by decide +kernel
theorem dJ6_numberOfTrailingZeros_0f7a4_41 : decode cJ6_numberOfTrailingZeros_0f7a4 41 = .ok (.iinc 1 8, 3) := by decide +kernel
theorem dJ6_numberOfTrailingZeros_0f7a4_44 : decode cJ6_numberOfTrailingZeros_0f7a4 44 = .ok (.iload_n 0, 1) := by decide +kernel
theorem dJ6_numberOfTrailingZeros_0f7a4_45 : decode cJ6_numberOfTrailingZeros_0f7a4 45 = .ok (.bipush 8, 2) := by decide +kernel
theorem dJ6_numberOfTrailingZeros_0f7a4_47 : decode cJ6_numberOfTrailingZeros_0f7a4 47 = .ok (.iushr, 1) := by decide +kernel
theorem dJ6_numberOfTrailingZeros_0f7a4_48 : decode cJ6_numberOfTrailingZeros_0f7a4 48 = .ok (.istore_n 0, 1) := by decide +kernel
theorem dJ6_numberOfTrailingZeros_0f7a4_49 : decode cJ6_numberOfTrailingZeros_0f7a4 49 = .ok (.iload_n 0, 1) := by decide +kernel
theorem dJ6_numberOfTrailingZeros_0f7a4_50 : decode cJ6_numberOfTrailingZeros_0f7a4 50 = .ok (.bipush 16, 2) := by decide +kernel
theorem dJ6_numberOfTrailingZeros_0f7a4_52 : decode cJ6_numberOfTrailingZeros_0f7a4 52 = .ok (.if_icmp .le 10, 3) := by decide +kernel
theorem dJ6_numberOfTrailingZeros_0f7a4_55 : decode cJ6_numberOfTrailingZeros_0f7a4 55 = .ok (.iinc 1 4, 3) := by decide +kernel
theorem dJ6_numberOfTrailingZeros_0f7a4_58 : decode cJ6_numberOfTrailingZeros_0f7a4 58 = .ok (.iload_n 0, 1) := by decide +kernel
theorem dJ6_numberOfTrailingZeros_0f7a4_59 : decode cJ6_numberOfTrailingZeros_0f7a4 59 = .ok (.iconst 4, 1) := by decide +kernel
theorem dJ6_numberOfTrailingZeros_0f7a4_60 : decode cJ6_numberOfTrailingZeros_0f7a4 60 = .ok (.iushr, 1) := by decide +kernel
theorem dJ6_numberOfTrailingZeros_0f7a4_61 : decode cJ6_numberOfTrailingZeros_0f7a4 61 = .ok (.istore_n 0, 1) := by decide +kernel
theorem dJ6_numberOfTrailingZeros_0f7a4_62 : decode cJ6_numberOfTrailingZeros_0f7a4 62 = .ok (.iload_n 0, 1) := by decide +kernel
theorem dJ6_numberOfTrailingZeros_0f7a4_63 : decode cJ6_numberOfTrailingZeros_0f7a4 63 = .ok (.iconst 4, 1) := by decide +kernel
theorem dJ6_numberOfTrailingZeros_0f7a4_64 : decode cJ6_numberOfTrailingZeros_0f7a4 64 = .ok (.if_icmp .le 10, 3) := by decide +kernel
theorem dJ6_numberOfTrailingZeros_0f7a4_67 : decode cJ6_numberOfTrailingZeros_0f7a4 67 = .ok (.iinc 1 2, 3) := by decide +kernel
theorem dJ6_numberOfTrailingZeros_0f7a4_70 : decode cJ6_numberOfTrailingZeros_0f7a4 70 = .ok (.iload_n 0, 1) := by decide +kernel
theorem dJ6_numberOfTrailingZeros_0f7a4_71 : decode cJ6_numberOfTrailingZeros_0f7a4 71 = .ok (.iconst 2, 1) := by decide +kernel
theorem dJ6_numberOfTrailingZeros_0f7a4_72 : decode cJ6_numberOfTrailingZeros_0f7a4 72 = .ok (.iushr, 1) := by decide +kernel
theorem dJ6_numberOfTrailingZeros_0f7a4_73 : decode cJ6_numberOfTrailingZeros_0f7a4 73 = .ok (.istore_n 0, 1) := by decide +kernel
theorem dJ6_numberOfTrailingZeros_0f7a4_74 : decode cJ6_numberOfTrailingZeros_0f7a4 74 = .ok (.iload_n 1, 1) := by decide +kernel
theorem dJ6_numberOfTrailingZeros_0f7a4_75 : decode cJ6_numberOfTrailingZeros_0f7a4 75 = .ok (.iload_n 0, 1) := by decide +kernel
theorem dJ6_numberOfTrailingZeros_0f7a4_76 : decode cJ6_numberOfTrailingZeros_0f7a4 76 = .ok (.iconst 1, 1) := by decide +kernel
theorem dJ6_numberOfTrailingZeros_0f7a4_77 : decode cJ6_numberOfTrailingZeros_0f7a4 77 = .ok (.iushr, 1) := by decide +kernel
theorem dJ6_numberOfTrailingZeros_0f7a4_78 : decode cJ6_numberOfTrailingZeros_0f7a4 78 = .ok (.iadd, 1) := by decide +kernel
theorem dJ6_numberOfTrailingZeros_0f7a4_79 : decode cJ6_numberOfTrailingZeros_0f7a4 79 = .ok (.ireturn, 1) := by decide +kernel
theorem dJ6_bitCount_0f7a4_0 : decode cJ6_bitCount_0f7a4 0 = .ok (.iload_n 0, 1) := by decide +kernel
theorem dJ6_bitCount_0f7a4_1 : decode cJ6_bitCount_0f7a4 1 = .ok (.iload_n 0, 1) := by decide +kernel
theorem dJ6_bitCount_0f7a4_2 : decode cJ6_bitCount_0f7a4 2 = .ok (.iconst 1, 1) := by decide +kernel
theorem dJ6_bitCount_0f7a4_3 : decode cJ6_bitCount_0f7a4 3 = .ok (.iushr, 1) := by decide +kernel
theorem dJ6_bitCount_0f7a4_4 : decode cJ6_bitCount_0f7a4 4 = .ok (.ldc_w 265, 3) := by decide +kernel
theorem dJ6_bitCount_0f7a4_7 : decode cJ6_bitCount_0f7a4 7 = .ok (.iand, 1) := by decide +kernel
theorem dJ6_bitCount_0f7a4_8 : decode cJ6_bitCount_0f7a4 8 = .ok (.isub, 1) := by decide +kernel
theorem dJ6_bitCount_0f7a4_9 : decode cJ6_bitCount_0f7a4 9 = .ok (.istore_n 0, 1) := by decide +kernel
theorem dJ6_bitCount_0f7a4_10 : decode cJ6_bitCount_0f7a4 10 = .ok (.iload_n 0, 1) := by decide +kernel
theorem dJ6_bitCount_0f7a4_11 : decode cJ6_bitCount_0f7a4 11 = .ok (.ldc_w 266, 3) := by decide +kernel
theorem dJ6_bitCount_0f7a4_14 : decode cJ6_bitCount_0f7a4 14 = .ok (.iand, 1) := by decide +kernel
theorem dJ6_bitCount_0f7a4_15 : decode cJ6_bitCount_0f7a4 15 = .ok (.iload_n 0, 1) := by decide +kernel
theorem dJ6_bitCount_0f7a4_16 : decode cJ6_bitCount_0f7a4 16 = .ok (.iconst 2, 1) := by decide +kernel
theorem dJ6_bitCount_0f7a4_17 : decode cJ6_bitCount_0f7a4 17 = .ok (.iushr, 1) := by decide +kernel
theorem dJ6_bitCount_0f7a4_18 : decode cJ6_bitCount_0f7a4 18 = .ok (.ldc_w 266, 3) := by decide +kernel
theorem dJ6_bitCount_0f7a4_21 : decode cJ6_bitCount_0f7a4 21 = .ok (.iand, 1) := by decide +kernel
theorem dJ6_bitCount_0f7a4_22 : decode cJ6_bitCount_0f7a4 22 = .ok (.iadd, 1) := by decide +kernel
theorem dJ6_bitCount_0f7a4_23 : decode cJ6_bitCount_0f7a4 23 = .ok (.istore_n 0, 1) := by decide +kernel
theorem dJ6_bitCount_0f7a4_24 : decode cJ6_bitCount_0f7a4 24 = .ok (.iload_n 0, 1) := by decide +kernel
theorem dJ6_bitCount_0f7a4_25 : decode cJ6_bitCount_0f7a4 25 = .ok (.iload_n 0, 1) := by decide +kernel
theorem dJ6_bitCount_0f7a4_26 : decode cJ6_bitCount_0f7a4 26 = .ok (.iconst 4, 1) := by decide +kernel
theorem dJ6_bitCount_0f7a4_27 : decode cJ6_bitCount_0f7a4 27 = .ok (.iushr, 1) := by decide +kernel
theorem dJ6_bitCount_0f7a4_28 : decode cJ6_bitCount_0f7a4 28 = .ok (.iadd, 1) := by decide +kernel
theorem dJ6_bitCount_0f7a4_29 : decode cJ6_bitCount_0f7a4 29 = .ok (.ldc_w 267, 3) := by decide +kernel
theorem dJ6_bitCount_0f7a4_32 : decode cJ6_bitCount_0f7a4 32 = .ok (.iand, 1) := by decide +kernel
theorem dJ6_bitCount_0f7a4_33 : decode cJ6_bitCount_0f7a4 33 = .ok (.istore_n 0, 1) := by decide +kernel
theorem dJ6_bitCount_0f7a4_34 : decode cJ6_bitCount_0f7a4 34 = .ok (.iload_n 0, 1) := by decide +kernel
theorem dJ6_bitCount_0f7a4_35 : decode cJ6_bitCount_0f7a4 35 = .ok (.iload_n 0, 1) := by decide +kernel
theorem dJ6_bitCount_0f7a4_36 : decode cJ6_bitCount_0f7a4 36 = .ok (.bipush 8, 2) := by decide +kernel
theorem dJ6_bitCount_0f7a4_38 : decode cJ6_bitCount_0f7a4 38 = .ok (.iushr, 1) := by decide +kernel
theorem dJ6_bitCount_0f7a4_39 : decode cJ6_bitCount_0f7a4 39 = .ok (.iadd, 1) := by decide +kernel
theorem dJ6_bitCount_0f7a4_40 : decode cJ6_bitCount_0f7a4 40 = .ok (.istore_n 0, 1) := by decide +kernel
theorem dJ6_bitCount_0f7a4_41 : decode cJ6_bitCount_0f7a4 41 = .ok (.iload_n 0, 1) := by decide +kernel
theorem dJ6_bitCount_0f7a4_42 : decode cJ6_bitCount_0f7a4 42 = .ok (.iload_n 0, 1) := by decide +kernel
theorem dJ6_bitCount_0f7a4_43 : decode cJ6_bitCount_0f7a4 43 = .ok (.bipush 16, 2) := by decide +kernel
theorem dJ6_bitCount_0f7a4_45 : decode cJ6_bitCount_0f7a4 45 = .ok (.iushr, 1) := by decide +kernel
theorem dJ6_bitCount_0f7a4_46 : decode cJ6_bitCount_0f7a4 46 = .ok (.iadd, 1) := by decide +kernel
theorem dJ6_bitCount_0f7a4_47 : decode cJ6_bitCount_0f7a4 47 = .ok (.istore_n 0, 1) := by decide +kernel
theorem dJ6_bitCount_0f7a4_48 : decode cJ6_bitCount_0f7a4 48 = .ok (.iload_n 0, 1) := by decide +kernel
theorem dJ6_bitCount_0f7a4_49 : decode cJ6_bitCount_0f7a4 49 = .ok (.bipush 63, 2) := by decide +kernel
theorem dJ6_bitCount_0f7a4_51 : decode cJ6_bitCount_0f7a4 51 = .ok (.iand, 1) := by decide +kernel
theorem dJ6_bitCount_0f7a4_52 : decode cJ6_bitCount_0f7a4 52 = .ok (.ireturn, 1) := by decide +kernel
theorem dJ9_min_7cf53_0 : decode cJ9_min_7cf53 0 = .ok (.iload_n 0, 1) := by decide +kernel
theorem dJ9_min_7cf53_1 : decode cJ9_min_7cf53 1 = .ok (.iload_n 1, 1) := by decide +kernel
theorem dJ9_min_7cf53_2 : decode cJ9_min_7cf53 2 = .ok (.if_icmp .gt 7, 3) := by decide +kernel
theorem dJ9_min_7cf53_5 : decode cJ9_min_7cf53 5 = .ok (.iload_n 0, 1) := by decide +kernel
theorem dJ9_min_7cf53_6 : decode cJ9_min_7cf53 6 = .ok (.goto 4, 3) := by decide +kernel
theorem dJ9_min_7cf53_9 : decode cJ9_min_7cf53 9 = .ok (.iload_n 1, 1) := by decide +kernel
theorem dJ9_min_7cf53_10 : decode cJ9_min_7cf53 10 = .ok (.ireturn, 1) := by decide +kernel
theorem dJ0_length_8abf5_0 : decode cJ0_length_8abf5 0 = .ok (.aload_n 0, 1) := by decide +kernel
theorem dJ0_length_8abf5_1 : decode cJ0_length_8abf5 1 = .ok (.getfield 9, 3) := by decide +kernel
theorem dJ0_length_8abf5_4 : decode cJ0_length_8abf5 4 = .ok (.arraylength, 1) := by decide +kernel
theorem dJ0_length_8abf5_5 : decode cJ0_length_8abf5 5 = .ok (.aload_n 0, 1) := by decide +kernel
theorem dJ0_length_8abf5_6 : decode cJ0_length_8abf5 6 = .ok (.invokevirtual 335, 3) := by decide +kernel
theorem dJ0_length_8abf5_9 : decode cJ0_length_8abf5 9 = .ok (.ishr, 1) := by decide +kernel
theorem dJ0_length_8abf5_10 : decode cJ0_length_8abf5 10 = .ok (.ireturn, 1) := by decide +kernel
theorem dJ0_charAt_5068e_0 : decode cJ0_charAt_5068e 0 = .ok (.aload_n 0, 1) := by decide +kernel
theorem dJ0_charAt_5068e_1 : decode cJ0_charAt_5068e 1 = .ok (.invokevirtual 492, 3) := by decide +kernel
theorem dJ0_charAt_5068e_4 : decode cJ0_charAt_5068e 4 = .ok (.ifCond .eq 12, 3) := by decide +kernel
theorem dJ0_charAt_5068e_7 : decode cJ0_charAt_5068e 7 = .ok (.aload_n 0, 1) := by decide +kernel
theorem dJ0_charAt_5068e_8 : decode cJ0_charAt_5068e 8 = .ok (.getfield 9, 3) := by decide +kernel
theorem dJ0_charAt_5068e_11 : decode cJ0_charAt_5068e 11 = .ok (.iload_n 1, 1) := by decide +kernel
theorem dJ0_charAt_5068e_12 : decode cJ0_charAt_5068e 12 = .ok (.invokestatic 495, 3) := by decide +kernel
theorem dJ0_charAt_5068e_15 : decode cJ0_charAt_5068e 15 = .ok (.ireturn, 1) := by decide +kernel
theorem dJ0_charAt_5068e_16 : decode cJ0_charAt_5068e 16 = .ok (.aload_n 0, 1) := by decide +kernel
theorem dJ0_charAt_5068e_17 : decode cJ0_charAt_5068e 17 = .ok (.getfield 9, 3) := by decide +kernel
theorem dJ0_charAt_5068e_20 : decode cJ0_charAt_5068e 20 = .ok (.iload_n 1, 1) := by decide +kernel
theorem dJ0_charAt_5068e_21 : decode cJ0_charAt_5068e 21 = .ok (.invokestatic 498, 3) := by decide +kernel
theorem dJ0_charAt_5068e_24 : decode cJ0_charAt_5068e 24 = .ok (.ireturn, 1) := by decide +kernel
theorem dJ0_coder_7d493_0 : decode cJ0_coder_7d493 0 = .ok (.getstatic 38, 3) := by decide +kernel
theorem dJ0_coder_7d493_3 : decode cJ0_coder_7d493 3 = .ok (.ifCond .eq 10, 3) := by decide +kernel
theorem dJ0_coder_7d493_6 : decode cJ0_coder_7d493 6 = .ok (.aload_n 0, 1) := by decide +kernel
theorem dJ0_coder_7d493_7 : decode cJ0_coder_7d493 7 = .ok (.getfield 15, 3) := by decide +kernel
theorem dJ0_coder_7d493_10 : decode cJ0_coder_7d493 10 = .ok (.goto 4, 3) := by decide +kernel
theorem dJ0_coder_7d493_13 : decode cJ0_coder_7d493 13 = .ok (.iconst 1, 1) := by decide +kernel
theorem dJ0_coder_7d493_14 : decode cJ0_coder_7d493 14 = .ok (.ireturn, 1) := by decide +kernel
theorem dJ0_isLatin1_aae02_0 : decode cJ0_isLatin1_aae02 0 = .ok (.getstatic 38, 3) := by decide +kernel
theorem dJ0_isLatin1_aae02_3 : decode cJ0_isLatin1_aae02 3 = .ok (.ifCond .eq 14, 3) := by decide +kernel
theorem dJ0_isLatin1_aae02_6 : decode cJ0_isLatin1_aae02 6 = .ok (.aload_n 0, 1) := by decide +kernel
theorem dJ0_isLatin1_aae02_7 : decode cJ0_isLatin1_aae02 7 = .ok (.getfield 15, 3) := by decide +kernel
theorem dJ0_isLatin1_aae02_10 : decode cJ0_isLatin1_aae02 10 = .ok (.ifCond .ne 7, 3) := by decide +kernel
theorem dJ0_isLatin1_aae02_13 : decode cJ0_isLatin1_aae02 13 = .ok (.iconst 1, 1) := by decide +kernel
theorem dJ0_isLatin1_aae02_14 : decode cJ0_isLatin1_aae02 14 = .ok (.goto 4, 3) := by decide +kernel
theorem dJ0_isLatin1_aae02_17 : decode cJ0_isLatin1_aae02 17 = .ok (.iconst 0, 1) := by decide +kernel
theorem dJ0_isLatin1_aae02_18 : decode cJ0_isLatin1_aae02 18 = .ok (.ireturn, 1) := by decide +kernel
theorem dJ0_checkIndex_df160_0 : decode cJ0_checkIndex_df160 0 = .ok (.iload_n 0, 1) := by decide +kernel
theorem dJ0_checkIndex_df160_1 : decode cJ0_checkIndex_df160 1 = .ok (.iload_n 1, 1) := by decide +kernel
theorem dJ0_checkIndex_df160_2 : decode cJ0_checkIndex_df160 2 = .ok (.getstatic 1053, 3) := by decide +kernel
theorem dJ0_checkIndex_df160_5 : decode cJ0_checkIndex_df160 5 = .ok (.invokestatic 1059, 3) := by decide +kernel
theorem dJ0_checkIndex_df160_8 : decode cJ0_checkIndex_df160 8 = .ok (.pop, 1) := by decide +kernel
theorem dJ0_checkIndex_df160_9 : decode cJ0_checkIndex_df160 9 = .ok (.return_, 1) := by decide +kernel
theorem dJ1_charAt_3b067_0 : decode cJ1_charAt_3b067 0 = .ok (.iload_n 1, 1) := by decide +kernel
theorem dJ1_charAt_3b067_1 : decode cJ1_charAt_3b067 1 = .ok (.aload_n 0, 1) := by decide +kernel
theorem dJ1_charAt_3b067_2 : decode cJ1_charAt_3b067 2 = .ok (.arraylength, 1) := by decide +kernel
theorem dJ1_charAt_3b067_3 : decode cJ1_charAt_3b067 3 = .ok (.invokestatic 9, 3) := by decide +kernel
theorem dJ1_charAt_3b067_6 : decode cJ1_charAt_3b067 6 = .ok (.aload_n 0, 1) := by decide +kernel
theorem dJ1_charAt_3b067_7 : decode cJ1_charAt_3b067 7 = .ok (.iload_n 1, 1) := by decide +kernel
theorem dJ1_charAt_3b067_8 : decode cJ1_charAt_3b067 8 = .ok (.baload, 1) := by decide +kernel
theorem dJ1_charAt_3b067_9 : decode cJ1_charAt_3b067 9 = .ok (.sipush 255, 3) := by decide +kernel
theorem dJ1_charAt_3b067_12 : decode cJ1_charAt_3b067 12 = .ok (.iand, 1) := by decide +kernel
theorem dJ1_charAt_3b067_13 : decode cJ1_charAt_3b067 13 = .ok (.i2c, 1) := by decide +kernel
theorem dJ1_charAt_3b067_14 : decode cJ1_charAt_3b067 14 = .ok (.ireturn, 1) := by decide +kernel
theorem dJ2_getChar_3b067_0 : decode cJ2_getChar_3b067 0 = .ok (.getstatic 44, 3) := by decide +kernel
theorem dJ2_getChar_3b067_3 : decode cJ2_getChar_3b067 3 = .ok (.ifCond .ne 25, 3) := by decide +kernel
theorem dJ2_getChar_3b067_6 : decode cJ2_getChar_3b067 6 = .ok (.iload_n 1, 1) := by decide +kernel
theorem dJ2_getChar_3b067_7 : decode cJ2_getChar_3b067 7 = .ok (.ifCond .lt 11, 3) := by decide +kernel
theorem dJ2_getChar_3b067_10 : decode cJ2_getChar_3b067 10 = .ok (.iload_n 1, 1) := by decide +kernel
theorem dJ2_getChar_3b067_11 : decode cJ2_getChar_3b067 11 = .ok (.aload_n 0, 1) := by decide +kernel
theorem dJ2_getChar_3b067_12 : decode cJ2_getChar_3b067 12 = .ok (.invokestatic 48, 3) := by decide +kernel
theorem dJ2_getChar_3b067_15 : decode cJ2_getChar_3b067 15 = .ok (.if_icmp .lt 13, 3) := by decide +kernel
theorem dJ2_getChar_3b067_18 : decode cJ2_getChar_3b067 18 = .ok (.new 52, 3) := by decide +kernel
theorem dJ2_getChar_3b067_21 : decode cJ2_getChar_3b067 21 = .ok (.dup, 1) := by decide +kernel
theorem dJ2_getChar_3b067_22 : decode cJ2_getChar_3b067 22 = .ok (.ldc 54, 2) := by decide +kernel
theorem dJ2_getChar_3b067_24 : decode cJ2_getChar_3b067 24 = .ok (.invokespecial 56, 3) := by decide +kernel
theorem dJ2_getChar_3b067_27 : decode cJ2_getChar_3b067 27 = .ok (.athrow, 1) := by decide +kernel
theorem dJ2_getChar_3b067_28 : decode cJ2_getChar_3b067 28 = .ok (.iload_n 1, 1) := by decide +kernel
theorem dJ2_getChar_3b067_29 : decode cJ2_getChar_3b067 29 = .ok (.iconst 1, 1) := by decide +kernel
theorem dJ2_getChar_3b067_30 : decode cJ2_getChar_3b067 30 = .ok (.ishl, 1) := by decide +kernel
theorem dJ2_getChar_3b067_31 : decode cJ2_getChar_3b067 31 = .ok (.istore_n 1, 1) := by decide +kernel
theorem dJ2_getChar_3b067_32 : decode cJ2_getChar_3b067 32 = .ok (.aload_n 0, 1) := by decide +kernel
theorem dJ2_getChar_3b067_33 : decode cJ2_getChar_3b067 33 = .ok (.iload_n 1, 1) := by decide +kernel
theorem dJ2_getChar_3b067_34 : decode cJ2_getChar_3b067 34 = .ok (.iinc 1 1, 3) := by decide +kernel
theorem dJ2_getChar_3b067_37 : decode cJ2_getChar_3b067 37 = .ok (.baload, 1) := by decide +kernel
theorem dJ2_getChar_3b067_38 : decode cJ2_getChar_3b067 38 = .ok (.sipush 255, 3) := by decide +kernel
theorem dJ2_getChar_3b067_41 : decode cJ2_getChar_3b067 41 = .ok (.iand, 1) := by decide +kernel
theorem dJ2_getChar_3b067_42 : decode cJ2_getChar_3b067 42 = .ok (.getstatic 59, 3) := by decide +kernel
theorem dJ2_getChar_3b067_45 : decode cJ2_getChar_3b067 45 = .ok (.ishl, 1) := by decide +kernel
theorem dJ2_getChar_3b067_46 : decode cJ2_getChar_3b067 46 = .ok (.aload_n 0, 1) := by decide +kernel
theorem dJ2_getChar_3b067_47 : decode cJ2_getChar_3b067 47 = .ok (.iload_n 1, 1) := by decide +kernel
theorem dJ2_getChar_3b067_48 : decode cJ2_getChar_3b067 48 = .ok (.baload, 1) := by decide +kernel
theorem dJ2_getChar_3b067_49 : decode cJ2_getChar_3b067 49 = .ok (.sipush 255, 3) := by decide +kernel
theorem dJ2_getChar_3b067_52 : decode cJ2_getChar_3b067 52 = .ok (.iand, 1) := by decide +kernel
theorem dJ2_getChar_3b067_53 : decode cJ2_getChar_3b067 53 = .ok (.getstatic 63, 3) := by decide +kernel
theorem dJ2_getChar_3b067_56 : decode cJ2_getChar_3b067 56 = .ok (.ishl, 1) := by decide +kernel
theorem dJ2_getChar_3b067_57 : decode cJ2_getChar_3b067 57 = .ok (.ior, 1) := by decide +kernel
theorem dJ2_getChar_3b067_58 : decode cJ2_getChar_3b067 58 = .ok (.i2c, 1) := by decide +kernel
theorem dJ2_getChar_3b067_59 : decode cJ2_getChar_3b067 59 = .ok (.ireturn, 1) := by decide +kernel
theorem dJ2_length_9d52b_0 : decode cJ2_length_9d52b 0 = .ok (.aload_n 0, 1) := by decide +kernel
theorem dJ2_length_9d52b_1 : decode cJ2_length_9d52b 1 = .ok (.arraylength, 1) := by decide +kernel
theorem dJ2_length_9d52b_2 : decode cJ2_length_9d52b 2 = .ok (.iconst 1, 1) := by decide +kernel
theorem dJ2_length_9d52b_3 : decode cJ2_length_9d52b 3 = .ok (.ishr, 1) := by decide +kernel
theorem dJ2_length_9d52b_4 : decode cJ2_length_9d52b 4 = .ok (.ireturn, 1) := by decide +kernel
theorem dJ2_charAt_3b067_0 : decode cJ2_charAt_3b067 0 = .ok (.iload_n 1, 1) := by decide +kernel
theorem dJ2_charAt_3b067_1 : decode cJ2_charAt_3b067 1 = .ok (.aload_n 0, 1) := by decide +kernel
theorem dJ2_charAt_3b067_2 : decode cJ2_charAt_3b067 2 = .ok (.invokestatic 67, 3) := by decide +kernel
theorem dJ2_charAt_3b067_5 : decode cJ2_charAt_3b067 5 = .ok (.aload_n 0, 1) := by decide +kernel
theorem dJ2_charAt_3b067_6 : decode cJ2_charAt_3b067 6 = .ok (.iload_n 1, 1) := by decide +kernel
theorem dJ2_charAt_3b067_7 : decode cJ2_charAt_3b067 7 = .ok (.invokestatic 71, 3) := by decide +kernel
theorem dJ2_charAt_3b067_10 : decode cJ2_charAt_3b067 10 = .ok (.ireturn, 1) := by decide +kernel
theorem dJ2_checkIndex_2214a_0 : decode cJ2_checkIndex_2214a 0 = .ok (.iload_n 0, 1) := by decide +kernel
theorem dJ2_checkIndex_2214a_1 : decode cJ2_checkIndex_2214a 1 = .ok (.aload_n 1, 1) := by decide +kernel
theorem dJ2_checkIndex_2214a_2 : decode cJ2_checkIndex_2214a 2 = .ok (.invokestatic 48, 3) := by decide +kernel
theorem dJ2_checkIndex_2214a_5 : decode cJ2_checkIndex_2214a 5 = .ok (.invokestatic 414, 3) := by decide +kernel
theorem dJ2_checkIndex_2214a_8 : decode cJ2_checkIndex_2214a 8 = .ok (.return_, 1) := by decide +kernel
theorem dJ3_checkIndex_8e157_0 : decode cJ3_checkIndex_8e157 0 = .ok (.iload_n 0, 1) := by decide +kernel
theorem dJ3_checkIndex_8e157_1 : decode cJ3_checkIndex_8e157 1 = .ok (.ifCond .lt 8, 3) := by decide +kernel
theorem dJ3_checkIndex_8e157_4 : decode cJ3_checkIndex_8e157 4 = .ok (.iload_n 0, 1) := by decide +kernel
theorem dJ3_checkIndex_8e157_5 : decode cJ3_checkIndex_8e157 5 = .ok (.iload_n 1, 1) := by decide +kernel
theorem dJ3_checkIndex_8e157_6 : decode cJ3_checkIndex_8e157 6 = .ok (.if_icmp .lt 10, 3) := by decide +kernel
theorem dJ3_checkIndex_8e157_9 : decode cJ3_checkIndex_8e157 9 = .ok (.aload_n 2, 1) := by decide +kernel
theorem dJ3_checkIndex_8e157_10 : decode cJ3_checkIndex_8e157 10 = .ok (.iload_n 0, 1) := by decide +kernel
theorem dJ3_checkIndex_8e157_11 : decode cJ3_checkIndex_8e157 11 = .ok (.iload_n 1, 1) := by decide +kernel
theorem dJ3_checkIndex_8e157_12 : decode cJ3_checkIndex_8e157 12 = .ok (.invokestatic 95, 3) := by decide +kernel
theorem dJ3_checkIndex_8e157_15 : decode cJ3_checkIndex_8e157 15 = .ok (.athrow, 1) := by decide +kernel
theorem dJ3_checkIndex_8e157_16 : decode cJ3_checkIndex_8e157 16 = .ok (.iload_n 0, 1) := by decide +kernel
theorem dJ3_checkIndex_8e157_17 : decode cJ3_checkIndex_8e157 17 = .ok (.ireturn, 1) := by decide +kernel
theorem dL_law_0 : decode cL_law 0 = .ok (.new 7, 3) := by decide +kernel
theorem dL_law_3 : decode cL_law 3 = .ok (.dup, 1) := by decide +kernel
theorem dL_law_4 : decode cL_law 4 = .ok (.invokespecial 9, 3) := by decide +kernel
theorem dL_law_7 : decode cL_law 7 = .ok (.astore_n 1, 1) := by decide +kernel
theorem dL_law_8 : decode cL_law 8 = .ok (.new 10, 3) := by decide +kernel
theorem dL_law_11 : decode cL_law 11 = .ok (.dup, 1) := by decide +kernel
theorem dL_law_12 : decode cL_law 12 = .ok (.invokespecial 12, 3) := by decide +kernel
theorem dL_law_15 : decode cL_law 15 = .ok (.astore_n 2, 1) := by decide +kernel
theorem dL_law_16 : decode cL_law 16 = .ok (.iconst 0, 1) := by decide +kernel
theorem dL_law_17 : decode cL_law 17 = .ok (.istore_n 3, 1) := by decide +kernel
theorem dL_law_18 : decode cL_law 18 = .ok (.iload_n 3, 1) := by decide +kernel
theorem dL_law_19 : decode cL_law 19 = .ok (.aload_n 0, 1) := by decide +kernel
theorem dL_law_20 : decode cL_law 20 = .ok (.arraylength, 1) := by decide +kernel
theorem dL_law_21 : decode cL_law 21 = .ok (.bipush 6, 2) := by decide +kernel
theorem dL_law_23 : decode cL_law 23 = .ok (.isub, 1) := by decide +kernel
theorem dL_law_24 : decode cL_law 24 = .ok (.if_icmp .gt 761, 3) := by decide +kernel
theorem dL_law_27 : decode cL_law 27 = .ok (.aload_n 0, 1) := by decide +kernel
theorem dL_law_28 : decode cL_law 28 = .ok (.iload_n 3, 1) := by decide +kernel
theorem dL_law_29 : decode cL_law 29 = .ok (.iaload, 1) := by decide +kernel
theorem dL_law_30 : decode cL_law 30 = .ok (.bipush 31, 2) := by decide +kernel
theorem dL_law_32 : decode cL_law 32 = .ok (.iand, 1) := by decide +kernel
theorem dL_law_33 : decode cL_law 33 = .ok (.tableswitch 746 0 22 #[107, 130, 143, 156, 169, 202, 235, 288, 331, 394, 427, 460, 493, 506, 539, 562, 585, 608, 631, 664, 697, 710, 723], 107) := by decide +kernel
theorem dL_law_140 : decode cL_law 140 = .ok (.aload_n 1, 1) := by decide +kernel
theorem dL_law_141 : decode cL_law 141 = .ok (.aload_n 0, 1) := by decide +kernel
theorem dL_law_142 : decode cL_law 142 = .ok (.iload_n 3, 1) := by decide +kernel
theorem dL_law_143 : decode cL_law 143 = .ok (.iconst 1, 1) := by decide +kernel
theorem dL_law_144 : decode cL_law 144 = .ok (.iadd, 1) := by decide +kernel
theorem dL_law_145 : decode cL_law 145 = .ok (.iaload, 1) := by decide +kernel
theorem dL_law_146 : decode cL_law 146 = .ok (.invokevirtual 13, 3) := by decide +kernel
theorem dL_law_149 : decode cL_law 149 = .ok (.pop, 1) := by decide +kernel
theorem dL_law_150 : decode cL_law 150 = .ok (.aload_n 2, 1) := by decide +kernel
theorem dL_law_151 : decode cL_law 151 = .ok (.aload_n 0, 1) := by decide +kernel
theorem dL_law_152 : decode cL_law 152 = .ok (.iload_n 3, 1) := by decide +kernel
theorem dL_law_153 : decode cL_law 153 = .ok (.iconst 1, 1) := by decide +kernel
theorem dL_law_154 : decode cL_law 154 = .ok (.iadd, 1) := by decide +kernel
theorem dL_law_155 : decode cL_law 155 = .ok (.iaload, 1) := by decide +kernel
theorem dL_law_156 : decode cL_law 156 = .ok (.invokevirtual 17, 3) := by decide +kernel
theorem dL_law_159 : decode cL_law 159 = .ok (.pop, 1) := by decide +kernel
theorem dL_law_160 : decode cL_law 160 = .ok (.goto 619, 3) := by decide +kernel
theorem dL_law_163 : decode cL_law 163 = .ok (.aload_n 1, 1) := by decide +kernel
theorem dL_law_164 : decode cL_law 164 = .ok (.invokevirtual 18, 3) := by decide +kernel
theorem dL_law_167 : decode cL_law 167 = .ok (.pop, 1) := by decide +kernel
theorem dL_law_168 : decode cL_law 168 = .ok (.aload_n 2, 1) := by decide +kernel
theorem dL_law_169 : decode cL_law 169 = .ok (.invokevirtual 22, 3) := by decide +kernel
theorem dL_law_172 : decode cL_law 172 = .ok (.pop, 1) := by decide +kernel
theorem dL_law_173 : decode cL_law 173 = .ok (.goto 606, 3) := by decide +kernel
theorem dL_law_176 : decode cL_law 176 = .ok (.aload_n 1, 1) := by decide +kernel
theorem dL_law_177 : decode cL_law 177 = .ok (.invokevirtual 23, 3) := by decide +kernel
theorem dL_law_180 : decode cL_law 180 = .ok (.aload_n 2, 1) := by decide +kernel
theorem dL_law_181 : decode cL_law 181 = .ok (.invokevirtual 26, 3) := by decide +kernel
theorem dL_law_184 : decode cL_law 184 = .ok (.if_icmp .eq 595, 3) := by decide +kernel
theorem dL_law_187 : decode cL_law 187 = .ok (.iconst 0, 1) := by decide +kernel
theorem dL_law_188 : decode cL_law 188 = .ok (.ireturn, 1) := by decide +kernel
theorem dL_law_189 : decode cL_law 189 = .ok (.aload_n 1, 1) := by decide +kernel
theorem dL_law_190 : decode cL_law 190 = .ok (.invokevirtual 27, 3) := by decide +kernel
theorem dL_law_193 : decode cL_law 193 = .ok (.pop, 1) := by decide +kernel
theorem dL_law_194 : decode cL_law 194 = .ok (.aload_n 2, 1) := by decide +kernel
theorem dL_law_195 : decode cL_law 195 = .ok (.invokevirtual 30, 3) := by decide +kernel
theorem dL_law_198 : decode cL_law 198 = .ok (.pop, 1) := by decide +kernel
theorem dL_law_199 : decode cL_law 199 = .ok (.goto 580, 3) := by decide +kernel
theorem dL_law_202 : decode cL_law 202 = .ok (.aload_n 1, 1) := by decide +kernel
theorem dL_law_203 : decode cL_law 203 = .ok (.aload_n 0, 1) := by decide +kernel
theorem dL_law_204 : decode cL_law 204 = .ok (.iload_n 3, 1) := by decide +kernel
theorem dL_law_205 : decode cL_law 205 = .ok (.iconst 1, 1) := by decide +kernel
theorem dL_law_206 : decode cL_law 206 = .ok (.iadd, 1) := by decide +kernel
theorem dL_law_207 : decode cL_law 207 = .ok (.iaload, 1) := by decide +kernel
theorem dL_law_208 : decode cL_law 208 = .ok (.aload_n 0, 1) := by decide +kernel
theorem dL_law_209 : decode cL_law 209 = .ok (.iload_n 3, 1) := by decide +kernel
theorem dL_law_210 : decode cL_law 210 = .ok (.iconst 2, 1) := by decide +kernel
theorem dL_law_211 : decode cL_law 211 = .ok (.iadd, 1) := by decide +kernel
theorem dL_law_212 : decode cL_law 212 = .ok (.iaload, 1) := by decide +kernel
theorem dL_law_213 : decode cL_law 213 = .ok (.invokevirtual 31, 3) := by decide +kernel
theorem dL_law_216 : decode cL_law 216 = .ok (.pop, 1) := by decide +kernel
theorem dL_law_217 : decode cL_law 217 = .ok (.aload_n 2, 1) := by decide +kernel
theorem dL_law_218 : decode cL_law 218 = .ok (.aload_n 0, 1) := by decide +kernel
theorem dL_law_219 : decode cL_law 219 = .ok (.iload_n 3, 1) := by decide +kernel
theorem dL_law_220 : decode cL_law 220 = .ok (.iconst 1, 1) := by decide +kernel
theorem dL_law_221 : decode cL_law 221 = .ok (.iadd, 1) := by decide +kernel
theorem dL_law_222 : decode cL_law 222 = .ok (.iaload, 1) := by decide +kernel
theorem dL_law_223 : decode cL_law 223 = .ok (.aload_n 0, 1) := by decide +kernel
theorem dL_law_224 : decode cL_law 224 = .ok (.iload_n 3, 1) := by decide +kernel
theorem dL_law_225 : decode cL_law 225 = .ok (.iconst 2, 1) := by decide +kernel
theorem dL_law_226 : decode cL_law 226 = .ok (.iadd, 1) := by decide +kernel
theorem dL_law_227 : decode cL_law 227 = .ok (.iaload, 1) := by decide +kernel
theorem dL_law_228 : decode cL_law 228 = .ok (.invokevirtual 35, 3) := by decide +kernel
theorem dL_law_231 : decode cL_law 231 = .ok (.pop, 1) := by decide +kernel
theorem dL_law_232 : decode cL_law 232 = .ok (.goto 547, 3) := by decide +kernel
theorem dL_law_235 : decode cL_law 235 = .ok (.aload_n 1, 1) := by decide +kernel
theorem dL_law_236 : decode cL_law 236 = .ok (.aload_n 0, 1) := by decide +kernel
theorem dL_law_237 : decode cL_law 237 = .ok (.iload_n 3, 1) := by decide +kernel
theorem dL_law_238 : decode cL_law 238 = .ok (.iconst 1, 1) := by decide +kernel
theorem dL_law_239 : decode cL_law 239 = .ok (.iadd, 1) := by decide +kernel
theorem dL_law_240 : decode cL_law 240 = .ok (.iaload, 1) := by decide +kernel
theorem dL_law_241 : decode cL_law 241 = .ok (.aload_n 0, 1) := by decide +kernel
theorem dL_law_242 : decode cL_law 242 = .ok (.iload_n 3, 1) := by decide +kernel
theorem dL_law_243 : decode cL_law 243 = .ok (.iconst 2, 1) := by decide +kernel
theorem dL_law_244 : decode cL_law 244 = .ok (.iadd, 1) := by decide +kernel
theorem dL_law_245 : decode cL_law 245 = .ok (.iaload, 1) := by decide +kernel
theorem dL_law_246 : decode cL_law 246 = .ok (.invokevirtual 36, 3) := by decide +kernel
theorem dL_law_249 : decode cL_law 249 = .ok (.pop, 1) := by decide +kernel
theorem dL_law_250 : decode cL_law 250 = .ok (.aload_n 2, 1) := by decide +kernel
theorem dL_law_251 : decode cL_law 251 = .ok (.aload_n 0, 1) := by decide +kernel
theorem dL_law_252 : decode cL_law 252 = .ok (.iload_n 3, 1) := by decide +kernel
theorem dL_law_253 : decode cL_law 253 = .ok (.iconst 1, 1) := by decide +kernel
theorem dL_law_254 : decode cL_law 254 = .ok (.iadd, 1) := by decide +kernel
theorem dL_law_255 : decode cL_law 255 = .ok (.iaload, 1) := by decide +kernel
theorem dL_law_256 : decode cL_law 256 = .ok (.aload_n 0, 1) := by decide +kernel
theorem dL_law_257 : decode cL_law 257 = .ok (.iload_n 3, 1) := by decide +kernel
theorem dL_law_258 : decode cL_law 258 = .ok (.iconst 2, 1) := by decide +kernel
theorem dL_law_259 : decode cL_law 259 = .ok (.iadd, 1) := by decide +kernel
theorem dL_law_260 : decode cL_law 260 = .ok (.iaload, 1) := by decide +kernel
theorem dL_law_261 : decode cL_law 261 = .ok (.invokevirtual 39, 3) := by decide +kernel
theorem dL_law_264 : decode cL_law 264 = .ok (.pop, 1) := by decide +kernel
theorem dL_law_265 : decode cL_law 265 = .ok (.goto 514, 3) := by decide +kernel
theorem dL_law_268 : decode cL_law 268 = .ok (.aload_n 1, 1) := by decide +kernel
theorem dL_law_269 : decode cL_law 269 = .ok (.aload_n 0, 1) := by decide +kernel
theorem dL_law_270 : decode cL_law 270 = .ok (.iload_n 3, 1) := by decide +kernel
theorem dL_law_271 : decode cL_law 271 = .ok (.iconst 1, 1) := by decide +kernel
theorem dL_law_272 : decode cL_law 272 = .ok (.iadd, 1) := by decide +kernel
theorem dL_law_273 : decode cL_law 273 = .ok (.iaload, 1) := by decide +kernel
theorem dL_law_274 : decode cL_law 274 = .ok (.aload_n 0, 1) := by decide +kernel
theorem dL_law_275 : decode cL_law 275 = .ok (.iload_n 3, 1) := by decide +kernel
theorem dL_law_276 : decode cL_law 276 = .ok (.iconst 2, 1) := by decide +kernel
theorem dL_law_277 : decode cL_law 277 = .ok (.iadd, 1) := by decide +kernel
theorem dL_law_278 : decode cL_law 278 = .ok (.iaload, 1) := by decide +kernel
theorem dL_law_279 : decode cL_law 279 = .ok (.aload_n 0, 1) := by decide +kernel
theorem dL_law_280 : decode cL_law 280 = .ok (.iload_n 3, 1) := by decide +kernel
theorem dL_law_281 : decode cL_law 281 = .ok (.iconst 3, 1) := by decide +kernel
theorem dL_law_282 : decode cL_law 282 = .ok (.iadd, 1) := by decide +kernel
theorem dL_law_283 : decode cL_law 283 = .ok (.iaload, 1) := by decide +kernel
theorem dL_law_284 : decode cL_law 284 = .ok (.aload_n 0, 1) := by decide +kernel
theorem dL_law_285 : decode cL_law 285 = .ok (.iload_n 3, 1) := by decide +kernel
theorem dL_law_286 : decode cL_law 286 = .ok (.iconst 4, 1) := by decide +kernel
theorem dL_law_287 : decode cL_law 287 = .ok (.iadd, 1) := by decide +kernel
theorem dL_law_288 : decode cL_law 288 = .ok (.iaload, 1) := by decide +kernel
theorem dL_law_289 : decode cL_law 289 = .ok (.invokevirtual 40, 3) := by decide +kernel
theorem dL_law_292 : decode cL_law 292 = .ok (.pop, 1) := by decide +kernel
theorem dL_law_293 : decode cL_law 293 = .ok (.aload_n 2, 1) := by decide +kernel
theorem dL_law_294 : decode cL_law 294 = .ok (.aload_n 0, 1) := by decide +kernel
theorem dL_law_295 : decode cL_law 295 = .ok (.iload_n 3, 1) := by decide +kernel
theorem dL_law_296 : decode cL_law 296 = .ok (.iconst 1, 1) := by decide +kernel
theorem dL_law_297 : decode cL_law 297 = .ok (.iadd, 1) := by decide +kernel
theorem dL_law_298 : decode cL_law 298 = .ok (.iaload, 1) := by decide +kernel
theorem dL_law_299 : decode cL_law 299 = .ok (.aload_n 0, 1) := by decide +kernel
theorem dL_law_300 : decode cL_law 300 = .ok (.iload_n 3, 1) := by decide +kernel
theorem dL_law_301 : decode cL_law 301 = .ok (.iconst 2, 1) := by decide +kernel
theorem dL_law_302 : decode cL_law 302 = .ok (.iadd, 1) := by decide +kernel
theorem dL_law_303 : decode cL_law 303 = .ok (.iaload, 1) := by decide +kernel
theorem dL_law_304 : decode cL_law 304 = .ok (.aload_n 0, 1) := by decide +kernel
theorem dL_law_305 : decode cL_law 305 = .ok (.iload_n 3, 1) := by decide +kernel
theorem dL_law_306 : decode cL_law 306 = .ok (.iconst 3, 1) := by decide +kernel
theorem dL_law_307 : decode cL_law 307 = .ok (.iadd, 1) := by decide +kernel
theorem dL_law_308 : decode cL_law 308 = .ok (.iaload, 1) := by decide +kernel
theorem dL_law_309 : decode cL_law 309 = .ok (.aload_n 0, 1) := by decide +kernel
theorem dL_law_310 : decode cL_law 310 = .ok (.iload_n 3, 1) := by decide +kernel
theorem dL_law_311 : decode cL_law 311 = .ok (.iconst 4, 1) := by decide +kernel
theorem dL_law_312 : decode cL_law 312 = .ok (.iadd, 1) := by decide +kernel
theorem dL_law_313 : decode cL_law 313 = .ok (.iaload, 1) := by decide +kernel
theorem dL_law_314 : decode cL_law 314 = .ok (.invokevirtual 44, 3) := by decide +kernel
theorem dL_law_317 : decode cL_law 317 = .ok (.pop, 1) := by decide +kernel
theorem dL_law_318 : decode cL_law 318 = .ok (.goto 461, 3) := by decide +kernel
theorem dL_law_321 : decode cL_law 321 = .ok (.aload_n 1, 1) := by decide +kernel
theorem dL_law_322 : decode cL_law 322 = .ok (.aload_n 0, 1) := by decide +kernel
theorem dL_law_323 : decode cL_law 323 = .ok (.iload_n 3, 1) := by decide +kernel
theorem dL_law_324 : decode cL_law 324 = .ok (.iconst 1, 1) := by decide +kernel
theorem dL_law_325 : decode cL_law 325 = .ok (.iadd, 1) := by decide +kernel
theorem dL_law_326 : decode cL_law 326 = .ok (.iaload, 1) := by decide +kernel
theorem dL_law_327 : decode cL_law 327 = .ok (.aload_n 0, 1) := by decide +kernel
theorem dL_law_328 : decode cL_law 328 = .ok (.iload_n 3, 1) := by decide +kernel
theorem dL_law_329 : decode cL_law 329 = .ok (.iconst 2, 1) := by decide +kernel
theorem dL_law_330 : decode cL_law 330 = .ok (.iadd, 1) := by decide +kernel
theorem dL_law_331 : decode cL_law 331 = .ok (.iaload, 1) := by decide +kernel
theorem dL_law_332 : decode cL_law 332 = .ok (.aload_n 0, 1) := by decide +kernel
theorem dL_law_333 : decode cL_law 333 = .ok (.iload_n 3, 1) := by decide +kernel
theorem dL_law_334 : decode cL_law 334 = .ok (.iconst 3, 1) := by decide +kernel
theorem dL_law_335 : decode cL_law 335 = .ok (.iadd, 1) := by decide +kernel
theorem dL_law_336 : decode cL_law 336 = .ok (.iaload, 1) := by decide +kernel
theorem dL_law_337 : decode cL_law 337 = .ok (.invokevirtual 45, 3) := by decide +kernel
theorem dL_law_340 : decode cL_law 340 = .ok (.pop, 1) := by decide +kernel
theorem dL_law_341 : decode cL_law 341 = .ok (.aload_n 2, 1) := by decide +kernel
theorem dL_law_342 : decode cL_law 342 = .ok (.aload_n 0, 1) := by decide +kernel
theorem dL_law_343 : decode cL_law 343 = .ok (.iload_n 3, 1) := by decide +kernel
theorem dL_law_344 : decode cL_law 344 = .ok (.iconst 1, 1) := by decide +kernel
theorem dL_law_345 : decode cL_law 345 = .ok (.iadd, 1) := by decide +kernel
theorem dL_law_346 : decode cL_law 346 = .ok (.iaload, 1) := by decide +kernel
theorem dL_law_347 : decode cL_law 347 = .ok (.aload_n 0, 1) := by decide +kernel
theorem dL_law_348 : decode cL_law 348 = .ok (.iload_n 3, 1) := by decide +kernel
theorem dL_law_349 : decode cL_law 349 = .ok (.iconst 2, 1) := by decide +kernel
theorem dL_law_350 : decode cL_law 350 = .ok (.iadd, 1) := by decide +kernel
theorem dL_law_351 : decode cL_law 351 = .ok (.iaload, 1) := by decide +kernel
theorem dL_law_352 : decode cL_law 352 = .ok (.aload_n 0, 1) := by decide +kernel
theorem dL_law_353 : decode cL_law 353 = .ok (.iload_n 3, 1) := by decide +kernel
theorem dL_law_354 : decode cL_law 354 = .ok (.iconst 3, 1) := by decide +kernel
theorem dL_law_355 : decode cL_law 355 = .ok (.iadd, 1) := by decide +kernel
theorem dL_law_356 : decode cL_law 356 = .ok (.iaload, 1) := by decide +kernel
theorem dL_law_357 : decode cL_law 357 = .ok (.invokevirtual 49, 3) := by decide +kernel
theorem dL_law_360 : decode cL_law 360 = .ok (.pop, 1) := by decide +kernel
theorem dL_law_361 : decode cL_law 361 = .ok (.goto 418, 3) := by decide +kernel
theorem dL_law_364 : decode cL_law 364 = .ok (.aload_n 1, 1) := by decide +kernel
theorem dL_law_365 : decode cL_law 365 = .ok (.aload_n 0, 1) := by decide +kernel
theorem dL_law_366 : decode cL_law 366 = .ok (.iload_n 3, 1) := by decide +kernel
theorem dL_law_367 : decode cL_law 367 = .ok (.iconst 1, 1) := by decide +kernel
theorem dL_law_368 : decode cL_law 368 = .ok (.iadd, 1) := by decide +kernel
theorem dL_law_369 : decode cL_law 369 = .ok (.iaload, 1) := by decide +kernel
theorem dL_law_370 : decode cL_law 370 = .ok (.aload_n 0, 1) := by decide +kernel
theorem dL_law_371 : decode cL_law 371 = .ok (.iload_n 3, 1) := by decide +kernel
theorem dL_law_372 : decode cL_law 372 = .ok (.iconst 2, 1) := by decide +kernel
theorem dL_law_373 : decode cL_law 373 = .ok (.iadd, 1) := by decide +kernel
theorem dL_law_374 : decode cL_law 374 = .ok (.iaload, 1) := by decide +kernel
theorem dL_law_375 : decode cL_law 375 = .ok (.aload_n 0, 1) := by decide +kernel
theorem dL_law_376 : decode cL_law 376 = .ok (.iload_n 3, 1) := by decide +kernel
theorem dL_law_377 : decode cL_law 377 = .ok (.iconst 3, 1) := by decide +kernel
theorem dL_law_378 : decode cL_law 378 = .ok (.iadd, 1) := by decide +kernel
theorem dL_law_379 : decode cL_law 379 = .ok (.iaload, 1) := by decide +kernel
theorem dL_law_380 : decode cL_law 380 = .ok (.aload_n 0, 1) := by decide +kernel
theorem dL_law_381 : decode cL_law 381 = .ok (.iload_n 3, 1) := by decide +kernel
theorem dL_law_382 : decode cL_law 382 = .ok (.iconst 4, 1) := by decide +kernel
theorem dL_law_383 : decode cL_law 383 = .ok (.iadd, 1) := by decide +kernel
theorem dL_law_384 : decode cL_law 384 = .ok (.iaload, 1) := by decide +kernel
theorem dL_law_385 : decode cL_law 385 = .ok (.aload_n 0, 1) := by decide +kernel
theorem dL_law_386 : decode cL_law 386 = .ok (.iload_n 3, 1) := by decide +kernel
theorem dL_law_387 : decode cL_law 387 = .ok (.iconst 5, 1) := by decide +kernel
theorem dL_law_388 : decode cL_law 388 = .ok (.iadd, 1) := by decide +kernel
theorem dL_law_389 : decode cL_law 389 = .ok (.iaload, 1) := by decide +kernel
theorem dL_law_390 : decode cL_law 390 = .ok (.invokevirtual 50, 3) := by decide +kernel
theorem dL_law_393 : decode cL_law 393 = .ok (.pop, 1) := by decide +kernel
theorem dL_law_394 : decode cL_law 394 = .ok (.aload_n 2, 1) := by decide +kernel
theorem dL_law_395 : decode cL_law 395 = .ok (.aload_n 0, 1) := by decide +kernel
theorem dL_law_396 : decode cL_law 396 = .ok (.iload_n 3, 1) := by decide +kernel
theorem dL_law_397 : decode cL_law 397 = .ok (.iconst 1, 1) := by decide +kernel
theorem dL_law_398 : decode cL_law 398 = .ok (.iadd, 1) := by decide +kernel
theorem dL_law_399 : decode cL_law 399 = .ok (.iaload, 1) := by decide +kernel
theorem dL_law_400 : decode cL_law 400 = .ok (.aload_n 0, 1) := by decide +kernel
theorem dL_law_401 : decode cL_law 401 = .ok (.iload_n 3, 1) := by decide +kernel
theorem dL_law_402 : decode cL_law 402 = .ok (.iconst 2, 1) := by decide +kernel
theorem dL_law_403 : decode cL_law 403 = .ok (.iadd, 1) := by decide +kernel
theorem dL_law_404 : decode cL_law 404 = .ok (.iaload, 1) := by decide +kernel
theorem dL_law_405 : decode cL_law 405 = .ok (.aload_n 0, 1) := by decide +kernel
theorem dL_law_406 : decode cL_law 406 = .ok (.iload_n 3, 1) := by decide +kernel
theorem dL_law_407 : decode cL_law 407 = .ok (.iconst 3, 1) := by decide +kernel
theorem dL_law_408 : decode cL_law 408 = .ok (.iadd, 1) := by decide +kernel
theorem dL_law_409 : decode cL_law 409 = .ok (.iaload, 1) := by decide +kernel
theorem dL_law_410 : decode cL_law 410 = .ok (.aload_n 0, 1) := by decide +kernel
theorem dL_law_411 : decode cL_law 411 = .ok (.iload_n 3, 1) := by decide +kernel
theorem dL_law_412 : decode cL_law 412 = .ok (.iconst 4, 1) := by decide +kernel
theorem dL_law_413 : decode cL_law 413 = .ok (.iadd, 1) := by decide +kernel
theorem dL_law_414 : decode cL_law 414 = .ok (.iaload, 1) := by decide +kernel
theorem dL_law_415 : decode cL_law 415 = .ok (.aload_n 0, 1) := by decide +kernel
theorem dL_law_416 : decode cL_law 416 = .ok (.iload_n 3, 1) := by decide +kernel
theorem dL_law_417 : decode cL_law 417 = .ok (.iconst 5, 1) := by decide +kernel
theorem dL_law_418 : decode cL_law 418 = .ok (.iadd, 1) := by decide +kernel
theorem dL_law_419 : decode cL_law 419 = .ok (.iaload, 1) := by decide +kernel
theorem dL_law_420 : decode cL_law 420 = .ok (.invokevirtual 54, 3) := by decide +kernel
theorem dL_law_423 : decode cL_law 423 = .ok (.pop, 1) := by decide +kernel
theorem dL_law_424 : decode cL_law 424 = .ok (.goto 355, 3) := by decide +kernel
theorem dL_law_427 : decode cL_law 427 = .ok (.aload_n 1, 1) := by decide +kernel
theorem dL_law_428 : decode cL_law 428 = .ok (.aload_n 0, 1) := by decide +kernel
theorem dL_law_429 : decode cL_law 429 = .ok (.iload_n 3, 1) := by decide +kernel
theorem dL_law_430 : decode cL_law 430 = .ok (.iconst 1, 1) := by decide +kernel
theorem dL_law_431 : decode cL_law 431 = .ok (.iadd, 1) := by decide +kernel
theorem dL_law_432 : decode cL_law 432 = .ok (.iaload, 1) := by decide +kernel
theorem dL_law_433 : decode cL_law 433 = .ok (.aload_n 0, 1) := by decide +kernel
theorem dL_law_434 : decode cL_law 434 = .ok (.iload_n 3, 1) := by decide +kernel
theorem dL_law_435 : decode cL_law 435 = .ok (.iconst 2, 1) := by decide +kernel
theorem dL_law_436 : decode cL_law 436 = .ok (.iadd, 1) := by decide +kernel
theorem dL_law_437 : decode cL_law 437 = .ok (.iaload, 1) := by decide +kernel
theorem dL_law_438 : decode cL_law 438 = .ok (.invokevirtual 55, 3) := by decide +kernel
theorem dL_law_441 : decode cL_law 441 = .ok (.pop, 1) := by decide +kernel
theorem dL_law_442 : decode cL_law 442 = .ok (.aload_n 2, 1) := by decide +kernel
theorem dL_law_443 : decode cL_law 443 = .ok (.aload_n 0, 1) := by decide +kernel
theorem dL_law_444 : decode cL_law 444 = .ok (.iload_n 3, 1) := by decide +kernel
theorem dL_law_445 : decode cL_law 445 = .ok (.iconst 1, 1) := by decide +kernel
theorem dL_law_446 : decode cL_law 446 = .ok (.iadd, 1) := by decide +kernel
theorem dL_law_447 : decode cL_law 447 = .ok (.iaload, 1) := by decide +kernel
theorem dL_law_448 : decode cL_law 448 = .ok (.aload_n 0, 1) := by decide +kernel
theorem dL_law_449 : decode cL_law 449 = .ok (.iload_n 3, 1) := by decide +kernel
theorem dL_law_450 : decode cL_law 450 = .ok (.iconst 2, 1) := by decide +kernel
theorem dL_law_451 : decode cL_law 451 = .ok (.iadd, 1) := by decide +kernel
theorem dL_law_452 : decode cL_law 452 = .ok (.iaload, 1) := by decide +kernel
theorem dL_law_453 : decode cL_law 453 = .ok (.invokevirtual 58, 3) := by decide +kernel
theorem dL_law_456 : decode cL_law 456 = .ok (.pop, 1) := by decide +kernel
theorem dL_law_457 : decode cL_law 457 = .ok (.goto 322, 3) := by decide +kernel
theorem dL_law_460 : decode cL_law 460 = .ok (.aload_n 1, 1) := by decide +kernel
theorem dL_law_461 : decode cL_law 461 = .ok (.aload_n 0, 1) := by decide +kernel
theorem dL_law_462 : decode cL_law 462 = .ok (.iload_n 3, 1) := by decide +kernel
theorem dL_law_463 : decode cL_law 463 = .ok (.iconst 1, 1) := by decide +kernel
theorem dL_law_464 : decode cL_law 464 = .ok (.iadd, 1) := by decide +kernel
theorem dL_law_465 : decode cL_law 465 = .ok (.iaload, 1) := by decide +kernel
theorem dL_law_466 : decode cL_law 466 = .ok (.aload_n 0, 1) := by decide +kernel
theorem dL_law_467 : decode cL_law 467 = .ok (.iload_n 3, 1) := by decide +kernel
theorem dL_law_468 : decode cL_law 468 = .ok (.iconst 2, 1) := by decide +kernel
theorem dL_law_469 : decode cL_law 469 = .ok (.iadd, 1) := by decide +kernel
theorem dL_law_470 : decode cL_law 470 = .ok (.iaload, 1) := by decide +kernel
theorem dL_law_471 : decode cL_law 471 = .ok (.invokevirtual 59, 3) := by decide +kernel
theorem dL_law_474 : decode cL_law 474 = .ok (.pop, 1) := by decide +kernel
theorem dL_law_475 : decode cL_law 475 = .ok (.aload_n 2, 1) := by decide +kernel
theorem dL_law_476 : decode cL_law 476 = .ok (.aload_n 0, 1) := by decide +kernel
theorem dL_law_477 : decode cL_law 477 = .ok (.iload_n 3, 1) := by decide +kernel
theorem dL_law_478 : decode cL_law 478 = .ok (.iconst 1, 1) := by decide +kernel
theorem dL_law_479 : decode cL_law 479 = .ok (.iadd, 1) := by decide +kernel
theorem dL_law_480 : decode cL_law 480 = .ok (.iaload, 1) := by decide +kernel
theorem dL_law_481 : decode cL_law 481 = .ok (.aload_n 0, 1) := by decide +kernel
theorem dL_law_482 : decode cL_law 482 = .ok (.iload_n 3, 1) := by decide +kernel
theorem dL_law_483 : decode cL_law 483 = .ok (.iconst 2, 1) := by decide +kernel
theorem dL_law_484 : decode cL_law 484 = .ok (.iadd, 1) := by decide +kernel
theorem dL_law_485 : decode cL_law 485 = .ok (.iaload, 1) := by decide +kernel
theorem dL_law_486 : decode cL_law 486 = .ok (.invokevirtual 62, 3) := by decide +kernel
theorem dL_law_489 : decode cL_law 489 = .ok (.pop, 1) := by decide +kernel
theorem dL_law_490 : decode cL_law 490 = .ok (.goto 289, 3) := by decide +kernel
theorem dL_law_493 : decode cL_law 493 = .ok (.aload_n 1, 1) := by decide +kernel
theorem dL_law_494 : decode cL_law 494 = .ok (.aload_n 0, 1) := by decide +kernel
theorem dL_law_495 : decode cL_law 495 = .ok (.iload_n 3, 1) := by decide +kernel
theorem dL_law_496 : decode cL_law 496 = .ok (.iconst 1, 1) := by decide +kernel
theorem dL_law_497 : decode cL_law 497 = .ok (.iadd, 1) := by decide +kernel
theorem dL_law_498 : decode cL_law 498 = .ok (.iaload, 1) := by decide +kernel
theorem dL_law_499 : decode cL_law 499 = .ok (.aload_n 0, 1) := by decide +kernel
theorem dL_law_500 : decode cL_law 500 = .ok (.iload_n 3, 1) := by decide +kernel
theorem dL_law_501 : decode cL_law 501 = .ok (.iconst 2, 1) := by decide +kernel
theorem dL_law_502 : decode cL_law 502 = .ok (.iadd, 1) := by decide +kernel
theorem dL_law_503 : decode cL_law 503 = .ok (.iaload, 1) := by decide +kernel
theorem dL_law_504 : decode cL_law 504 = .ok (.invokevirtual 63, 3) := by decide +kernel
theorem dL_law_507 : decode cL_law 507 = .ok (.pop, 1) := by decide +kernel
theorem dL_law_508 : decode cL_law 508 = .ok (.aload_n 2, 1) := by decide +kernel
theorem dL_law_509 : decode cL_law 509 = .ok (.aload_n 0, 1) := by decide +kernel
theorem dL_law_510 : decode cL_law 510 = .ok (.iload_n 3, 1) := by decide +kernel
theorem dL_law_511 : decode cL_law 511 = .ok (.iconst 1, 1) := by decide +kernel
theorem dL_law_512 : decode cL_law 512 = .ok (.iadd, 1) := by decide +kernel
theorem dL_law_513 : decode cL_law 513 = .ok (.iaload, 1) := by decide +kernel
theorem dL_law_514 : decode cL_law 514 = .ok (.aload_n 0, 1) := by decide +kernel
theorem dL_law_515 : decode cL_law 515 = .ok (.iload_n 3, 1) := by decide +kernel
theorem dL_law_516 : decode cL_law 516 = .ok (.iconst 2, 1) := by decide +kernel
theorem dL_law_517 : decode cL_law 517 = .ok (.iadd, 1) := by decide +kernel
theorem dL_law_518 : decode cL_law 518 = .ok (.iaload, 1) := by decide +kernel
theorem dL_law_519 : decode cL_law 519 = .ok (.invokevirtual 66, 3) := by decide +kernel
theorem dL_law_522 : decode cL_law 522 = .ok (.pop, 1) := by decide +kernel
theorem dL_law_523 : decode cL_law 523 = .ok (.goto 256, 3) := by decide +kernel
theorem dL_law_526 : decode cL_law 526 = .ok (.aload_n 1, 1) := by decide +kernel
theorem dL_law_527 : decode cL_law 527 = .ok (.invokevirtual 67, 3) := by decide +kernel
theorem dL_law_530 : decode cL_law 530 = .ok (.pop, 1) := by decide +kernel
theorem dL_law_531 : decode cL_law 531 = .ok (.aload_n 2, 1) := by decide +kernel
theorem dL_law_532 : decode cL_law 532 = .ok (.invokevirtual 70, 3) := by decide +kernel
theorem dL_law_535 : decode cL_law 535 = .ok (.pop, 1) := by decide +kernel
theorem dL_law_536 : decode cL_law 536 = .ok (.goto 243, 3) := by decide +kernel
theorem dL_law_539 : decode cL_law 539 = .ok (.aload_n 1, 1) := by decide +kernel
theorem dL_law_540 : decode cL_law 540 = .ok (.aload_n 0, 1) := by decide +kernel
theorem dL_law_541 : decode cL_law 541 = .ok (.iload_n 3, 1) := by decide +kernel
theorem dL_law_542 : decode cL_law 542 = .ok (.iconst 1, 1) := by decide +kernel
theorem dL_law_543 : decode cL_law 543 = .ok (.iadd, 1) := by decide +kernel
theorem dL_law_544 : decode cL_law 544 = .ok (.iaload, 1) := by decide +kernel
theorem dL_law_545 : decode cL_law 545 = .ok (.aload_n 0, 1) := by decide +kernel
theorem dL_law_546 : decode cL_law 546 = .ok (.iload_n 3, 1) := by decide +kernel
theorem dL_law_547 : decode cL_law 547 = .ok (.iconst 2, 1) := by decide +kernel
theorem dL_law_548 : decode cL_law 548 = .ok (.iadd, 1) := by decide +kernel
theorem dL_law_549 : decode cL_law 549 = .ok (.iaload, 1) := by decide +kernel
theorem dL_law_550 : decode cL_law 550 = .ok (.invokevirtual 71, 3) := by decide +kernel
theorem dL_law_553 : decode cL_law 553 = .ok (.pop, 1) := by decide +kernel
theorem dL_law_554 : decode cL_law 554 = .ok (.aload_n 2, 1) := by decide +kernel
theorem dL_law_555 : decode cL_law 555 = .ok (.aload_n 0, 1) := by decide +kernel
theorem dL_law_556 : decode cL_law 556 = .ok (.iload_n 3, 1) := by decide +kernel
theorem dL_law_557 : decode cL_law 557 = .ok (.iconst 1, 1) := by decide +kernel
theorem dL_law_558 : decode cL_law 558 = .ok (.iadd, 1) := by decide +kernel
theorem dL_law_559 : decode cL_law 559 = .ok (.iaload, 1) := by decide +kernel
theorem dL_law_560 : decode cL_law 560 = .ok (.aload_n 0, 1) := by decide +kernel
theorem dL_law_561 : decode cL_law 561 = .ok (.iload_n 3, 1) := by decide +kernel
theorem dL_law_562 : decode cL_law 562 = .ok (.iconst 2, 1) := by decide +kernel
theorem dL_law_563 : decode cL_law 563 = .ok (.iadd, 1) := by decide +kernel
theorem dL_law_564 : decode cL_law 564 = .ok (.iaload, 1) := by decide +kernel
theorem dL_law_565 : decode cL_law 565 = .ok (.invokevirtual 74, 3) := by decide +kernel
theorem dL_law_568 : decode cL_law 568 = .ok (.pop, 1) := by decide +kernel
theorem dL_law_569 : decode cL_law 569 = .ok (.goto 210, 3) := by decide +kernel
theorem dL_law_572 : decode cL_law 572 = .ok (.aload_n 1, 1) := by decide +kernel
theorem dL_law_573 : decode cL_law 573 = .ok (.aload_n 0, 1) := by decide +kernel
theorem dL_law_574 : decode cL_law 574 = .ok (.iload_n 3, 1) := by decide +kernel
theorem dL_law_575 : decode cL_law 575 = .ok (.iconst 1, 1) := by decide +kernel
theorem dL_law_576 : decode cL_law 576 = .ok (.iadd, 1) := by decide +kernel
theorem dL_law_577 : decode cL_law 577 = .ok (.iaload, 1) := by decide +kernel
theorem dL_law_578 : decode cL_law 578 = .ok (.invokevirtual 75, 3) := by decide +kernel
theorem dL_law_581 : decode cL_law 581 = .ok (.pop, 1) := by decide +kernel
theorem dL_law_582 : decode cL_law 582 = .ok (.aload_n 2, 1) := by decide +kernel
theorem dL_law_583 : decode cL_law 583 = .ok (.aload_n 0, 1) := by decide +kernel
theorem dL_law_584 : decode cL_law 584 = .ok (.iload_n 3, 1) := by decide +kernel
theorem dL_law_585 : decode cL_law 585 = .ok (.iconst 1, 1) := by decide +kernel
theorem dL_law_586 : decode cL_law 586 = .ok (.iadd, 1) := by decide +kernel
theorem dL_law_587 : decode cL_law 587 = .ok (.iaload, 1) := by decide +kernel
theorem dL_law_588 : decode cL_law 588 = .ok (.invokevirtual 78, 3) := by decide +kernel
theorem dL_law_591 : decode cL_law 591 = .ok (.pop, 1) := by decide +kernel
theorem dL_law_592 : decode cL_law 592 = .ok (.goto 187, 3) := by decide +kernel
theorem dL_law_595 : decode cL_law 595 = .ok (.aload_n 1, 1) := by decide +kernel
theorem dL_law_596 : decode cL_law 596 = .ok (.aload_n 0, 1) := by decide +kernel
theorem dL_law_597 : decode cL_law 597 = .ok (.iload_n 3, 1) := by decide +kernel
theorem dL_law_598 : decode cL_law 598 = .ok (.iconst 1, 1) := by decide +kernel
theorem dL_law_599 : decode cL_law 599 = .ok (.iadd, 1) := by decide +kernel
theorem dL_law_600 : decode cL_law 600 = .ok (.iaload, 1) := by decide +kernel
theorem dL_law_601 : decode cL_law 601 = .ok (.invokevirtual 79, 3) := by decide +kernel
theorem dL_law_604 : decode cL_law 604 = .ok (.pop, 1) := by decide +kernel
theorem dL_law_605 : decode cL_law 605 = .ok (.aload_n 2, 1) := by decide +kernel
theorem dL_law_606 : decode cL_law 606 = .ok (.aload_n 0, 1) := by decide +kernel
theorem dL_law_607 : decode cL_law 607 = .ok (.iload_n 3, 1) := by decide +kernel
theorem dL_law_608 : decode cL_law 608 = .ok (.iconst 1, 1) := by decide +kernel
theorem dL_law_609 : decode cL_law 609 = .ok (.iadd, 1) := by decide +kernel
theorem dL_law_610 : decode cL_law 610 = .ok (.iaload, 1) := by decide +kernel
theorem dL_law_611 : decode cL_law 611 = .ok (.invokevirtual 82, 3) := by decide +kernel
theorem dL_law_614 : decode cL_law 614 = .ok (.pop, 1) := by decide +kernel
theorem dL_law_615 : decode cL_law 615 = .ok (.goto 164, 3) := by decide +kernel
theorem dL_law_618 : decode cL_law 618 = .ok (.aload_n 1, 1) := by decide +kernel
theorem dL_law_619 : decode cL_law 619 = .ok (.aload_n 0, 1) := by decide +kernel
theorem dL_law_620 : decode cL_law 620 = .ok (.iload_n 3, 1) := by decide +kernel
theorem dL_law_621 : decode cL_law 621 = .ok (.iconst 1, 1) := by decide +kernel
theorem dL_law_622 : decode cL_law 622 = .ok (.iadd, 1) := by decide +kernel
theorem dL_law_623 : decode cL_law 623 = .ok (.iaload, 1) := by decide +kernel
theorem dL_law_624 : decode cL_law 624 = .ok (.invokevirtual 83, 3) := by decide +kernel
theorem dL_law_627 : decode cL_law 627 = .ok (.pop, 1) := by decide +kernel
theorem dL_law_628 : decode cL_law 628 = .ok (.aload_n 2, 1) := by decide +kernel
theorem dL_law_629 : decode cL_law 629 = .ok (.aload_n 0, 1) := by decide +kernel
theorem dL_law_630 : decode cL_law 630 = .ok (.iload_n 3, 1) := by decide +kernel
theorem dL_law_631 : decode cL_law 631 = .ok (.iconst 1, 1) := by decide +kernel
theorem dL_law_632 : decode cL_law 632 = .ok (.iadd, 1) := by decide +kernel
theorem dL_law_633 : decode cL_law 633 = .ok (.iaload, 1) := by decide +kernel
theorem dL_law_634 : decode cL_law 634 = .ok (.invokevirtual 86, 3) := by decide +kernel
theorem dL_law_637 : decode cL_law 637 = .ok (.pop, 1) := by decide +kernel
theorem dL_law_638 : decode cL_law 638 = .ok (.goto 141, 3) := by decide +kernel
theorem dL_law_641 : decode cL_law 641 = .ok (.aload_n 1, 1) := by decide +kernel
theorem dL_law_642 : decode cL_law 642 = .ok (.aload_n 0, 1) := by decide +kernel
theorem dL_law_643 : decode cL_law 643 = .ok (.iload_n 3, 1) := by decide +kernel
theorem dL_law_644 : decode cL_law 644 = .ok (.iconst 1, 1) := by decide +kernel
theorem dL_law_645 : decode cL_law 645 = .ok (.iadd, 1) := by decide +kernel
theorem dL_law_646 : decode cL_law 646 = .ok (.iaload, 1) := by decide +kernel
theorem dL_law_647 : decode cL_law 647 = .ok (.invokevirtual 87, 3) := by decide +kernel
theorem dL_law_650 : decode cL_law 650 = .ok (.pop, 1) := by decide +kernel
theorem dL_law_651 : decode cL_law 651 = .ok (.aload_n 2, 1) := by decide +kernel
theorem dL_law_652 : decode cL_law 652 = .ok (.aload_n 0, 1) := by decide +kernel
theorem dL_law_653 : decode cL_law 653 = .ok (.iload_n 3, 1) := by decide +kernel
theorem dL_law_654 : decode cL_law 654 = .ok (.iconst 1, 1) := by decide +kernel
theorem dL_law_655 : decode cL_law 655 = .ok (.iadd, 1) := by decide +kernel
theorem dL_law_656 : decode cL_law 656 = .ok (.iaload, 1) := by decide +kernel
theorem dL_law_657 : decode cL_law 657 = .ok (.invokevirtual 90, 3) := by decide +kernel
theorem dL_law_660 : decode cL_law 660 = .ok (.pop, 1) := by decide +kernel
theorem dL_law_661 : decode cL_law 661 = .ok (.goto 118, 3) := by decide +kernel
theorem dL_law_664 : decode cL_law 664 = .ok (.aload_n 1, 1) := by decide +kernel
theorem dL_law_665 : decode cL_law 665 = .ok (.aload_n 0, 1) := by decide +kernel
theorem dL_law_666 : decode cL_law 666 = .ok (.iload_n 3, 1) := by decide +kernel
theorem dL_law_667 : decode cL_law 667 = .ok (.iconst 1, 1) := by decide +kernel
theorem dL_law_668 : decode cL_law 668 = .ok (.iadd, 1) := by decide +kernel
theorem dL_law_669 : decode cL_law 669 = .ok (.iaload, 1) := by decide +kernel
theorem dL_law_670 : decode cL_law 670 = .ok (.aload_n 0, 1) := by decide +kernel
theorem dL_law_671 : decode cL_law 671 = .ok (.iload_n 3, 1) := by decide +kernel
theorem dL_law_672 : decode cL_law 672 = .ok (.iconst 2, 1) := by decide +kernel
theorem dL_law_673 : decode cL_law 673 = .ok (.iadd, 1) := by decide +kernel
theorem dL_law_674 : decode cL_law 674 = .ok (.iaload, 1) := by decide +kernel
theorem dL_law_675 : decode cL_law 675 = .ok (.invokevirtual 91, 3) := by decide +kernel
theorem dL_law_678 : decode cL_law 678 = .ok (.pop, 1) := by decide +kernel
theorem dL_law_679 : decode cL_law 679 = .ok (.aload_n 2, 1) := by decide +kernel
theorem dL_law_680 : decode cL_law 680 = .ok (.aload_n 0, 1) := by decide +kernel
theorem dL_law_681 : decode cL_law 681 = .ok (.iload_n 3, 1) := by decide +kernel
theorem dL_law_682 : decode cL_law 682 = .ok (.iconst 1, 1) := by decide +kernel
theorem dL_law_683 : decode cL_law 683 = .ok (.iadd, 1) := by decide +kernel
theorem dL_law_684 : decode cL_law 684 = .ok (.iaload, 1) := by decide +kernel
theorem dL_law_685 : decode cL_law 685 = .ok (.aload_n 0, 1) := by decide +kernel
theorem dL_law_686 : decode cL_law 686 = .ok (.iload_n 3, 1) := by decide +kernel
theorem dL_law_687 : decode cL_law 687 = .ok (.iconst 2, 1) := by decide +kernel
theorem dL_law_688 : decode cL_law 688 = .ok (.iadd, 1) := by decide +kernel
theorem dL_law_689 : decode cL_law 689 = .ok (.iaload, 1) := by decide +kernel
theorem dL_law_690 : decode cL_law 690 = .ok (.invokevirtual 94, 3) := by decide +kernel
theorem dL_law_693 : decode cL_law 693 = .ok (.pop, 1) := by decide +kernel
theorem dL_law_694 : decode cL_law 694 = .ok (.goto 85, 3) := by decide +kernel
theorem dL_law_697 : decode cL_law 697 = .ok (.aload_n 1, 1) := by decide +kernel
theorem dL_law_698 : decode cL_law 698 = .ok (.aload_n 0, 1) := by decide +kernel
theorem dL_law_699 : decode cL_law 699 = .ok (.iload_n 3, 1) := by decide +kernel
theorem dL_law_700 : decode cL_law 700 = .ok (.iconst 1, 1) := by decide +kernel
theorem dL_law_701 : decode cL_law 701 = .ok (.iadd, 1) := by decide +kernel
theorem dL_law_702 : decode cL_law 702 = .ok (.iaload, 1) := by decide +kernel
theorem dL_law_703 : decode cL_law 703 = .ok (.aload_n 0, 1) := by decide +kernel
theorem dL_law_704 : decode cL_law 704 = .ok (.iload_n 3, 1) := by decide +kernel
theorem dL_law_705 : decode cL_law 705 = .ok (.iconst 2, 1) := by decide +kernel
theorem dL_law_706 : decode cL_law 706 = .ok (.iadd, 1) := by decide +kernel
theorem dL_law_707 : decode cL_law 707 = .ok (.iaload, 1) := by decide +kernel
theorem dL_law_708 : decode cL_law 708 = .ok (.invokevirtual 95, 3) := by decide +kernel
theorem dL_law_711 : decode cL_law 711 = .ok (.pop, 1) := by decide +kernel
theorem dL_law_712 : decode cL_law 712 = .ok (.aload_n 2, 1) := by decide +kernel
theorem dL_law_713 : decode cL_law 713 = .ok (.aload_n 0, 1) := by decide +kernel
theorem dL_law_714 : decode cL_law 714 = .ok (.iload_n 3, 1) := by decide +kernel
theorem dL_law_715 : decode cL_law 715 = .ok (.iconst 1, 1) := by decide +kernel
theorem dL_law_716 : decode cL_law 716 = .ok (.iadd, 1) := by decide +kernel
theorem dL_law_717 : decode cL_law 717 = .ok (.iaload, 1) := by decide +kernel
theorem dL_law_718 : decode cL_law 718 = .ok (.aload_n 0, 1) := by decide +kernel
theorem dL_law_719 : decode cL_law 719 = .ok (.iload_n 3, 1) := by decide +kernel
theorem dL_law_720 : decode cL_law 720 = .ok (.iconst 2, 1) := by decide +kernel
theorem dL_law_721 : decode cL_law 721 = .ok (.iadd, 1) := by decide +kernel
theorem dL_law_722 : decode cL_law 722 = .ok (.iaload, 1) := by decide +kernel
theorem dL_law_723 : decode cL_law 723 = .ok (.invokevirtual 98, 3) := by decide +kernel
theorem dL_law_726 : decode cL_law 726 = .ok (.pop, 1) := by decide +kernel
theorem dL_law_727 : decode cL_law 727 = .ok (.goto 52, 3) := by decide +kernel
theorem dL_law_730 : decode cL_law 730 = .ok (.aload_n 1, 1) := by decide +kernel
theorem dL_law_731 : decode cL_law 731 = .ok (.invokevirtual 99, 3) := by decide +kernel
theorem dL_law_734 : decode cL_law 734 = .ok (.pop, 1) := by decide +kernel
theorem dL_law_735 : decode cL_law 735 = .ok (.aload_n 2, 1) := by decide +kernel
theorem dL_law_736 : decode cL_law 736 = .ok (.invokevirtual 102, 3) := by decide +kernel
theorem dL_law_739 : decode cL_law 739 = .ok (.pop, 1) := by decide +kernel
theorem dL_law_740 : decode cL_law 740 = .ok (.goto 39, 3) := by decide +kernel
theorem dL_law_743 : decode cL_law 743 = .ok (.aload_n 1, 1) := by decide +kernel
theorem dL_law_744 : decode cL_law 744 = .ok (.invokevirtual 103, 3) := by decide +kernel
theorem dL_law_747 : decode cL_law 747 = .ok (.pop, 1) := by decide +kernel
theorem dL_law_748 : decode cL_law 748 = .ok (.aload_n 2, 1) := by decide +kernel
theorem dL_law_749 : decode cL_law 749 = .ok (.invokevirtual 106, 3) := by decide +kernel
theorem dL_law_752 : decode cL_law 752 = .ok (.pop, 1) := by decide +kernel
theorem dL_law_753 : decode cL_law 753 = .ok (.goto 26, 3) := by decide +kernel
theorem dL_law_756 : decode cL_law 756 = .ok (.aload_n 1, 1) := by decide +kernel
theorem dL_law_757 : decode cL_law 757 = .ok (.aload_n 0, 1) := by decide +kernel
theorem dL_law_758 : decode cL_law 758 = .ok (.iload_n 3, 1) := by decide +kernel
theorem dL_law_759 : decode cL_law 759 = .ok (.iconst 1, 1) := by decide +kernel
theorem dL_law_760 : decode cL_law 760 = .ok (.iadd, 1) := by decide +kernel
theorem dL_law_761 : decode cL_law 761 = .ok (.iaload, 1) := by decide +kernel
theorem dL_law_762 : decode cL_law 762 = .ok (.invokevirtual 107, 3) := by decide +kernel
theorem dL_law_765 : decode cL_law 765 = .ok (.pop, 1) := by decide +kernel
theorem dL_law_766 : decode cL_law 766 = .ok (.aload_n 2, 1) := by decide +kernel
theorem dL_law_767 : decode cL_law 767 = .ok (.aload_n 0, 1) := by decide +kernel
theorem dL_law_768 : decode cL_law 768 = .ok (.iload_n 3, 1) := by decide +kernel
theorem dL_law_769 : decode cL_law 769 = .ok (.iconst 1, 1) := by decide +kernel
theorem dL_law_770 : decode cL_law 770 = .ok (.iadd, 1) := by decide +kernel
theorem dL_law_771 : decode cL_law 771 = .ok (.iaload, 1) := by decide +kernel
theorem dL_law_772 : decode cL_law 772 = .ok (.invokevirtual 110, 3) := by decide +kernel
theorem dL_law_775 : decode cL_law 775 = .ok (.pop, 1) := by decide +kernel
theorem dL_law_776 : decode cL_law 776 = .ok (.goto 3, 3) := by decide +kernel
theorem dL_law_779 : decode cL_law 779 = .ok (.iinc 3 6, 3) := by decide +kernel
theorem dL_law_782 : decode cL_law 782 = .ok (.goto (-764), 3) := by decide +kernel
theorem dL_law_785 : decode cL_law 785 = .ok (.iconst 1, 1) := by decide +kernel
theorem dL_law_786 : decode cL_law 786 = .ok (.ireturn, 1) := by decide +kernel
end
section
/-! the little machine: the cells of both systems by number (SH), their ints (F: object, slot; A: array, place); J: a method from pc on -/
abbrev mj_Y : Type := MethodName × ByteArray × Nat × Option FieldType
abbrev mj_S : Type := Nat → Nat → Int32
abbrev mj_B : Type := Launch × (Nat → Nat) × (Nat → ClassId) × ((Nat → ClassId) × (Nat → Nat → Nat)) × (Nat → Prop)
abbrev mj_G : Type := mj_B × (Nat → va_E) × Nat
abbrev mj_l (g : mj_G) : Launch := g.1.1
abbrev mj_ad (g : mj_G) : Nat → Nat := g.1.2.1
abbrev mj_dA (g : mj_G) : Nat → ClassId := g.1.2.2.1
abbrev mj_D (g : mj_G) : va_G := g.1.2.2.2.1
abbrev mj_Z (g : mj_G) : Nat → Prop := g.1.2.2.2.2
abbrev mj_sh (g : mj_G) : Nat → va_E := g.2.1
abbrev mj_n (g : mj_G) : Nat := g.2.2
def SHC : Nat → va_E := fun k => match k with
  | 0 => .inr (5, [.ref 1, .int 0, .ref 33, .ref 40, .ref 2, .ref 3, .int 0, .ref 4, .int 0, .ref 18, .ref 23, .ref 5, .ref 10, .ref 14, .int 0, .int 0, .int 0])
  | 1 => .inl (1, 200, .inl (fun _ => 0))
  | 2 => .inr (1, [.ref 1, .ref 40, .int 0, .int 0])
  | 3 => .inl (2, 8, .inr (.inr (.inr (.inr (fun _ => none)))))
  | 4 => .inl (2, 2, .inr (.inr (.inr (.inr (fun _ => none)))))
  | 5 => .inr (2, [.ref 6, .ref 7, .ref 8, .int 0, .ref 9, .ref 28, .int 0])
  | 6 => .inl (0, 8, .inl (fun _ => 0))
  | 7 => .inl (0, 8, .inl (fun _ => 0))
  | 8 => .inl (0, 8, .inl (fun _ => 0))
  | 9 => .inl (0, 8, .inl (fun _ => 0))
  | 10 => .inr (3, [.int 0, .int 0, .int 0, .int 0, .ref 11, .ref 12, .ref 13, .ref 18, .int 0])
  | 11 => .inl (0, 8, .inl (fun _ => 0))
  | 12 => .inl (0, 8, .inl (fun _ => 0))
  | 13 => .inl (0, 9, .inl (fun _ => 0))
  | 14 => .inr (3, [.int 0, .int 0, .int 0, .int 0, .ref 15, .ref 16, .ref 17, .ref 23, .int 0])
  | 15 => .inl (0, 8, .inl (fun _ => 0))
  | 16 => .inl (0, 8, .inl (fun _ => 0))
  | 17 => .inl (0, 9, .inl (fun _ => 0))
  | 18 => .inr (4, [.int 0, .ref 19, .ref 20, .ref 21, .ref 22])
  | 19 => .inl (0, 8, .inl (fun _ => 0))
  | 20 => .inl (0, 8, .inl (fun _ => 0))
  | 21 => .inl (0, 32, .inl (fun _ => 0))
  | 22 => .inl (0, 448, .inl (fun _ => 0))
  | 23 => .inr (4, [.int 0, .ref 24, .ref 25, .ref 26, .ref 27])
  | 24 => .inl (0, 8, .inl (fun _ => 0))
  | 25 => .inl (0, 8, .inl (fun _ => 0))
  | 26 => .inl (0, 32, .inl (fun _ => 0))
  | 27 => .inl (0, 448, .inl (fun _ => 0))
  | 28 => .inr (4, [.int 0, .ref 29, .ref 30, .ref 31, .ref 32])
  | 29 => .inl (0, 8, .inl (fun _ => 0))
  | 30 => .inl (0, 8, .inl (fun _ => 0))
  | 31 => .inl (0, 32, .inl (fun _ => 0))
  | 32 => .inl (0, 448, .inl (fun _ => 0))
  | 33 => .inr (0, [.int 0, .ref 34, .ref 35, .ref 36, .ref 37, .ref 38, .ref 39])
  | 34 => .inl (0, 8, .inl (fun _ => 0))
  | 35 => .inl (0, 8, .inl (fun _ => 0))
  | 36 => .inl (0, 8, .inl (fun _ => 0))
  | 37 => .inl (0, 8, .inl (fun _ => 0))
  | 38 => .inl (0, 32, .inl (fun _ => 0))
  | 39 => .inl (0, 448, .inl (fun _ => 0))
  | 40 => .inr (0, [.int 0, .ref 41, .ref 42, .ref 43, .ref 44, .ref 45, .ref 46])
  | 41 => .inl (0, 8, .inl (fun _ => 0))
  | 42 => .inl (0, 8, .inl (fun _ => 0))
  | 43 => .inl (0, 8, .inl (fun _ => 0))
  | 44 => .inl (0, 8, .inl (fun _ => 0))
  | 45 => .inl (0, 32, .inl (fun _ => 0))
  | 46 => .inl (0, 448, .inl (fun _ => 0))
  | 47 => .inr (0, [.int 0, .ref 48, .ref 49, .ref 50, .ref 51, .ref 52, .ref 53])
  | 48 => .inl (0, 8, .inl (fun _ => 0))
  | 49 => .inl (0, 8, .inl (fun _ => 0))
  | 50 => .inl (0, 8, .inl (fun _ => 0))
  | 51 => .inl (0, 8, .inl (fun _ => 0))
  | 52 => .inl (0, 32, .inl (fun _ => 0))
  | 53 => .inl (0, 448, .inl (fun _ => 0))
  | 54 => .inr (0, [.int 0, .ref 55, .ref 56, .ref 57, .ref 58, .ref 59, .ref 60])
  | 55 => .inl (0, 8, .inl (fun _ => 0))
  | 56 => .inl (0, 8, .inl (fun _ => 0))
  | 57 => .inl (0, 8, .inl (fun _ => 0))
  | 58 => .inl (0, 8, .inl (fun _ => 0))
  | 59 => .inl (0, 32, .inl (fun _ => 0))
  | 60 => .inl (0, 448, .inl (fun _ => 0))
  | 61 => .inr (0, [.int 0, .ref 62, .ref 63, .ref 64, .ref 65, .ref 66, .ref 67])
  | 62 => .inl (0, 8, .inl (fun _ => 0))
  | 63 => .inl (0, 8, .inl (fun _ => 0))
  | 64 => .inl (0, 8, .inl (fun _ => 0))
  | 65 => .inl (0, 8, .inl (fun _ => 0))
  | 66 => .inl (0, 32, .inl (fun _ => 0))
  | 67 => .inl (0, 448, .inl (fun _ => 0))
  | 68 => .inr (0, [.int 0, .ref 69, .ref 70, .ref 71, .ref 72, .ref 73, .ref 74])
  | 69 => .inl (0, 8, .inl (fun _ => 0))
  | 70 => .inl (0, 8, .inl (fun _ => 0))
  | 71 => .inl (0, 8, .inl (fun _ => 0))
  | 72 => .inl (0, 8, .inl (fun _ => 0))
  | 73 => .inl (0, 32, .inl (fun _ => 0))
  | 74 => .inl (0, 448, .inl (fun _ => 0))
  | 75 => .inr (0, [.int 0, .ref 76, .ref 77, .ref 78, .ref 79, .ref 80, .ref 81])
  | 76 => .inl (0, 8, .inl (fun _ => 0))
  | 77 => .inl (0, 8, .inl (fun _ => 0))
  | 78 => .inl (0, 8, .inl (fun _ => 0))
  | 79 => .inl (0, 8, .inl (fun _ => 0))
  | 80 => .inl (0, 32, .inl (fun _ => 0))
  | 81 => .inl (0, 448, .inl (fun _ => 0))
  | 82 => .inr (0, [.int 0, .ref 83, .ref 84, .ref 85, .ref 86, .ref 87, .ref 88])
  | 83 => .inl (0, 8, .inl (fun _ => 0))
  | 84 => .inl (0, 8, .inl (fun _ => 0))
  | 85 => .inl (0, 8, .inl (fun _ => 0))
  | 86 => .inl (0, 8, .inl (fun _ => 0))
  | 87 => .inl (0, 32, .inl (fun _ => 0))
  | 88 => .inl (0, 448, .inl (fun _ => 0))
  | 89 => .inr (0, [.int 0, .ref 90, .ref 91, .ref 92, .ref 93, .ref 94, .ref 95])
  | 90 => .inl (0, 8, .inl (fun _ => 0))
  | 91 => .inl (0, 8, .inl (fun _ => 0))
  | 92 => .inl (0, 8, .inl (fun _ => 0))
  | 93 => .inl (0, 8, .inl (fun _ => 0))
  | 94 => .inl (0, 32, .inl (fun _ => 0))
  | 95 => .inl (0, 448, .inl (fun _ => 0))
  | 96 => .inr (0, [.int 0, .ref 97, .ref 98, .ref 99, .ref 100, .ref 101, .ref 102])
  | 97 => .inl (0, 8, .inl (fun _ => 0))
  | 98 => .inl (0, 8, .inl (fun _ => 0))
  | 99 => .inl (0, 8, .inl (fun _ => 0))
  | 100 => .inl (0, 8, .inl (fun _ => 0))
  | 101 => .inl (0, 32, .inl (fun _ => 0))
  | 102 => .inl (0, 448, .inl (fun _ => 0))
  | 103 => .inr (0, [.int 0, .ref 104, .ref 105, .ref 106, .ref 107, .ref 108, .ref 109])
  | 104 => .inl (0, 8, .inl (fun _ => 0))
  | 105 => .inl (0, 8, .inl (fun _ => 0))
  | 106 => .inl (0, 8, .inl (fun _ => 0))
  | 107 => .inl (0, 8, .inl (fun _ => 0))
  | 108 => .inl (0, 32, .inl (fun _ => 0))
  | 109 => .inl (0, 448, .inl (fun _ => 0))
  | 110 => .inr (0, [.int 0, .ref 111, .ref 112, .ref 113, .ref 114, .ref 115, .ref 116])
  | 111 => .inl (0, 8, .inl (fun _ => 0))
  | 112 => .inl (0, 8, .inl (fun _ => 0))
  | 113 => .inl (0, 8, .inl (fun _ => 0))
  | 114 => .inl (0, 8, .inl (fun _ => 0))
  | 115 => .inl (0, 32, .inl (fun _ => 0))
  | _ => .inl (0, 448, .inl (fun _ => 0))
def SHM : Nat → va_E := fun k => match k with
  | 0 => .inr (6, [.int 0, .ref 1, .int 0, .ref 2, .int 0, .ref 3, .ref 4, .ref 5, .ref 6, .int 0, .ref 7, .int 0, .int 0, .int 0, .ref 8, .ref 9, .ref 10, .ref 11, .ref 12, .ref 13, .ref 14, .int 0, .int 0, .int 0, .ref 15, .ref 16, .ref 17])
  | 1 => .inl (0, 200, .inl (fun _ => 0))
  | 2 => .inl (0, 8, .inl (fun _ => 0))
  | 3 => .inl (0, 8, .inl (fun _ => 0))
  | 4 => .inl (0, 500, .inl (fun _ => 0))
  | 5 => .inl (0, 500, .inl (fun _ => 0))
  | 6 => .inl (0, 4000, .inl (fun _ => 0))
  | 7 => .inl (0, 1000, .inl (fun _ => 0))
  | 8 => .inl (0, 32, .inl (fun _ => 0))
  | 9 => .inl (0, 1024, .inl (fun _ => 0))
  | 10 => .inl (0, 8, .inl (fun _ => 0))
  | 11 => .inl (0, 8, .inl (fun _ => 0))
  | 12 => .inl (0, 8, .inl (fun _ => 0))
  | 13 => .inl (0, 8, .inl (fun _ => 0))
  | 14 => .inl (0, 8, .inl (fun _ => 0))
  | 15 => .inl (0, 8, .inl (fun _ => 0))
  | 16 => .inl (0, 8, .inl (fun _ => 0))
  | _ => .inl (0, 16, .inl (fun _ => 0))
abbrev gC (z : mj_B) : mj_G := (z, SHC, 117)
abbrev gM (z : mj_B) : mj_G := (z, SHM, 18)
def mj_v (ad : Nat → Nat) (v : Value) : Value := match v with
  | .ref k => .ref (ad k)
  | v => v
def mj_f (ad : Nat → Nat) (f : Nat → Int32) (s : Nat) (v : Value) : Value := match v with
  | .int _ => .int (f s)
  | .ref r => .ref (ad r)
  | v => v
def mj_x (ad : Nat → Nat) (a : Nat → Int32) (x : vp_A) : vp_A := (x.1, match x.2 with
  | .inl _ => .inl a
  | .inr (.inr (.inr (.inr _))) => .inr (.inr (.inr (.inr (fun j => some (ad (a j).toNatClampNeg)))))
  | o => o)
def mj_c (ad : Nat → Nat) (dA : Nat → ClassId) (f a : Nat → Int32) (t : va_E) : va_E := match t with
  | .inl (t, x) => .inl (dA t, mj_x ad a x)
  | .inr (ci, ts) => .inr (ci, ts.mapIdx (mj_f ad f))
def mj_w (g : mj_G) (F A : mj_S) : va_W := (List.range (mj_n g)).map fun k => (mj_ad g k, mj_c (mj_ad g) (mj_dA g) (F k) (A k) (mj_sh g k))
theorem mj_w_at (g : mj_G) (F A : mj_S) {k : Nat} (hk : k < (mj_n g)) : (mj_w g F A)[k]? = some (mj_ad g k, mj_c (mj_ad g) (mj_dA g) (F k) (A k) (mj_sh g k)) := by
  simp [mj_w, List.getElem?_map, List.getElem?_range hk]
def mj_u (F : mj_S) (k s : Nat) (x : Int32) : mj_S := fun j => if j = k then upd (F j) s x else F j
def mj_a (A : mj_S) (k : Nat) (f : Nat → Int32) : mj_S := fun j => if j = k then f else A j
theorem mj_u_at (F : mj_S) (k s : Nat) (x : Int32) : mj_u F k s x k = upd (F k) s x := by simp [mj_u]
theorem mj_u_ne (F : mj_S) {k j s : Nat} (x : Int32) (h : j ≠ k) : mj_u F k s x j = F j := by simp [mj_u, h]
theorem mj_a_at (A : mj_S) (k : Nat) (f : Nat → Int32) : mj_a A k f k = f := by simp [mj_a]
theorem mj_a_ne (A : mj_S) {k j : Nat} (f : Nat → Int32) (h : j ≠ k) : mj_a A k f j = A j := by simp [mj_a, h]
theorem mj_w_set (g : mj_G) {F A F' A' : mj_S} {k : Nat} {e : va_E} (hk : k < (mj_n g)) (he : e = mj_c (mj_ad g) (mj_dA g) (F' k) (A' k) (mj_sh g k)) (hF : ∀ j, j ≠ k → F j = F' j) (hA : ∀ j, j ≠ k → A j = A' j) : (mj_w g F A).set k (mj_ad g k, e) = mj_w g F' A' := by
  apply List.ext_getElem?
  intro j
  rw [List.getElem?_set]
  by_cases hj : k = j
  · subst hj
    rw [if_pos rfl, if_pos (by simp [mj_w]; exact hk), mj_w_at g F' A' hk, he]
  · rw [if_neg hj]
    by_cases hl : j < (mj_n g)
    · rw [mj_w_at g F A hl, mj_w_at g F' A' hl, hF j (Ne.symm hj), hA j (Ne.symm hj)]
    · simp [mj_w, List.getElem?_eq_none (l := List.range (mj_n g)) (i := j) (by simp; omega)]
def mj_DD (g : mj_G) : Prop := (∀ i j, i < (mj_n g) → j < (mj_n g) → mj_ad g i = mj_ad g j → i = j) ∧ ∀ i, i < (mj_n g) → mj_Z g (mj_ad g i)
theorem mj_in_w {g : mj_G} {F A : mj_S} {i : Nat} {q : Nat × va_E} (h : (mj_w g F A)[i]? = some q) : i < (mj_n g) ∧ q.1 = mj_ad g i := by
  by_cases hl : i < (mj_n g)
  · rw [mj_w_at g F A hl] at h
    cases h
    exact ⟨hl, rfl⟩
  · rw [mj_w, List.getElem?_eq_none (by simp; omega)] at h
    cases h
theorem mj_DD.D {g : mj_G} (h : mj_DD g) (F A : mj_S) : va_D (mj_Z g) (mj_w g F A) := by
  refine ⟨fun i j p q hi hj he => ?_, fun k q hk => ?_⟩
  · obtain ⟨h1, h2⟩ := mj_in_w hi
    obtain ⟨h3, h4⟩ := mj_in_w hj
    exact h.1 i j h1 h3 (by rw [← h2, ← h4, he])
  · obtain ⟨h1, h2⟩ := mj_in_w hk
    rw [h2]
    exact h.2 k h1
def mj_K (g : mj_G) : List (ClassId × FieldType) := [(mj_dA g 0, .int), (mj_dA g 1, .char), (mj_dA g 2, .object RX0)]
def mj_TB : List Cond := lw_tbl.filter goodWord
theorem mj_in {w : Cond} (i : Nat) (h : lw_tbl[i]? = some w) (hg : goodWord w = true) : w ∈ mj_TB := List.mem_filter.mpr ⟨List.mem_of_getElem? h, hg⟩
theorem mj_ins (ws : List Cond) (ps : List Nat) (hp : ws = ps.filterMap (fun i => lw_tbl[i]?)) (hg : ws.all goodWord = true) : ∀ w ∈ ws, w ∈ mj_TB := fun w hw => List.mem_filter.mpr ⟨by
  rw [hp] at hw
  obtain ⟨i, -, hi⟩ := List.mem_filterMap.mp hw
  exact List.mem_of_getElem? hi, List.all_eq_true.mp hg w hw⟩
def mj_nests : List (String × Nat × MethodName × String) := [(RX5, 15, yX0_init, RX5), (RX5, 41, yX4_init, RX5), (RX5, 51, yX2_init, RX5), (RX2, 26, yX4_init, RX5), (RX1, 55, yX5_isWithin, RX5), (RX1, 63, yX5_choicePlace, RX5), (RX0, 38, yX5_hasBit, RX5), (RX1, 83, yX5_joinByNoughts, RX5), (RX1, 96, yX5_entryPlace, RX5), (RX0, 34, yX5_copyRow, RX5), (RX0, 49, yX5_choicePlace, RX5), (RX0, 53, yX5_capped, RX5), (RX0, 56, yX5_entryPlace, RX5), (RX4, 32, yX5_copyRow, RX5), (RX4, 37, yX5_choicePlace, RX5), (RX4, 59, yX5_hasBit, RX5), (RX4, 52, yX5_entryPlace, RX5), (RX2, 85, yX5_hasBit, RX5), (RX4, 62, yX5_capped, RX5), (RX2, 112, yX5_joinByNoughts, RX5), (RX2, 127, yX5_capped, RX5), (RX3, 52, yX5_capped, RX5), (RX3, 73, yX5_copyRow, RX5)]
def mj_NW (s : State) : Prop := ∀ q ∈ mj_nests, va_Nw (.methodLinkNest q.1 q.2.1 q.2.2.1 q.2.2.2) s
theorem mj_NW.warm {s U : State} (hW : s.WarmedH U.vm) (h : mj_NW s) : mj_NW U := fun q hq => va_Nw.warmM hW (h q hq)
theorem mj_NW.same {s U : State} (hv : s.vm = U.vm) (h : mj_NW s) : mj_NW U := fun q hq => va_Nw.same rfl hv (h q hq)
def mj_ws (y : mj_Y) : List Cond := Cond.code y.1 y.2.1 y.2.2.1 y.2.2.2 :: mj_TB
def mj_rm (d : Nat) : Room := { frames := d, cells := 0, slots := 0, locals := 64 * d }
def mj_Cx (y : mj_Y) (p : Program) (s : State) (m : MethodId) (args : Array Value) (meth : Method) (c : Code) : Prop :=
  p.tables.exec = Jvm.exec ∧ c.code = y.2.1 ∧ meth.sig.returnType = y.2.2.2 ∧ c.maxLocals = y.2.2.1 ∧ s.vm.findClass y.1.cls = some m.cls ∧ (∀ w ∈ mj_ws y, w.before args s = true) ∧ meth.locks = false
def mj_Q (g : mj_G) (Q : Option Value → mj_S → mj_S → Prop) : Array Value → State → Outcome → State → Prop := fun _ st oc t =>
  (∃ (v : Option Value) (F A : mj_S), oc = .returned (v.map (mj_v (mj_ad g))) ∧ Q v F A ∧ va_P (mj_D g) vwCl (mj_w g F A) t.heap) ∧ va_F (mj_Z g) st t
def mj_lv (g : mj_G) (lv : List (Nat × Value)) : List (Nat × Value) := lv.map fun q => (q.1, mj_v (mj_ad g) q.2)
/-- method y, from pc on, with the locals lv and the stack st, in the state F, A, d frames deep at most: it returns, with Q -/
def J (g : mj_G) (y : mj_Y) (d pc : Nat) (lv : List (Nat × Value)) (st : List Value) (F A : mj_S) (Q : Option Value → mj_S → mj_S → Prop) : Prop :=
  ∀ (p : Program) (e : Env) (s : State) (m : MethodId) (args : Array Value) (below : List Frame) (meth : Method) (c : Code) (H : Heap) (locs : List Loc) (ls : Array Slot),
    mj_Cx y p s m args meth c → mj_DD g ∧ mj_NW s → va_K (mj_D g) vwCl (mj_K g) s → va_P (mj_D g) vwCl (mj_w g F A) H → va_S (mj_Z g) s.heap H locs → lv_has ls y.2.2.1 (mj_lv g lv) →
    W p (mj_l g) e (mj_rm d) s m args below meth c H locs 0 0 (MQ below (mj_Q g Q) args s 0 0 (mj_Z g)) (F0 m pc ls (st.map (mj_v (mj_ad g))))
theorem mj_good : GoodIn mj_TB mj_TB := fun _ h => ⟨h, good_of_word (List.mem_filter.mp h).2⟩
theorem mj_good2 (y y' : mj_Y) (hc : Cond.code y'.1 y'.2.1 y'.2.2.1 y'.2.2.2 ∈ mj_TB) : GoodIn (mj_ws y) (mj_ws y') := by
  intro w hw
  have h : w ∈ mj_TB := by
    rcases List.mem_cons.mp hw with h | h
    · rw [h]; exact hc
    · exact h
  exact ⟨List.mem_cons_of_mem _ h, (mj_good w h).2⟩
theorem mj_cat (ad : Nat → Nat) (v : Value) : (mj_v ad v).category = v.category := by cases v <;> rfl
theorem mj_args (ad : Nat → Nat) : ∀ (av : List Value) (i : Nat), (lv_args i av).map (fun q => (q.1, mj_v ad q.2)) = lv_args i (av.map (mj_v ad))
  | [], _ => rfl
  | v :: vs, i => by
    simp only [lv_args, List.map_cons, mj_cat]
    rw [mj_args ad vs]
theorem mj_sl (ad : Nat → Nat) : ∀ av : List Value, (lg_sl (av.map (mj_v ad))).length = (lg_sl av).length
  | [] => rfl
  | v :: vs => by
    have ih := mj_sl ad vs
    simp only [lg_sl, List.map_cons, List.flatMap_cons, List.length_append, mj_cat] at ih ⊢
    rw [ih]
    by_cases h : v.category = 2 <;> simp [h]
theorem mj_sum (ad : Nat → Nat) (st : List Value) : ((st.map (mj_v ad)).map fun v => v.category) = st.map fun v => v.category := by
  rw [List.map_map]
  exact List.map_congr_left (fun v _ => mj_cat ad v)
def mj_P (g : mj_G) (av : List Value) (F A : mj_S) : Array Value → State → Prop := va_Pc (av.map (mj_v (mj_ad g))) (fun U => va_P (mj_D g) vwCl (mj_w g F A) U.heap ∧ va_K (mj_D g) vwCl (mj_K g) U ∧ mj_NW U)
theorem mj_met {g : mj_G} {y : mj_Y} {d : Nat} {av : List Value} {F A : mj_S} {Q : Option Value → mj_S → mj_S → Prop} (hpl : plainName y.1.cls = true) (hlen : (lg_sl av).length ≤ y.2.2.1) (hDD : mj_DD g) (hJ : J g y d 0 (lv_args 0 av) [] F A Q) : Met (mj_l g) y.1 (mj_ws y) (mj_rm d) (mj_P g av F A) (mj_Q g Q) 0 0 (mj_Z g) := by
  refine Met.ofW (cc := y.2.1) (maxL := y.2.2.1) (ret := y.2.2.2) hpl rfl ?_
  intro p e s m args below meth c s₁ B hml hv
  obtain ⟨rfl, hP, hK, hN⟩ := hv
  have C : mj_Cx y p s m _ meth c := ⟨B.exec, B.bytes, B.returns, hml, findClass_of_methodNamed B.named, atoms_spec (ws := mj_ws y) B.pre, B.notSynchronized⟩
  rw [lg_entry_eq]
  have hl := lv_entry (av.map (mj_v (mj_ad g))) (n := y.2.2.1) (by rw [mj_sl]; exact hlen)
  rw [← mj_args] at hl
  exact hJ p e s m _ below meth c s.heap [] _ C ⟨hDD, hN⟩ hK hP va_S.rf hl
theorem mj_blind (g : mj_G) (av : List Value) (F A : mj_S) : FrameBlind (mj_P g av F A) := by
  intro a U gg mk q
  obtain ⟨q0, qP, qK, qN⟩ := q
  exact ⟨q0, qP, va_K.moved (u := U) (U := U.calling gg mk a) (Vm.Alike.refl U.vm) qK, mj_NW.same (s := U) (U := U.calling gg mk a) rfl qN⟩
theorem mj_call {p : Program} {e : Env} {R : Room} {s : State} {m : MethodId} {args : Array Value} {below : List Frame} {meth : Method} {c : Code} {H : Heap} {locs : List Loc} {cells slots : Nat} {Qw : State → Prop} {g : mj_G} {pc : Nat} {ls : Array Slot} {rest st0 : List Value} {a : Array Value} {H0 : Heap} {Q : Option Value → mj_S → mj_S → Prop}
    (hr : va_Run p (mj_l g) e R s m args below meth c H locs cells slots 0 0 (F0 m pc ls st0) rest (mj_Q g Q a) (mj_Z g)) (hS : va_S (mj_Z g) H0 H locs)
    (kk : ∀ (v : Option Value) (F A : mj_S) (H1 : Heap) (locs1 : List Loc), Q v F A → va_P (mj_D g) vwCl (mj_w g F A) H1 → va_S (mj_Z g) H0 H1 locs1 → W p (mj_l g) e R s m args below meth c H1 locs1 cells slots Qw (F0 m (pc + 3) ls ((v.map (mj_v (mj_ad g))).toList ++ rest))) : W p (mj_l g) e R s m args below meth c H locs cells slots Qw (F0 m pc ls st0) := by
  intro T hT X
  obtain ⟨v, st₀, t, T', L, h0, X', hL, e1, e2, ⟨⟨v', F, A, hv, hq, hP⟩, hz, hk⟩, st⟩ := hr T hT X
  cases hv
  rw [h0] at hz hk
  obtain ⟨t2, a1, b1⟩ := kk v' F A T'.heap (locs ++ L) hq (by rw [e1]; exact hP)
    ⟨Nat.le_trans hS.1 (by rw [e1]; exact hz), fun q h1 h2 => by rw [e1, hk q (Nat.lt_of_lt_of_le h1 hS.1) h2]; exact hS.2.1 q h1 h2, fun q hq => by
      rcases List.mem_append.mp hq with h | h
      · exact hS.2.2 q h
      · exact hL q h⟩ T' rfl X'
  exact ⟨t2, st t2 a1, b1⟩
def mj_OK (y : mj_Y) (n : Nat) : Prop := Cond.code y.1 y.2.1 y.2.2.1 y.2.2.2 ∈ mj_TB ∧ Cond.initialized y.1.cls ∈ mj_TB ∧ (y.1.cls ≠ "java/lang/invoke/MethodHandle" ∧ y.1.cls ≠ "java/lang/invoke/VarHandle" ∧ (parseMethodDescriptor y.1.desc).map (fun d => d.parameters.length) = some n) ∧ plainName y.1.cls = true ∧ y.2.2.1 ≤ 40
theorem mj_tl (g : mj_G) (v : Option Value) (rest : List Value) : (v.map (mj_v (mj_ad g))).toList ++ rest.map (mj_v (mj_ad g)) = (v.toList ++ rest).map (mj_v (mj_ad g)) := by cases v <;> simp
section MJ
variable {g : mj_G} {y : mj_Y} {d pc : Nat} {lv : List (Nat × Value)} {st : List Value} {F A : mj_S} {Q : Option Value → mj_S → mj_S → Prop}
theorem j_iconst {n : Int} {v : Int32} (hd : decode y.2.1 pc = .ok (.iconst n, 1)) (hv : Int32.ofInt n = v) (k : J g y d (pc + 1) lv (.int v :: st) F A Q) : J g y d pc lv (st) F A Q := by
  intro p e s m args below meth c H locs ls C hDD hK hP hS hl
  exact lv_iconst C.1 C.2.1 hd hv (k p e s m args below meth c H locs ls C hDD hK hP hS hl)
theorem j_bipush {n : Int} {v : Int32} (hd : decode y.2.1 pc = .ok (.bipush n, 2)) (hv : (Int8.ofInt n).toInt32 = v) (k : J g y d (pc + 2) lv (.int v :: st) F A Q) : J g y d pc lv (st) F A Q := by
  intro p e s m args below meth c H locs ls C hDD hK hP hS hl
  exact lv_bipush C.1 C.2.1 hd hv (k p e s m args below meth c H locs ls C hDD hK hP hS hl)
theorem j_sipush {n : Int} {v : Int32} (hd : decode y.2.1 pc = .ok (.sipush n, 3)) (hv : (Int16.ofInt n).toInt32 = v) (k : J g y d (pc + 3) lv (.int v :: st) F A Q) : J g y d pc lv (st) F A Q := by
  intro p e s m args below meth c H locs ls C hDD hK hP hS hl
  exact lv_sipush C.1 C.2.1 hd hv (k p e s m args below meth c H locs ls C hDD hK hP hS hl)
theorem j_lconst {n : Fin 2} {v : Int64} (hd : decode y.2.1 pc = .ok (.lconst n, 1)) (hv : Int64.ofNat (n : Nat) = v) (k : J g y d (pc + 1) lv (.long v :: st) F A Q) : J g y d pc lv (st) F A Q := by
  intro p e s m args below meth c H locs ls C hDD hK hP hS hl
  exact lv_lconst C.1 C.2.1 hd hv (k p e s m args below meth c H locs ls C hDD hK hP hS hl)
theorem j_ldc {i : Nat} {v : Int32} (hd : decode y.2.1 pc = .ok (.ldc i, 2)) (hw : Cond.constant y.1.cls i v ∈ mj_TB) (k : J g y d (pc + 2) lv (.int v :: st) F A Q) : J g y d pc lv (st) F A Q := by
  intro p e s m args below meth c H locs ls C hDD hK hP hS hl
  exact lv_ldc C.1 C.2.1 C.2.2.2.2.1 (C.2.2.2.2.2.1 _ (List.mem_cons_of_mem _ hw)) hd (k p e s m args below meth c H locs ls C hDD hK hP hS hl)
theorem j_ldcw {i : Nat} {v : Int32} (hd : decode y.2.1 pc = .ok (.ldc_w i, 3)) (hw : Cond.constant y.1.cls i v ∈ mj_TB) (k : J g y d (pc + 3) lv (.int v :: st) F A Q) : J g y d pc lv (st) F A Q := by
  intro p e s m args below meth c H locs ls C hDD hK hP hS hl
  exact lv_ldcw C.1 C.2.1 C.2.2.2.2.1 (C.2.2.2.2.2.1 _ (List.mem_cons_of_mem _ hw)) hd (k p e s m args below meth c H locs ls C hDD hK hP hS hl)
theorem j_ldc2 {i : Nat} {v : Int64} (hd : decode y.2.1 pc = .ok (.ldc2_w i, 3)) (hw : Cond.constantLong y.1.cls i v ∈ mj_TB) (k : J g y d (pc + 3) lv (.long v :: st) F A Q) : J g y d pc lv (st) F A Q := by
  intro p e s m args below meth c H locs ls C hDD hK hP hS hl
  exact lv_ldc2 C.1 C.2.1 C.2.2.2.2.1 (C.2.2.2.2.2.1 _ (List.mem_cons_of_mem _ hw)) hd (k p e s m args below meth c H locs ls C hDD hK hP hS hl)
theorem mj_lk {g : mj_G} {lv : List (Nat × Value)} {ls : Array Slot} {n i : Nat} {v : Value} (h : lv_has ls n (mj_lv g lv)) (hl : lv.lookup i = some v) : ls[i]? = some (.val (mj_v (mj_ad g) v)) := by
  have hm : (i, v) ∈ lv := by
    clear h
    induction lv with
    | nil => cases hl
    | cons q t ih =>
      obtain ⟨a, b⟩ := q
      simp only [List.lookup] at hl
      split at hl
      · rename_i he
        cases hl
        rw [beq_iff_eq.mp he]
        exact List.mem_cons_self
      · exact List.mem_cons_of_mem _ (ih hl)
  exact h.2.2 (i, mj_v (mj_ad g) v) (List.mem_map.mpr ⟨(i, v), hm, rfl⟩)
theorem j_iload {i : Nat} {x : Int32} (hd : decode y.2.1 pc = .ok (.iload i, 2)) (hl0 : lv.lookup i = some (.int x)) (k : J g y d (pc + 2) lv (.int x :: st) F A Q) : J g y d pc lv (st) F A Q := by
  intro p e s m args below meth c H locs ls C hDD hK hP hS hl
  exact lv_iload C.1 C.2.1 hd (mj_lk hl hl0) (k p e s m args below meth c H locs ls C hDD hK hP hS hl)
theorem j_iload_n {i : Fin 4} {x : Int32} (hd : decode y.2.1 pc = .ok (.iload_n i, 1)) (hl0 : lv.lookup i.val = some (.int x)) (k : J g y d (pc + 1) lv (.int x :: st) F A Q) : J g y d pc lv (st) F A Q := by
  intro p e s m args below meth c H locs ls C hDD hK hP hS hl
  exact lv_iload_n C.1 C.2.1 hd rfl (mj_lk hl hl0) (k p e s m args below meth c H locs ls C hDD hK hP hS hl)
theorem j_lload {i : Nat} {x : Int64} (hd : decode y.2.1 pc = .ok (.lload i, 2)) (hl0 : lv.lookup i = some (.long x)) (k : J g y d (pc + 2) lv (.long x :: st) F A Q) : J g y d pc lv (st) F A Q := by
  intro p e s m args below meth c H locs ls C hDD hK hP hS hl
  exact lv_lload C.1 C.2.1 hd (mj_lk hl hl0) (k p e s m args below meth c H locs ls C hDD hK hP hS hl)
theorem j_lload_n {i : Fin 4} {x : Int64} (hd : decode y.2.1 pc = .ok (.lload_n i, 1)) (hl0 : lv.lookup i.val = some (.long x)) (k : J g y d (pc + 1) lv (.long x :: st) F A Q) : J g y d pc lv (st) F A Q := by
  intro p e s m args below meth c H locs ls C hDD hK hP hS hl
  exact lv_lload_n C.1 C.2.1 hd rfl (mj_lk hl hl0) (k p e s m args below meth c H locs ls C hDD hK hP hS hl)
theorem j_aload {i : Nat} {x : Nat} (hd : decode y.2.1 pc = .ok (.aload i, 2)) (hl0 : lv.lookup i = some (.ref x)) (k : J g y d (pc + 2) lv (.ref x :: st) F A Q) : J g y d pc lv (st) F A Q := by
  intro p e s m args below meth c H locs ls C hDD hK hP hS hl
  exact lv_aload C.1 C.2.1 hd (mj_lk hl hl0) (k p e s m args below meth c H locs ls C hDD hK hP hS hl)
theorem j_aload_n {i : Fin 4} {x : Nat} (hd : decode y.2.1 pc = .ok (.aload_n i, 1)) (hl0 : lv.lookup i.val = some (.ref x)) (k : J g y d (pc + 1) lv (.ref x :: st) F A Q) : J g y d pc lv (st) F A Q := by
  intro p e s m args below meth c H locs ls C hDD hK hP hS hl
  exact lv_aload_n C.1 C.2.1 hd rfl (mj_lk hl hl0) (k p e s m args below meth c H locs ls C hDD hK hP hS hl)
def mj_st (lv : List (Nat × Value)) (i : Nat) (v : Value) : List (Nat × Value) := match lv with
  | [] => [(i, v)]
  | q :: t => if q.1 == i then (i, v) :: t.filter (fun q => !(q.1 == i)) else q :: mj_st t i v
theorem mj_st_in : ∀ (lv : List (Nat × Value)) (i : Nat) (v : Value) (q : Nat × Value), q ∈ mj_st lv i v → q = (i, v) ∨ (q ∈ lv ∧ q.1 ≠ i)
  | [], i, v, q, h => Or.inl (List.mem_singleton.mp h)
  | a :: t, i, v, q, h => by
    unfold mj_st at h
    by_cases ha : (a.1 == i) = true
    · rw [if_pos ha] at h
      rcases List.mem_cons.mp h with h | h
      · exact Or.inl h
      · obtain ⟨h1, h2⟩ := List.mem_filter.mp h
        exact Or.inr ⟨List.mem_cons_of_mem _ h1, by simpa using h2⟩
    · rw [if_neg ha] at h
      rcases List.mem_cons.mp h with h | h
      · rw [h]; exact Or.inr ⟨List.mem_cons_self, by simpa using ha⟩
      · rcases mj_st_in t i v q h with h | h
        · exact Or.inl h
        · exact Or.inr ⟨List.mem_cons_of_mem _ h.1, h.2⟩
theorem mj_sto {g : mj_G} {lv lv' : List (Nat × Value)} {ls : Array Slot} {n i : Nat} {v : Value} (hc : lv.all (fun q => q.2.category == 1) = true) (hl : mj_st lv i v = lv')
    (h : lv_has ls n ((i, mj_v (mj_ad g) v) :: (mj_lv g lv).filter (fun q => !(q.1 == i) && !(q.1 + 1 == i && q.2.category == 2)))) : lv_has ls n (mj_lv g lv') := by
  refine ⟨h.1, h.2.1, fun q hq => h.2.2 q ?_⟩
  subst hl
  obtain ⟨a, ha, rfl⟩ := List.mem_map.mp hq
  rcases mj_st_in lv i v a ha with rfl | ⟨h1, h2⟩
  · exact List.mem_cons_self
  · refine List.mem_cons_of_mem _ (List.mem_filter.mpr ⟨List.mem_map.mpr ⟨a, h1, rfl⟩, ?_⟩)
    have h3 := List.all_eq_true.mp hc a h1
    simp only [beq_iff_eq] at h3
    simp [h2, mj_cat, h3]
theorem j_istore {i : Nat} {x : Int32} {lv' : List (Nat × Value)} (hd : decode y.2.1 pc = .ok (.istore i, 2)) (hn : i < y.2.2.1) (hc : lv.all (fun q => q.2.category == 1) = true) (hl0 : mj_st lv i (.int x) = lv') (k : J g y d (pc + 2) lv' st F A Q) : J g y d pc lv (.int x :: st) F A Q := by
  intro p e s m args below meth c H locs ls C hDD hK hP hS hl
  exact lv_istore C.1 C.2.1 hd hl hn rfl (fun ls hl => k p e s m args below meth c H locs ls C hDD hK hP hS (mj_sto hc hl0 hl))
theorem j_istore_n {i : Fin 4} {x : Int32} {lv' : List (Nat × Value)} (hd : decode y.2.1 pc = .ok (.istore_n i, 1)) (hn : i.val < y.2.2.1) (hc : lv.all (fun q => q.2.category == 1) = true) (hl0 : mj_st lv i.val (.int x) = lv') (k : J g y d (pc + 1) lv' st F A Q) : J g y d pc lv (.int x :: st) F A Q := by
  intro p e s m args below meth c H locs ls C hDD hK hP hS hl
  exact lv_istore_n C.1 C.2.1 hd rfl hl hn rfl (fun ls hl => k p e s m args below meth c H locs ls C hDD hK hP hS (mj_sto hc hl0 hl))
theorem j_astore_n {i : Fin 4} {x : Nat} {lv' : List (Nat × Value)} (hd : decode y.2.1 pc = .ok (.astore_n i, 1)) (hn : i.val < y.2.2.1) (hc : lv.all (fun q => q.2.category == 1) = true) (hl0 : mj_st lv i.val (.ref x) = lv') (k : J g y d (pc + 1) lv' st F A Q) : J g y d pc lv (.ref x :: st) F A Q := by
  intro p e s m args below meth c H locs ls C hDD hK hP hS hl
  exact lv_astore_n C.1 C.2.1 hd rfl hl hn rfl (fun ls hl => k p e s m args below meth c H locs ls C hDD hK hP hS (mj_sto hc hl0 hl))
theorem j_iinc {i : Nat} {n : Int} {x v : Int32} {lv' : List (Nat × Value)} (hd : decode y.2.1 pc = .ok (.iinc i n, 3)) (hx : lv.lookup i = some (.int x)) (hv : x + Int32.ofInt n = v) (hn : i < y.2.2.1) (hc : lv.all (fun q => q.2.category == 1) = true) (hl0 : mj_st lv i (.int v) = lv') (k : J g y d (pc + 3) lv' st F A Q) : J g y d pc lv st F A Q := by
  intro p e s m args below meth c H locs ls C hDD hK hP hS hl
  obtain ⟨j, hj⟩ : ∃ j : Nat, (mj_lv g lv)[j]? = some (i, .int x) := by
    have hm : (i, Value.int x) ∈ mj_lv g lv := by
      clear hl hc hl0
      induction lv with
      | nil => cases hx
      | cons q t ih =>
        obtain ⟨a, b⟩ := q
        simp only [List.lookup] at hx
        split at hx
        · rename_i he
          cases hx
          rw [beq_iff_eq.mp he]
          exact List.mem_cons_self
        · exact List.mem_cons_of_mem _ (ih hx)
    exact List.getElem?_of_mem hm
  exact lv_iinc C.1 C.2.1 hd hl hj hv hn rfl (fun ls hl => k p e s m args below meth c H locs ls C hDD hK hP hS (mj_sto hc hl0 hl))
theorem j_iadd {a b : Int32} (hd : decode y.2.1 pc = .ok (.iadd, 1)) (k : J g y d (pc + 1) lv (.int (a + b) :: st) F A Q) : J g y d pc lv (.int b :: .int a :: st) F A Q := by
  intro p e s m args below meth c H locs ls C hDD hK hP hS hl
  exact lv_iadd C.1 C.2.1 hd (k p e s m args below meth c H locs ls C hDD hK hP hS hl)
theorem j_isub {a b : Int32} (hd : decode y.2.1 pc = .ok (.isub, 1)) (k : J g y d (pc + 1) lv (.int (a - b) :: st) F A Q) : J g y d pc lv (.int b :: .int a :: st) F A Q := by
  intro p e s m args below meth c H locs ls C hDD hK hP hS hl
  exact lv_isub C.1 C.2.1 hd (k p e s m args below meth c H locs ls C hDD hK hP hS hl)
theorem j_imul {a b : Int32} (hd : decode y.2.1 pc = .ok (.imul, 1)) (k : J g y d (pc + 1) lv (.int (a * b) :: st) F A Q) : J g y d pc lv (.int b :: .int a :: st) F A Q := by
  intro p e s m args below meth c H locs ls C hDD hK hP hS hl
  exact lv_imul C.1 C.2.1 hd (k p e s m args below meth c H locs ls C hDD hK hP hS hl)
theorem j_iand {a b : Int32} (hd : decode y.2.1 pc = .ok (.iand, 1)) (k : J g y d (pc + 1) lv (.int (a &&& b) :: st) F A Q) : J g y d pc lv (.int b :: .int a :: st) F A Q := by
  intro p e s m args below meth c H locs ls C hDD hK hP hS hl
  exact lv_iand C.1 C.2.1 hd (k p e s m args below meth c H locs ls C hDD hK hP hS hl)
theorem j_ior {a b : Int32} (hd : decode y.2.1 pc = .ok (.ior, 1)) (k : J g y d (pc + 1) lv (.int (a ||| b) :: st) F A Q) : J g y d pc lv (.int b :: .int a :: st) F A Q := by
  intro p e s m args below meth c H locs ls C hDD hK hP hS hl
  exact lv_ior C.1 C.2.1 hd (k p e s m args below meth c H locs ls C hDD hK hP hS hl)
theorem j_ixor {a b : Int32} (hd : decode y.2.1 pc = .ok (.ixor, 1)) (k : J g y d (pc + 1) lv (.int (a ^^^ b) :: st) F A Q) : J g y d pc lv (.int b :: .int a :: st) F A Q := by
  intro p e s m args below meth c H locs ls C hDD hK hP hS hl
  exact lv_ixor C.1 C.2.1 hd (k p e s m args below meth c H locs ls C hDD hK hP hS hl)
theorem j_ishl {a b : Int32} (hd : decode y.2.1 pc = .ok (.ishl, 1)) (k : J g y d (pc + 1) lv (.int (a <<< (b &&& 31)) :: st) F A Q) : J g y d pc lv (.int b :: .int a :: st) F A Q := by
  intro p e s m args below meth c H locs ls C hDD hK hP hS hl
  exact lv_ishl C.1 C.2.1 hd (k p e s m args below meth c H locs ls C hDD hK hP hS hl)
theorem j_ishr {a b : Int32} (hd : decode y.2.1 pc = .ok (.ishr, 1)) (k : J g y d (pc + 1) lv (.int (a >>> (b &&& 31)) :: st) F A Q) : J g y d pc lv (.int b :: .int a :: st) F A Q := by
  intro p e s m args below meth c H locs ls C hDD hK hP hS hl
  exact lv_ishr C.1 C.2.1 hd (k p e s m args below meth c H locs ls C hDD hK hP hS hl)
theorem j_idiv {a b : Int32} (hd : decode y.2.1 pc = .ok (.idiv, 1)) (hne : ¬ b = 0) (k : J g y d (pc + 1) lv (.int (a / b) :: st) F A Q) : J g y d pc lv (.int b :: .int a :: st) F A Q := by
  intro p e s m args below meth c H locs ls C hDD hK hP hS hl
  exact lv_idiv C.1 C.2.1 hd hne (k p e s m args below meth c H locs ls C hDD hK hP hS hl)
theorem j_irem {a b : Int32} (hd : decode y.2.1 pc = .ok (.irem, 1)) (hne : ¬ b = 0) (k : J g y d (pc + 1) lv (.int (a - a / b * b) :: st) F A Q) : J g y d pc lv (.int b :: .int a :: st) F A Q := by
  intro p e s m args below meth c H locs ls C hDD hK hP hS hl
  exact lv_irem C.1 C.2.1 hd hne (k p e s m args below meth c H locs ls C hDD hK hP hS hl)
theorem j_iushr {a b v : Int32} (hd : decode y.2.1 pc = .ok (.iushr, 1)) (hv : (a.toUInt32 >>> (b.toUInt32 &&& Int32.toUInt32 31)).toInt32 = v) (k : J g y d (pc + 1) lv (.int v :: st) F A Q) : J g y d pc lv (.int b :: .int a :: st) F A Q := by
  intro p e s m args below meth c H locs ls C hDD hK hP hS hl
  exact lv_iushr C.1 C.2.1 hd hv (k p e s m args below meth c H locs ls C hDD hK hP hS hl)
theorem j_i2l {a : Int32} {v : Int64} (hd : decode y.2.1 pc = .ok (.i2l, 1)) (hv : a.toInt64 = v) (k : J g y d (pc + 1) lv (.long v :: st) F A Q) : J g y d pc lv (.int a :: st) F A Q := by
  intro p e s m args below meth c H locs ls C hDD hK hP hS hl
  exact lv_i2l C.1 C.2.1 hd hv (k p e s m args below meth c H locs ls C hDD hK hP hS hl)
theorem j_i2c {a v : Int32} (hd : decode y.2.1 pc = .ok (.i2c, 1)) (hv : (a.toUInt32 % 65536).toInt32 = v) (k : J g y d (pc + 1) lv (.int v :: st) F A Q) : J g y d pc lv (.int a :: st) F A Q := by
  intro p e s m args below meth c H locs ls C hDD hK hP hS hl
  exact lv_i2c C.1 C.2.1 hd hv (k p e s m args below meth c H locs ls C hDD hK hP hS hl)
theorem j_lcmp {a b : Int64} (hd : decode y.2.1 pc = .ok (.lcmp, 1)) (k : J g y d (pc + 1) lv (.int (lg_cmp a b) :: st) F A Q) : J g y d pc lv (.long b :: .long a :: st) F A Q := by
  intro p e s m args below meth c H locs ls C hDD hK hP hS hl
  exact W.lcmp C.1 C.2.1 hd (k p e s m args below meth c H locs ls C hDD hK hP hS hl)
theorem j_dup {a : Value} (hd : decode y.2.1 pc = .ok (.dup, 1)) (hc : a.category = 1) (k : J g y d (pc + 1) lv (a :: a :: st) F A Q) : J g y d pc lv (a :: st) F A Q := by
  intro p e s m args below meth c H locs ls C hDD hK hP hS hl
  exact lv_dup C.1 C.2.1 hd ((mj_cat _ _).trans hc) (k p e s m args below meth c H locs ls C hDD hK hP hS hl)
theorem j_dup2 {a b : Value} (hd : decode y.2.1 pc = .ok (.dup2, 1)) (hc : a.category = 1) (hc2 : b.category = 1) (k : J g y d (pc + 1) lv (a :: b :: a :: b :: st) F A Q) : J g y d pc lv (a :: b :: st) F A Q := by
  intro p e s m args below meth c H locs ls C hDD hK hP hS hl
  exact lv_dup2_11 C.1 C.2.1 hd ((mj_cat _ _).trans hc) ((mj_cat _ _).trans hc2) (k p e s m args below meth c H locs ls C hDD hK hP hS hl)
theorem j_pop {a : Value} (hd : decode y.2.1 pc = .ok (.pop, 1)) (hc : a.category = 1) (k : J g y d (pc + 1) lv (st) F A Q) : J g y d pc lv (a :: st) F A Q := by
  intro p e s m args below meth c H locs ls C hDD hK hP hS hl
  exact lv_pop C.1 C.2.1 hd ((mj_cat _ _).trans hc) (k p e s m args below meth c H locs ls C hDD hK hP hS hl)
theorem j_goto {off : Int} {tgt : Nat} (hd : decode y.2.1 pc = .ok (.goto off, 3)) (ht : (pc : Int) + off = (tgt : Int)) (k : J g y d tgt lv st F A Q) : J g y d pc lv st F A Q := by
  intro p e s m args below meth c H locs ls C hDD hK hP hS hl
  exact lv_goto C.1 C.2.1 hd ht (k p e s m args below meth c H locs ls C hDD hK hP hS hl)
theorem j_if_eq {a : Int32} {off : Int} {tgt : Nat} (hd : decode y.2.1 pc = .ok (.ifCond .eq off, 3)) (ht : (pc : Int) + off = (tgt : Int)) (kt : a = 0 → J g y d tgt lv st F A Q) (kf : ¬ a = 0 → J g y d (pc + 3) lv st F A Q) : J g y d pc lv (.int a :: st) F A Q := by
  intro p e s m args below meth c H locs ls C hDD hK hP hS hl
  exact lv_if_eq C.1 C.2.1 hd ht (fun h => kt h p e s m args below meth c H locs ls C hDD hK hP hS hl) (fun h => kf h p e s m args below meth c H locs ls C hDD hK hP hS hl)
theorem j_icmp_eq {a b : Int32} {off : Int} {tgt : Nat} (hd : decode y.2.1 pc = .ok (.if_icmp .eq off, 3)) (ht : (pc : Int) + off = (tgt : Int)) (kt : a = b → J g y d tgt lv st F A Q) (kf : ¬ a = b → J g y d (pc + 3) lv st F A Q) : J g y d pc lv (.int b :: .int a :: st) F A Q := by
  intro p e s m args below meth c H locs ls C hDD hK hP hS hl
  exact lv_icmp_eq C.1 C.2.1 hd ht (fun h => kt h p e s m args below meth c H locs ls C hDD hK hP hS hl) (fun h => kf h p e s m args below meth c H locs ls C hDD hK hP hS hl)
theorem j_if_ne {a : Int32} {off : Int} {tgt : Nat} (hd : decode y.2.1 pc = .ok (.ifCond .ne off, 3)) (ht : (pc : Int) + off = (tgt : Int)) (kt : ¬ a = 0 → J g y d tgt lv st F A Q) (kf : a = 0 → J g y d (pc + 3) lv st F A Q) : J g y d pc lv (.int a :: st) F A Q := by
  intro p e s m args below meth c H locs ls C hDD hK hP hS hl
  exact lv_if_ne C.1 C.2.1 hd ht (fun h => kt h p e s m args below meth c H locs ls C hDD hK hP hS hl) (fun h => kf h p e s m args below meth c H locs ls C hDD hK hP hS hl)
theorem j_icmp_ne {a b : Int32} {off : Int} {tgt : Nat} (hd : decode y.2.1 pc = .ok (.if_icmp .ne off, 3)) (ht : (pc : Int) + off = (tgt : Int)) (kt : ¬ a = b → J g y d tgt lv st F A Q) (kf : a = b → J g y d (pc + 3) lv st F A Q) : J g y d pc lv (.int b :: .int a :: st) F A Q := by
  intro p e s m args below meth c H locs ls C hDD hK hP hS hl
  exact lv_icmp_ne C.1 C.2.1 hd ht (fun h => kt h p e s m args below meth c H locs ls C hDD hK hP hS hl) (fun h => kf h p e s m args below meth c H locs ls C hDD hK hP hS hl)
theorem j_if_lt {a : Int32} {off : Int} {tgt : Nat} (hd : decode y.2.1 pc = .ok (.ifCond .lt off, 3)) (ht : (pc : Int) + off = (tgt : Int)) (kt : a < 0 → J g y d tgt lv st F A Q) (kf : ¬ a < 0 → J g y d (pc + 3) lv st F A Q) : J g y d pc lv (.int a :: st) F A Q := by
  intro p e s m args below meth c H locs ls C hDD hK hP hS hl
  exact lv_if_lt C.1 C.2.1 hd ht (fun h => kt h p e s m args below meth c H locs ls C hDD hK hP hS hl) (fun h => kf h p e s m args below meth c H locs ls C hDD hK hP hS hl)
theorem j_icmp_lt {a b : Int32} {off : Int} {tgt : Nat} (hd : decode y.2.1 pc = .ok (.if_icmp .lt off, 3)) (ht : (pc : Int) + off = (tgt : Int)) (kt : a < b → J g y d tgt lv st F A Q) (kf : ¬ a < b → J g y d (pc + 3) lv st F A Q) : J g y d pc lv (.int b :: .int a :: st) F A Q := by
  intro p e s m args below meth c H locs ls C hDD hK hP hS hl
  exact lv_icmp_lt C.1 C.2.1 hd ht (fun h => kt h p e s m args below meth c H locs ls C hDD hK hP hS hl) (fun h => kf h p e s m args below meth c H locs ls C hDD hK hP hS hl)
theorem j_if_ge {a : Int32} {off : Int} {tgt : Nat} (hd : decode y.2.1 pc = .ok (.ifCond .ge off, 3)) (ht : (pc : Int) + off = (tgt : Int)) (kt : 0 ≤ a → J g y d tgt lv st F A Q) (kf : ¬ 0 ≤ a → J g y d (pc + 3) lv st F A Q) : J g y d pc lv (.int a :: st) F A Q := by
  intro p e s m args below meth c H locs ls C hDD hK hP hS hl
  exact lv_if_ge C.1 C.2.1 hd ht (fun h => kt h p e s m args below meth c H locs ls C hDD hK hP hS hl) (fun h => kf h p e s m args below meth c H locs ls C hDD hK hP hS hl)
theorem j_icmp_ge {a b : Int32} {off : Int} {tgt : Nat} (hd : decode y.2.1 pc = .ok (.if_icmp .ge off, 3)) (ht : (pc : Int) + off = (tgt : Int)) (kt : b ≤ a → J g y d tgt lv st F A Q) (kf : ¬ b ≤ a → J g y d (pc + 3) lv st F A Q) : J g y d pc lv (.int b :: .int a :: st) F A Q := by
  intro p e s m args below meth c H locs ls C hDD hK hP hS hl
  exact lv_icmp_ge C.1 C.2.1 hd ht (fun h => kt h p e s m args below meth c H locs ls C hDD hK hP hS hl) (fun h => kf h p e s m args below meth c H locs ls C hDD hK hP hS hl)
theorem j_if_gt {a : Int32} {off : Int} {tgt : Nat} (hd : decode y.2.1 pc = .ok (.ifCond .gt off, 3)) (ht : (pc : Int) + off = (tgt : Int)) (kt : 0 < a → J g y d tgt lv st F A Q) (kf : ¬ 0 < a → J g y d (pc + 3) lv st F A Q) : J g y d pc lv (.int a :: st) F A Q := by
  intro p e s m args below meth c H locs ls C hDD hK hP hS hl
  exact lv_if_gt C.1 C.2.1 hd ht (fun h => kt h p e s m args below meth c H locs ls C hDD hK hP hS hl) (fun h => kf h p e s m args below meth c H locs ls C hDD hK hP hS hl)
theorem j_icmp_gt {a b : Int32} {off : Int} {tgt : Nat} (hd : decode y.2.1 pc = .ok (.if_icmp .gt off, 3)) (ht : (pc : Int) + off = (tgt : Int)) (kt : b < a → J g y d tgt lv st F A Q) (kf : ¬ b < a → J g y d (pc + 3) lv st F A Q) : J g y d pc lv (.int b :: .int a :: st) F A Q := by
  intro p e s m args below meth c H locs ls C hDD hK hP hS hl
  exact lv_icmp_gt C.1 C.2.1 hd ht (fun h => kt h p e s m args below meth c H locs ls C hDD hK hP hS hl) (fun h => kf h p e s m args below meth c H locs ls C hDD hK hP hS hl)
theorem j_if_le {a : Int32} {off : Int} {tgt : Nat} (hd : decode y.2.1 pc = .ok (.ifCond .le off, 3)) (ht : (pc : Int) + off = (tgt : Int)) (kt : a ≤ 0 → J g y d tgt lv st F A Q) (kf : ¬ a ≤ 0 → J g y d (pc + 3) lv st F A Q) : J g y d pc lv (.int a :: st) F A Q := by
  intro p e s m args below meth c H locs ls C hDD hK hP hS hl
  exact lv_if_le C.1 C.2.1 hd ht (fun h => kt h p e s m args below meth c H locs ls C hDD hK hP hS hl) (fun h => kf h p e s m args below meth c H locs ls C hDD hK hP hS hl)
theorem j_icmp_le {a b : Int32} {off : Int} {tgt : Nat} (hd : decode y.2.1 pc = .ok (.if_icmp .le off, 3)) (ht : (pc : Int) + off = (tgt : Int)) (kt : a ≤ b → J g y d tgt lv st F A Q) (kf : ¬ a ≤ b → J g y d (pc + 3) lv st F A Q) : J g y d pc lv (.int b :: .int a :: st) F A Q := by
  intro p e s m args below meth c H locs ls C hDD hK hP hS hl
  exact lv_icmp_le C.1 C.2.1 hd ht (fun h => kt h p e s m args below meth c H locs ls C hDD hK hP hS hl) (fun h => kf h p e s m args below meth c H locs ls C hDD hK hP hS hl)
theorem j_tIn {dflt lo hi : Int} {offs : Array Int} {len : Nat} {x : Int32} {off : Int} {tgt : Nat} (hd : decode y.2.1 pc = .ok (.tableswitch dflt lo hi offs, len)) (h1 : ¬ x.toInt < lo) (h2 : ¬ hi < x.toInt) (ho : offs[(x.toInt - lo).toNat]? = some off) (ht : (pc : Int) + off = (tgt : Int)) (k : J g y d tgt lv st F A Q) : J g y d pc lv (.int x :: st) F A Q := by
  intro p e s m args below meth c H locs ls C hDD hK hP hS hl
  exact lv_tableIn C.1 C.2.1 hd h1 h2 ho ht (k p e s m args below meth c H locs ls C hDD hK hP hS hl)
theorem j_tOut {dflt lo hi : Int} {offs : Array Int} {len : Nat} {x : Int32} {tgt : Nat} (hd : decode y.2.1 pc = .ok (.tableswitch dflt lo hi offs, len)) (h : x.toInt < lo ∨ hi < x.toInt) (ht : (pc : Int) + dflt = (tgt : Int)) (k : J g y d tgt lv st F A Q) : J g y d pc lv (.int x :: st) F A Q := by
  intro p e s m args below meth c H locs ls C hDD hK hP hS hl
  exact lv_tableOut C.1 C.2.1 hd h ht (k p e s m args below meth c H locs ls C hDD hK hP hS hl)
theorem j_iret {x : Int32} {ty : FieldType} (hd : decode y.2.1 pc = .ok (.ireturn, 1)) (hr : y.2.2.2 = some ty) (hn : narrow ty (.int x) = .int x) (q : Q (some (.int x)) F A) : J g y d pc lv [.int x] F A Q := by
  intro p e s m args below meth c H locs ls C hDD hK hP hS hl
  exact W.zret C.1 C.2.1 (C.2.2.1.trans hr) hn (fun t ht hW => ⟨⟨some (.int x), F, A, rfl, q, by rw [ht]; exact hP⟩, hS.F ht⟩) hS.2.2 hd C.2.2.2.2.2.2
theorem j_vret (hd : decode y.2.1 pc = .ok (.return_, 1)) (hr : y.2.2.2 = none) (q : Q none F A) : J g y d pc lv [] F A Q := by
  intro p e s m args below meth c H locs ls C hDD hK hP hS hl
  exact W.vret C.1 C.2.1 (C.2.2.1.trans hr) (fun t ht hW => ⟨⟨none, F, A, rfl, q, by rw [ht]; exact hP⟩, hS.F ht⟩) hS.2.2 hd C.2.2.2.2.2.2
def mj_FL (own : String) (idx ci s : Nat) : Prop := ∃ q : vw_C, vwCl[ci]? = some q ∧ s < q.2.2 ∧ Cond.fieldLink own idx (q.2.1 s).1 (q.2.1 s).2.1 (q.2.1 s).2.2.1 ∈ mj_TB
def mj_FP (own : String) (idx ci s : Nat) (ty : FieldType) : Prop := ∃ q : vw_C, vwCl[ci]? = some q ∧ s < q.2.2 ∧ Cond.fieldLink own idx (q.2.1 s).1 (q.2.1 s).2.1 (q.2.1 s).2.2.1 ∈ mj_TB ∧ (q.2.1 s).2.2.2 = false ∧ parseFieldDescriptor (q.2.1 s).2.2.1 = some ty
theorem mj_inX0 : ∀ w ∈ u_ws RX0 TX0 7, w ∈ mj_TB := mj_ins _ [113, 115, 117, 119, 121, 123, 125] (by decide +kernel) (by decide +kernel)
theorem mj_inX1 : ∀ w ∈ u_ws RX1 TX1 4, w ∈ mj_TB := mj_ins _ [140, 142, 144, 146] (by decide +kernel) (by decide +kernel)
theorem mj_inX2 : ∀ w ∈ u_ws RX2 TX2 7, w ∈ mj_TB := mj_ins _ [198, 200, 202, 204, 206, 208, 210] (by decide +kernel) (by decide +kernel)
theorem mj_inX3 : ∀ w ∈ u_ws RX3 TX3 9, w ∈ mj_TB := mj_ins _ [233, 235, 237, 239, 241, 243, 245, 247, 249] (by decide +kernel) (by decide +kernel)
theorem mj_inX4 : ∀ w ∈ u_ws RX4 TX4 5, w ∈ mj_TB := mj_ins _ [168, 170, 172, 174, 176] (by decide +kernel) (by decide +kernel)
theorem mj_inX5 : ∀ w ∈ u_ws RX5 TX5 17, w ∈ mj_TB := mj_ins _ [415, 417, 419, 421, 423, 425, 427, 429, 431, 433, 435, 437, 439, 441, 443, 445, 447] (by decide +kernel) (by decide +kernel)
theorem mj_inX6 : ∀ w ∈ u_ws RX6 TX6 27, w ∈ mj_TB := mj_ins _ [793, 795, 797, 799, 801, 803, 805, 807, 809, 811, 813, 815, 817, 819, 821, 823, 825, 827, 829, 831, 833, 835, 837, 839, 841, 843, 845] (by decide +kernel) (by decide +kernel)
theorem mj_cls (ci : Nat) (q : vw_C) (h : vwCl[ci]? = some q) : (∀ w ∈ u_ws q.1 q.2.1 q.2.2, w ∈ mj_TB) ∧ (∃ ty0 : Nat → FieldType, ∀ k, k < q.2.2 → parseFieldDescriptor (q.2.1 k).2.2.1 = some (ty0 k)) ∧ ∀ a, a < q.2.2 → ∀ b, b < q.2.2 → a ≠ b → (q.2.1 a).2.1 ≠ (q.2.1 b).2.1 := by
  match ci, h with
  | 0, h => cases h; exact ⟨mj_inX0, ⟨tyX0, tyX0_ok⟩, nmX0⟩
  | 1, h => cases h; exact ⟨mj_inX1, ⟨tyX1, tyX1_ok⟩, nmX1⟩
  | 2, h => cases h; exact ⟨mj_inX2, ⟨tyX2, tyX2_ok⟩, nmX2⟩
  | 3, h => cases h; exact ⟨mj_inX3, ⟨tyX3, tyX3_ok⟩, nmX3⟩
  | 4, h => cases h; exact ⟨mj_inX4, ⟨tyX4, tyX4_ok⟩, nmX4⟩
  | 5, h => cases h; exact ⟨mj_inX5, ⟨tyX5, tyX5_ok⟩, nmX5⟩
  | 6, h => cases h; exact ⟨mj_inX6, ⟨tyX6, tyX6_ok⟩, nmX6⟩
  | k + 7, h => simp [vwCl] at h
theorem j_get {idx b ci i : Nat} {ts : List Value} {v0 v : Value} (hd : decode y.2.1 pc = .ok (.getfield idx, 3)) (fl : mj_FL y.1.cls idx ci i) (hb : b < (mj_n g)) (hsh : mj_sh g b = .inr (ci, ts)) (ht : ts[i]? = some v0) (hv : ∀ ad : Nat → Nat, mj_f ad (F b) i v0 = mj_v ad v) (k : J g y d (pc + 3) lv (v :: st) F A Q) : J g y d pc lv (.ref b :: st) F A Q := by
  intro p e s m args below meth c H locs ls C hDD hK hP hS hl
  obtain ⟨q, h1, h2, h3⟩ := fl
  have he := mj_w_at g F A hb
  rw [hsh] at he
  exact va_get (D := mj_D g) (ci := ci) (C := q.1) (T := q.2.1) (N := q.2.2) (Ts := mj_ws y) C.1 C.2.1 C.2.2.2.2.2.1 (fun w hw => List.mem_cons_of_mem _ ((mj_cls ci q h1).1 w hw)) C.2.2.2.2.1 hK hP b he h1 i h2 (C.2.2.2.2.2.1 _ (List.mem_cons_of_mem _ h3)) (fun _ h9 => h9) (by rw [List.getElem?_mapIdx, ht]; exact congrArg some (hv (mj_ad g))) hd (k p e s m args below meth c H locs ls C hDD hK hP hS hl)
theorem j_getI {idx b ci i : Nat} {ts : List Value} {z : Int32} (hd : decode y.2.1 pc = .ok (.getfield idx, 3)) (fl : mj_FL y.1.cls idx ci i) (hb : b < (mj_n g)) (hsh : mj_sh g b = .inr (ci, ts)) (ht : ts[i]? = some (.int z)) (k : J g y d (pc + 3) lv (.int (F b i) :: st) F A Q) : J g y d pc lv (.ref b :: st) F A Q := j_get hd fl hb hsh ht (fun _ => rfl) k
theorem j_getR {idx b ci i r : Nat} {ts : List Value} (hd : decode y.2.1 pc = .ok (.getfield idx, 3)) (fl : mj_FL y.1.cls idx ci i) (hb : b < (mj_n g)) (hsh : mj_sh g b = .inr (ci, ts)) (ht : ts[i]? = some (.ref r)) (k : J g y d (pc + 3) lv (.ref r :: st) F A Q) : J g y d pc lv (.ref b :: st) F A Q := j_get hd fl hb hsh ht (fun _ => rfl) k
theorem mj_put_eq (ad : Nat → Nat) (f : Nat → Int32) (i : Nat) (x z : Int32) (ts : List Value) (ht : ts[i]? = some (.int z)) : (ts.mapIdx (mj_f ad f)).set i (.int x) = ts.mapIdx (mj_f ad (upd f i x)) := by
  apply List.ext_getElem?
  intro j
  rw [List.getElem?_set, List.getElem?_mapIdx, List.getElem?_mapIdx]
  by_cases hj : i = j
  · subst hj
    have hlt : i < ts.length := (List.getElem?_eq_some_iff.mp ht).1
    rw [if_pos rfl, if_pos (by simpa using hlt), ht]
    simp [mj_f, upd]
  · rw [if_neg hj]
    cases hq : ts[j]? with
    | none => rfl
    | some v =>
      have : j ≠ i := fun h => hj h.symm
      cases v <;> simp [mj_f, upd, this]
theorem j_put {idx b ci i : Nat} {ts : List Value} {z x : Int32} {ty : FieldType} (hd : decode y.2.1 pc = .ok (.putfield idx, 3)) (fp : mj_FP y.1.cls idx ci i ty) (hb : b < (mj_n g)) (hsh : mj_sh g b = .inr (ci, ts)) (ht : ts[i]? = some (.int z)) (hn : narrow ty (.int x) = .int x) (hfit : fits ty (.int x) = true) (k : J g y d (pc + 3) lv st (mj_u F b i x) A Q) : J g y d pc lv (.int x :: .ref b :: st) F A Q := by
  intro p e s m args below meth c H locs ls C hDD hK hP hS hl
  obtain ⟨q, h1, h2, h3, h4, h5⟩ := fp
  obtain ⟨c1, ⟨ty0, c2⟩, c3⟩ := mj_cls ci q h1
  have he := mj_w_at g F A hb
  rw [hsh] at he
  have hlt : i < ts.length := (List.getElem?_eq_some_iff.mp ht).1
  refine va_put (v := .int x) (D := mj_D g) (ci := ci) (C := q.1) (T := q.2.1) (N := q.2.2) (Ts := mj_ws y) C.1 C.2.1 C.2.2.2.2.2.1 (fun w hw => List.mem_cons_of_mem _ (c1 w hw)) ty0 c2 c3 C.2.2.2.2.1 hK hP (hDD.1.D F A) hS b he h1 i h2 (C.2.2.2.2.2.1 _ (List.mem_cons_of_mem _ h3)) (fun _ h9 => h9) h4 h5 hn hfit (by simpa using hlt) hd (fun H1 locs1 hP1 _ hS1 => ?_)
  rw [mj_w_set g (F' := mj_u F b i x) (A' := A) hb (by rw [hsh, mj_u_at]; show _ = Sum.inr _; rw [mj_put_eq _ _ _ _ z _ ht]) (fun j hj => (mj_u_ne F x hj).symm) (fun _ _ => rfl)] at hP1
  exact k p e s m args below meth c H1 locs1 ls C hDD hK hP1 hS1 hl
theorem j_putI {idx b ci i : Nat} {ts : List Value} {z x : Int32} (hd : decode y.2.1 pc = .ok (.putfield idx, 3)) (fp : mj_FP y.1.cls idx ci i .int) (hb : b < (mj_n g)) (hsh : mj_sh g b = .inr (ci, ts)) (ht : ts[i]? = some (.int z)) (k : J g y d (pc + 3) lv st (mj_u F b i x) A Q) : J g y d pc lv (.int x :: .ref b :: st) F A Q := j_put hd fp hb hsh ht rfl rfl k
theorem j_iald {b n : Nat} {z : Nat → Int32} {i : Int32} (hd : decode y.2.1 pc = .ok (.iaload, 1)) (hb : b < (mj_n g)) (hsh : mj_sh g b = .inl (0, n, .inl z)) (hi : vp_in i n) (k : J g y d (pc + 1) lv (.int (A b i.toNatClampNeg) :: st) F A Q) : J g y d pc lv (.int i :: .ref b :: st) F A Q := by
  intro p e s m args below meth c H locs ls C hDD hK hP hS hl
  have he := mj_w_at g F A hb
  rw [hsh] at he
  exact va_iald C.1 C.2.1 hK hP b 0 he rfl hi hd (k p e s m args below meth c H locs ls C hDD hK hP hS hl)
theorem j_cald {b n : Nat} {z : Nat → Int32} {i : Int32} (hd : decode y.2.1 pc = .ok (.caload, 1)) (hb : b < (mj_n g)) (hsh : mj_sh g b = .inl (1, n, .inl z)) (hi : vp_in i n) (k : J g y d (pc + 1) lv (.int (A b i.toNatClampNeg) :: st) F A Q) : J g y d pc lv (.int i :: .ref b :: st) F A Q := by
  intro p e s m args below meth c H locs ls C hDD hK hP hS hl
  have he := mj_w_at g F A hb
  rw [hsh] at he
  exact va_cald C.1 C.2.1 hK hP b 1 he rfl hi hd (k p e s m args below meth c H locs ls C hDD hK hP hS hl)
theorem j_iast {b n : Nat} {z : Nat → Int32} {i x : Int32} (hd : decode y.2.1 pc = .ok (.iastore, 1)) (hb : b < (mj_n g)) (hsh : mj_sh g b = .inl (0, n, .inl z)) (hi : vp_in i n) (k : J g y d (pc + 1) lv st F (mj_u A b i.toNatClampNeg x) Q) : J g y d pc lv (.int x :: .int i :: .ref b :: st) F A Q := by
  intro p e s m args below meth c H locs ls C hDD hK hP hS hl
  have he := mj_w_at g F A hb
  rw [hsh] at he
  refine va_iast C.1 C.2.1 hK hP (hDD.1.D F A) hS b 0 he rfl hi hd (fun H1 locs1 hP1 _ hS1 => ?_)
  rw [mj_w_set g (F' := F) (A' := mj_u A b i.toNatClampNeg x) hb (by rw [hsh, mj_u_at]; rfl) (fun _ _ => rfl) (fun j hj => (mj_u_ne A x hj).symm)] at hP1
  exact k p e s m args below meth c H1 locs1 ls C hDD hK hP1 hS1 hl
theorem j_cast {b n : Nat} {z : Nat → Int32} {i x : Int32} (hd : decode y.2.1 pc = .ok (.castore, 1)) (hb : b < (mj_n g)) (hsh : mj_sh g b = .inl (1, n, .inl z)) (hi : vp_in i n) (k : J g y d (pc + 1) lv st F (mj_u A b i.toNatClampNeg (vp_nar .char x)) Q) : J g y d pc lv (.int x :: .int i :: .ref b :: st) F A Q := by
  intro p e s m args below meth c H locs ls C hDD hK hP hS hl
  have he := mj_w_at g F A hb
  rw [hsh] at he
  refine va_cast C.1 C.2.1 hK hP (hDD.1.D F A) hS b 1 he rfl hi hd (fun H1 locs1 hP1 _ hS1 => ?_)
  rw [mj_w_set g (F' := F) (A' := mj_u A b i.toNatClampNeg (vp_nar .char x)) hb (by rw [hsh, mj_u_at]; rfl) (fun _ _ => rfl) (fun j hj => (mj_u_ne A _ hj).symm)] at hP1
  exact k p e s m args below meth c H1 locs1 ls C hDD hK hP1 hS1 hl
theorem j_alen {b t n : Nat} {x : (Nat → Int32) ⊕ (Nat → Int64) ⊕ (Nat → UInt32) ⊕ (Nat → UInt64) ⊕ (Nat → Option Nat)} {v : Int32} (hd : decode y.2.1 pc = .ok (.arraylength, 1)) (hb : b < (mj_n g)) (hsh : mj_sh g b = .inl (t, n, x)) (ht : t < 3) (hv : Int32.ofNat n = v) (k : J g y d (pc + 1) lv (.int v :: st) F A Q) : J g y d pc lv (.ref b :: st) F A Q := by
  intro p e s m args below meth c H locs ls C hDD hK hP hS hl
  have he := mj_w_at g F A hb
  rw [hsh] at he
  match t, ht with
  | 0, _ => exact va_alen C.1 C.2.1 hK hP b 0 he rfl hv hd (k p e s m args below meth c H locs ls C hDD hK hP hS hl)
  | 1, _ => exact va_alen C.1 C.2.1 hK hP b 1 he rfl hv hd (k p e s m args below meth c H locs ls C hDD hK hP hS hl)
  | 2, _ => exact va_alen C.1 C.2.1 hK hP b 2 he rfl hv hd (k p e s m args below meth c H locs ls C hDD hK hP hS hl)
theorem j_aald {b n : Nat} {z : Nat → Option Nat} {i : Int32} (hd : decode y.2.1 pc = .ok (.aaload, 1)) (hb : b < (mj_n g)) (hsh : mj_sh g b = .inl (2, n, .inr (.inr (.inr (.inr z))))) (hi : vp_in i n) (k : J g y d (pc + 1) lv (.ref (A b i.toNatClampNeg).toNatClampNeg :: st) F A Q) : J g y d pc lv (.int i :: .ref b :: st) F A Q := by
  intro p e s m args below meth c H locs ls C hDD hK hP hS hl
  have he := mj_w_at g F A hb
  rw [hsh] at he
  exact va_aldq C.1 C.2.1 hK hP b 2 he rfl hi hd (k p e s m args below meth c H locs ls C hDD hK hP hS hl)
theorem j_aast {b n r : Nat} {z : Nat → Option Nat} {i : Int32} {ts : List Value} (hd : decode y.2.1 pc = .ok (.aastore, 1)) (hb : b < (mj_n g)) (hsh : mj_sh g b = .inl (2, n, .inr (.inr (.inr (.inr z))))) (hr : r < (mj_n g)) (hr2 : r < 2 ^ 31) (hsr : mj_sh g r = .inr (0, ts)) (hi : vp_in i n) (k : J g y d (pc + 1) lv st F (mj_u A b i.toNatClampNeg (nI r)) Q) : J g y d pc lv (.ref r :: .int i :: .ref b :: st) F A Q := by
  intro p e s m args below meth c H locs ls C hDD hK hP hS hl
  have he := mj_w_at g F A hb
  rw [hsh] at he
  have her := mj_w_at g F A hr
  rw [hsr] at her
  refine va_astq C.1 C.2.1 hK hP (hDD.1.D F A) hS b 2 r 0 (r := (RX0, TX0, 7)) he rfl her rfl hi hd (fun H1 locs1 hP1 _ hS1 => ?_)
  rw [mj_w_set g (F' := F) (A' := mj_u A b i.toNatClampNeg (nI r)) hb (by
    rw [hsh, mj_u_at]
    refine congrArg (fun f => (Sum.inl (mj_dA g 2, n, Sum.inr (Sum.inr (Sum.inr (Sum.inr f)))) : va_E)) (funext fun j => ?_)
    by_cases hj : j = i.toNatClampNeg
    · subst hj
      simp [va_up, upd, nI_clamp (n := r) hr2]
    · simp [va_up, upd, hj]) (fun _ _ => rfl) (fun j hj => (mj_u_ne A _ hj).symm)] at hP1
  exact k p e s m args below meth c H1 locs1 ls C hDD hK hP1 hS1 hl
theorem mj_cb {y y' : mj_Y} {d n idx : Nat} {p : Program} {s : State} {m : MethodId} {args : Array Value} {meth : Method} {c : Code} (C : mj_Cx y p s m args meth c) (ok : mj_OK y' n) (hl : Cond.methodLink y.1.cls idx y'.1 ∈ mj_TB) : CallB (mj_rm (d + 1)) s args y.1.cls idx y'.1 y'.2.1 y'.2.2.1 y'.2.2.2 (mj_ws y') (mj_rm d) 0 0 n :=
  callB_of n C.2.2.2.2.2.1 (mj_good2 y y' ok.1) rfl rfl rfl (C.2.2.2.2.2.1 _ (List.mem_cons_of_mem _ ok.2.1)) (C.2.2.2.2.2.1 _ (List.mem_cons_of_mem _ hl)) ok.2.2.1 ⟨Nat.le_refl _, by have h := ok.2.2.2.2; show 8 + (y'.2.2.1 + 11) + 64 * d ≤ 64 * (d + 1); omega⟩
theorem j_callV {y' : mj_Y} {idx n b ci : Nat} {As : List Value} {Q' : Option Value → mj_S → mj_S → Prop} {ts : List Value} {q : vw_C} (hd : decode y.2.1 pc = .ok (.invokevirtual idx, 3)) (hl0 : Cond.methodLink y.1.cls idx y'.1 ∈ mj_TB) (ok : mj_OK y' n) (hi : Cond.instanceMethod y'.1 ∈ mj_TB) (hse : Cond.selects y'.1.cls y'.1 y'.1 ∈ mj_TB) (hb : b < (mj_n g)) (hsh : mj_sh g b = .inr (ci, ts)) (hc : vwCl[ci]? = some q) (hq : q.1 = y'.1.cls) (hn : As.length = n) (hlen : (lg_sl (.ref b :: As)).length ≤ y'.2.2.1) (hr : (st.map fun v => v.category).sum ≤ 8)
    (hM : J g y' d 0 (lv_args 0 (.ref b :: As)) [] F A Q') (k : ∀ (v : Option Value) (F' A' : mj_S), Q' v F' A' → J g y (d + 1) (pc + 3) lv (v.toList ++ st) F' A' Q) : J g y (d + 1) pc lv (As.reverse ++ .ref b :: st) F A Q := by
  intro p e s m args below meth c H locs ls C hDD hK hP hS hl
  have he := mj_w_at g F A hb
  rw [hsh] at he
  have hrecv := va_recv hK hP hc he
  rw [hq] at hrecv
  refine mj_call (va_runV (As := As.map (mj_v (mj_ad g))) (rest := st.map (mj_v (mj_ad g))) (b := mj_ad g b) ⟨C.1, C.2.1, C.2.2.2.1, C.2.2.2.2.1, C.2.2.2.2.2.1⟩ (mj_met ok.2.2.2.1 hlen hDD.1 hM) ⟨mj_cb C ok hl0, C.2.2.2.2.2.1 _ (List.mem_cons_of_mem _ hi), C.2.2.2.2.2.1 _ (List.mem_cons_of_mem _ hse)⟩ ⟨mj_blind g _ F A, hrecv, fun U hU hW => ⟨rfl, by rw [hU]; exact hP, va_K.moved hW.alike hK, mj_NW.warm hW hDD.2⟩⟩ rfl (by rw [List.length_map]; exact hn) hl.1 (by show List.map _ (As.reverse ++ .ref b :: st) = _; rw [List.map_append, List.map_reverse]; rfl) (lv_room (by rw [mj_sum]; exact hr)) hd ⟨Nat.le_refl _, Nat.le_refl _⟩) hS (fun v F' A' H1 locs1 hq1 hP1 hS1 => ?_)
  rw [mj_tl]
  exact k v F' A' hq1 p e s m args below meth c H1 locs1 ls C hDD hK hP1 hS1 hl
theorem j_callS {y' : mj_Y} {idx n : Nat} {As : List Value} {Q' : Option Value → mj_S → mj_S → Prop} (hd : decode y.2.1 pc = .ok (.invokestatic idx, 3)) (hl0 : Cond.methodLink y.1.cls idx y'.1 ∈ mj_TB) (ok : mj_OK y' n) (hi : Cond.static y'.1 ∈ mj_TB) (hn : As.length = n) (hlen : (lg_sl As).length ≤ y'.2.2.1) (hr : (st.map fun v => v.category).sum ≤ 8)
    (hM : J g y' d 0 (lv_args 0 As) [] F A Q') (k : ∀ (v : Option Value) (F' A' : mj_S), Q' v F' A' → J g y (d + 1) (pc + 3) lv (v.toList ++ st) F' A' Q) : J g y (d + 1) pc lv (As.reverse ++ st) F A Q := by
  intro p e s m args below meth c H locs ls C hDD hK hP hS hl
  refine mj_call (va_runS (As := As.map (mj_v (mj_ad g))) (rest := st.map (mj_v (mj_ad g))) ⟨C.1, C.2.1, C.2.2.2.1, C.2.2.2.2.1, C.2.2.2.2.2.1⟩ (mj_met ok.2.2.2.1 hlen hDD.1 hM) ⟨mj_cb C ok hl0, C.2.2.2.2.2.1 _ (List.mem_cons_of_mem _ hi)⟩ ⟨mj_blind g _ F A, fun U hU hW => ⟨rfl, by rw [hU]; exact hP, va_K.moved hW.alike hK, mj_NW.warm hW hDD.2⟩⟩ rfl (by rw [List.length_map]; exact hn) hl.1 (by show List.map _ (As.reverse ++ st) = _; rw [List.map_append, List.map_reverse]) (lv_room (by rw [mj_sum]; exact hr)) hd ⟨Nat.le_refl _, Nat.le_refl _⟩) hS (fun v F' A' H1 locs1 hq1 hP1 hS1 => ?_)
  rw [mj_tl]
  exact k v F' A' hq1 p e s m args below meth c H1 locs1 ls C hDD hK hP1 hS1 hl
theorem mj_nest {w : Cond} {args : Array Value} {s : State} (hw : w.onTables = true) (h : w.before args s = true) : va_Nw w s := va_Nw.of hw h
theorem j_callSN {y' : mj_Y} {idx n : Nat} {host : String} {As : List Value} {Q' : Option Value → mj_S → mj_S → Prop} (hd : decode y.2.1 pc = .ok (.invokestatic idx, 3)) (hl0 : (y.1.cls, idx, y'.1, host) ∈ mj_nests) (ok : mj_OK y' n) (hi : Cond.static y'.1 ∈ mj_TB) (hn : As.length = n) (hlen : (lg_sl As).length ≤ y'.2.2.1) (hr : (st.map fun v => v.category).sum ≤ 8)
    (hM : J g y' d 0 (lv_args 0 As) [] F A Q') (k : ∀ (v : Option Value) (F' A' : mj_S), Q' v F' A' → J g y (d + 1) (pc + 3) lv (v.toList ++ st) F' A' Q) : J g y (d + 1) pc lv (As.reverse ++ st) F A Q := by
  intro p e s m args below meth c H locs ls C hDD hK hP hS hl
  have cn : va_CN (mj_rm (d + 1)) s args y.1.cls idx y'.1 host y'.2.1 y'.2.2.1 y'.2.2.2 (mj_ws y') (mj_rm d) 0 0 n := va_cnB n C.2.2.2.2.2.1 (mj_good2 y y' ok.1) rfl rfl rfl (hDD.2 _ hl0) (C.2.2.2.2.2.1 _ (List.mem_cons_of_mem _ ok.2.1)) ok.2.2.1 ⟨Nat.le_refl _, by have h := ok.2.2.2.2; show 8 + (y'.2.2.1 + 11) + 64 * d ≤ 64 * (d + 1); omega⟩
  refine mj_call (va_runSN (As := As.map (mj_v (mj_ad g))) (rest := st.map (mj_v (mj_ad g))) ⟨C.1, C.2.1, C.2.2.2.1, C.2.2.2.2.1, C.2.2.2.2.2.1⟩ (mj_met ok.2.2.2.1 hlen hDD.1 hM) ⟨cn, C.2.2.2.2.2.1 _ (List.mem_cons_of_mem _ hi), trivial⟩ ⟨mj_blind g _ F A, fun U hU hW => ⟨rfl, by rw [hU]; exact hP, va_K.moved hW.alike hK, mj_NW.warm hW hDD.2⟩⟩ rfl (by rw [List.length_map]; exact hn) hl.1 (by show List.map _ (As.reverse ++ st) = _; rw [List.map_append, List.map_reverse]) (lv_room (by rw [mj_sum]; exact hr)) hd ⟨Nat.le_refl _, Nat.le_refl _⟩) hS (fun v F' A' H1 locs1 hq1 hP1 hS1 => ?_)
  rw [mj_tl]
  exact k v F' A' hq1 p e s m args below meth c H1 locs1 ls C hDD hK hP1 hS1 hl
def mj_min (x y : Int32) : Int32 := if y < x then y else x
theorem j_min {idx : Nat} {a b : Int32} (hd : decode y.2.1 pc = .ok (.invokestatic idx, 3)) (h1 : Cond.methodLink y.1.cls idx Lib.Math.min.name ∈ mj_TB) (h2 : Cond.static Lib.Math.min.name ∈ mj_TB) (h3 : Cond.initialized "java/lang/Math" ∈ mj_TB) (h4 : Cond.code Lib.Math.min.name Lib.Math.min.code 2 (some .int) ∈ mj_TB) (hr : (st.map fun v => v.category).sum ≤ 8) (k : J g y (d + 1) (pc + 3) lv (.int (mj_min a b) :: st) F A Q) : J g y (d + 1) pc lv (.int b :: .int a :: st) F A Q := by
  intro p e s m args below meth c H locs ls C hDD hK hP hS hl
  exact va_mmin C.1 C.2.1 (C.2.2.2.1.trans hl.1.symm) C.2.2.2.2.1 (C.2.2.2.2.2.1 _ (List.mem_cons_of_mem _ h1)) (C.2.2.2.2.2.1 _ (List.mem_cons_of_mem _ h2)) (C.2.2.2.2.2.1 _ (List.mem_cons_of_mem _ h3)) (C.2.2.2.2.2.1 _ (List.mem_cons_of_mem _ h4)) (Nat.le_add_left 1 d) (by rw [mj_sum]; show _ ≤ 64 * (d + 1); omega) (Nat.le_refl _) (Nat.le_refl _) hd (k p e s m args below meth c H locs ls C hDD hK hP hS hl)
theorem j_copy {idx a b na nb : Nat} {za zb : Nat → Int32} {n : Int32} (hd : decode y.2.1 pc = .ok (.invokestatic idx, 3)) (h1 : Cond.methodLink y.1.cls idx arraycopyName ∈ mj_TB) (h2 : Cond.native arraycopyName ∈ mj_TB) (h3 : Cond.static arraycopyName ∈ mj_TB) (h4 : Cond.initialized "java/lang/System" ∈ mj_TB) (ha : a < (mj_n g)) (hsa : mj_sh g a = .inl (0, na, .inl za)) (hb : b < (mj_n g)) (hsb : mj_sh g b = .inl (0, nb, .inl zb)) (hn : ¬ n < 0) (hna : n.toNatClampNeg ≤ na) (hnb : n.toNatClampNeg ≤ nb) (hr : (st.map fun v => v.category).sum ≤ 8) (k : J g y (d + 1) (pc + 3) lv st F (mj_a A b (va_cpy (A a) (A b) 0 0 n.toNatClampNeg)) Q) : J g y (d + 1) pc lv (.int n :: .int 0 :: .ref b :: .int 0 :: .ref a :: st) F A Q := by
  intro p e s m args below meth c H locs ls C hDD hK hP hS hl
  have hea := mj_w_at g F A ha
  rw [hsa] at hea
  have heb := mj_w_at g F A hb
  rw [hsb] at heb
  refine va_copyi (ty := .int) C.1 C.2.1 (C.2.2.2.1.trans hl.1.symm) C.2.2.2.2.1 (C.2.2.2.2.2.1 _ (List.mem_cons_of_mem _ h1)) (C.2.2.2.2.2.1 _ (List.mem_cons_of_mem _ h2)) (C.2.2.2.2.2.1 _ (List.mem_cons_of_mem _ h3)) (C.2.2.2.2.2.1 _ (List.mem_cons_of_mem _ h4)) hK hP (hDD.1.D F A) hS a b 0 0 hea heb rfl rfl rfl (by decide) (by decide) hn (by show 0 + _ ≤ _; omega) (by show 0 + _ ≤ _; omega) (fun _ _ => rfl) (Nat.le_add_left 1 d) (by rw [mj_sum]; refine Nat.le_trans (Nat.add_le_add_right hr _) ?_; refine Nat.le_trans (show 8 + (nativeFrameWords "java/lang/System" "arraycopy" 5 + 11) ≤ 64 from by decide +kernel) ?_; show 64 ≤ 64 * (d + 1); omega) hd (fun H1 locs1 hP1 _ hS1 => ?_)
  rw [mj_w_set g (F' := F) (A' := mj_a A b (va_cpy (A a) (A b) 0 0 n.toNatClampNeg)) hb (by rw [hsb, mj_a_at]; rfl) (fun _ _ => rfl) (fun j hj => (mj_a_ne A _ hj).symm)] at hP1
  exact k p e s m args below meth c H1 locs1 ls C hDD hK hP1 hS1 hl
theorem j_mono {Q' : Option Value → mj_S → mj_S → Prop} (h : J g y d pc lv st F A Q') (hq : ∀ v F' A', Q' v F' A' → Q v F' A') : J g y d pc lv st F A Q := by
  intro p e s m args below meth c H locs ls C hDD hK hP hS hl
  intro T hT X
  obtain ⟨t, a1, o, b1, b2, ⟨⟨v, F', A', c1, c2, c3⟩, c4⟩, c5⟩ := h p e s m args below meth c H locs ls C hDD hK hP hS hl T hT X
  exact ⟨t, a1, o, b1, b2, ⟨⟨v, F', A', c1, hq v F' A' c2, c3⟩, c4⟩, c5⟩
theorem j_sub {lv' : List (Nat × Value)} (ks : List Nat) (hl0 : lv_pick lv ks = lv') (k : J g y d pc lv' st F A Q) : J g y d pc lv st F A Q := by
  intro p e s m args below meth c H locs ls C hDD hK hP hS hl
  refine k p e s m args below meth c H locs ls C hDD hK hP hS (lv_sub hl ks ?_)
  rw [← hl0]
  simp [lv_pick, mj_lv, List.map_filterMap]
end MJ
end
section
abbrev mX5_init : mj_Y := (yX5_init, cX5_init, 2, none)
set_option maxRecDepth 20000 in
theorem okX5_init : mj_OK mX5_init 0 := ⟨mj_in 81 rfl rfl, mj_in 63 (by decide +kernel) rfl, by decide +kernel, by decide +kernel, by decide⟩
theorem imX5_init : Cond.instanceMethod yX5_init ∈ mj_TB := mj_in 80 (by decide +kernel) rfl
abbrev mX0_init : mj_Y := (yX0_init, cX0_init, 1, none)
set_option maxRecDepth 20000 in
theorem okX0_init : mj_OK mX0_init 0 := ⟨mj_in 89 rfl rfl, mj_in 64 (by decide +kernel) rfl, by decide +kernel, by decide +kernel, by decide⟩
theorem imX0_init : Cond.instanceMethod yX0_init ∈ mj_TB := mj_in 88 (by decide +kernel) rfl
abbrev mX1_init : mj_Y := (yX1_init, cX1_init, 3, none)
set_option maxRecDepth 20000 in
theorem okX1_init : mj_OK mX1_init 2 := ⟨mj_in 134 rfl rfl, mj_in 65 (by decide +kernel) rfl, by decide +kernel, by decide +kernel, by decide⟩
theorem imX1_init : Cond.instanceMethod yX1_init ∈ mj_TB := mj_in 133 (by decide +kernel) rfl
abbrev mX4_init : mj_Y := (yX4_init, cX4_init, 1, none)
set_option maxRecDepth 20000 in
theorem okX4_init : mj_OK mX4_init 0 := ⟨mj_in 154 rfl rfl, mj_in 66 (by decide +kernel) rfl, by decide +kernel, by decide +kernel, by decide⟩
theorem imX4_init : Cond.instanceMethod yX4_init ∈ mj_TB := mj_in 153 (by decide +kernel) rfl
abbrev mX2_init : mj_Y := (yX2_init, cX2_init, 1, none)
set_option maxRecDepth 20000 in
theorem okX2_init : mj_OK mX2_init 0 := ⟨mj_in 183 rfl rfl, mj_in 67 (by decide +kernel) rfl, by decide +kernel, by decide +kernel, by decide⟩
theorem imX2_init : Cond.instanceMethod yX2_init ∈ mj_TB := mj_in 182 (by decide +kernel) rfl
abbrev mX3_init : mj_Y := (yX3_init, cX3_init, 3, none)
set_option maxRecDepth 20000 in
theorem okX3_init : mj_OK mX3_init 2 := ⟨mj_in 217 rfl rfl, mj_in 68 (by decide +kernel) rfl, by decide +kernel, by decide +kernel, by decide⟩
theorem imX3_init : Cond.instanceMethod yX3_init ∈ mj_TB := mj_in 216 (by decide +kernel) rfl
abbrev mX5_write : mj_Y := (yX5_write, cX5_write, 2, (some .int))
set_option maxRecDepth 20000 in
theorem okX5_write : mj_OK mX5_write 1 := ⟨mj_in 304 rfl rfl, mj_in 63 (by decide +kernel) rfl, by decide +kernel, by decide +kernel, by decide⟩
theorem imX5_write : Cond.instanceMethod yX5_write ∈ mj_TB := mj_in 302 (by decide +kernel) rfl
theorem seX5_write : Cond.selects (yX5_write).cls yX5_write yX5_write ∈ mj_TB := mj_in 303 (by decide +kernel) rfl
abbrev mX5_isWithin : mj_Y := (yX5_isWithin, cX5_isWithin, 3, (some .boolean))
set_option maxRecDepth 20000 in
theorem okX5_isWithin : mj_OK mX5_isWithin 3 := ⟨mj_in 307 rfl rfl, mj_in 63 (by decide +kernel) rfl, by decide +kernel, by decide +kernel, by decide⟩
theorem stX5_isWithin : Cond.static yX5_isWithin ∈ mj_TB := mj_in 306 (by decide +kernel) rfl
abbrev mX5_lay : mj_Y := (yX5_lay, cX5_lay, 1, (some .int))
set_option maxRecDepth 20000 in
theorem okX5_lay : mj_OK mX5_lay 0 := ⟨mj_in 311 rfl rfl, mj_in 63 (by decide +kernel) rfl, by decide +kernel, by decide +kernel, by decide⟩
theorem imX5_lay : Cond.instanceMethod yX5_lay ∈ mj_TB := mj_in 309 (by decide +kernel) rfl
theorem seX5_lay : Cond.selects (yX5_lay).cls yX5_lay yX5_lay ∈ mj_TB := mj_in 310 (by decide +kernel) rfl
abbrev mX1_read : mj_Y := (yX1_read, cX1_read, 4, (some .int))
set_option maxRecDepth 20000 in
theorem okX1_read : mj_OK mX1_read 1 := ⟨mj_in 315 rfl rfl, mj_in 65 (by decide +kernel) rfl, by decide +kernel, by decide +kernel, by decide⟩
theorem imX1_read : Cond.instanceMethod yX1_read ∈ mj_TB := mj_in 313 (by decide +kernel) rfl
theorem seX1_read : Cond.selects (yX1_read).cls yX1_read yX1_read ∈ mj_TB := mj_in 314 (by decide +kernel) rfl
abbrev mX1_readItem : mj_Y := (yX1_readItem, cX1_readItem, 1, (some .boolean))
set_option maxRecDepth 20000 in
theorem okX1_readItem : mj_OK mX1_readItem 0 := ⟨mj_in 322 rfl rfl, mj_in 65 (by decide +kernel) rfl, by decide +kernel, by decide +kernel, by decide⟩
theorem imX1_readItem : Cond.instanceMethod yX1_readItem ∈ mj_TB := mj_in 321 (by decide +kernel) rfl
theorem seX1_readItem : Cond.selects (yX1_readItem).cls yX1_readItem yX1_readItem ∈ mj_TB := mj_in 0 (by decide +kernel) rfl
abbrev mX1_takes : mj_Y := (yX1_takes, cX1_takes, 2, (some .boolean))
set_option maxRecDepth 20000 in
theorem okX1_takes : mj_OK mX1_takes 1 := ⟨mj_in 326 rfl rfl, mj_in 65 (by decide +kernel) rfl, by decide +kernel, by decide +kernel, by decide⟩
theorem imX1_takes : Cond.instanceMethod yX1_takes ∈ mj_TB := mj_in 325 (by decide +kernel) rfl
theorem seX1_takes : Cond.selects (yX1_takes).cls yX1_takes yX1_takes ∈ mj_TB := mj_in 1 (by decide +kernel) rfl
abbrev mX1_readNode : mj_Y := (yX1_readNode, cX1_readNode, 6, (some .boolean))
set_option maxRecDepth 20000 in
theorem okX1_readNode : mj_OK mX1_readNode 0 := ⟨mj_in 330 rfl rfl, mj_in 65 (by decide +kernel) rfl, by decide +kernel, by decide +kernel, by decide⟩
theorem imX1_readNode : Cond.instanceMethod yX1_readNode ∈ mj_TB := mj_in 329 (by decide +kernel) rfl
theorem seX1_readNode : Cond.selects (yX1_readNode).cls yX1_readNode yX1_readNode ∈ mj_TB := mj_in 2 (by decide +kernel) rfl
abbrev mX1_readNumber : mj_Y := (yX1_readNumber, cX1_readNumber, 3, (some .int))
set_option maxRecDepth 20000 in
theorem okX1_readNumber : mj_OK mX1_readNumber 0 := ⟨mj_in 334 rfl rfl, mj_in 65 (by decide +kernel) rfl, by decide +kernel, by decide +kernel, by decide⟩
theorem imX1_readNumber : Cond.instanceMethod yX1_readNumber ∈ mj_TB := mj_in 333 (by decide +kernel) rfl
theorem seX1_readNumber : Cond.selects (yX1_readNumber).cls yX1_readNumber yX1_readNumber ∈ mj_TB := mj_in 3 (by decide +kernel) rfl
abbrev mX1_readFigure : mj_Y := (yX1_readFigure, cX1_readFigure, 2, (some .int))
set_option maxRecDepth 20000 in
theorem okX1_readFigure : mj_OK mX1_readFigure 0 := ⟨mj_in 338 rfl rfl, mj_in 65 (by decide +kernel) rfl, by decide +kernel, by decide +kernel, by decide⟩
theorem imX1_readFigure : Cond.instanceMethod yX1_readFigure ∈ mj_TB := mj_in 337 (by decide +kernel) rfl
theorem seX1_readFigure : Cond.selects (yX1_readFigure).cls yX1_readFigure yX1_readFigure ∈ mj_TB := mj_in 4 (by decide +kernel) rfl
abbrev mX5_choicePlace : mj_Y := (yX5_choicePlace, cX5_choicePlace, 2, (some .int))
set_option maxRecDepth 20000 in
theorem okX5_choicePlace : mj_OK mX5_choicePlace 2 := ⟨mj_in 342 rfl rfl, mj_in 63 (by decide +kernel) rfl, by decide +kernel, by decide +kernel, by decide⟩
theorem stX5_choicePlace : Cond.static yX5_choicePlace ∈ mj_TB := mj_in 341 (by decide +kernel) rfl
abbrev mX0_addNode : mj_Y := (yX0_addNode, cX0_addNode, 3, none)
set_option maxRecDepth 20000 in
theorem okX0_addNode : mj_OK mX0_addNode 2 := ⟨mj_in 346 rfl rfl, mj_in 64 (by decide +kernel) rfl, by decide +kernel, by decide +kernel, by decide⟩
theorem imX0_addNode : Cond.instanceMethod yX0_addNode ∈ mj_TB := mj_in 344 (by decide +kernel) rfl
theorem seX0_addNode : Cond.selects (yX0_addNode).cls yX0_addNode yX0_addNode ∈ mj_TB := mj_in 345 (by decide +kernel) rfl
abbrev mX1_readTie : mj_Y := (yX1_readTie, cX1_readTie, 3, (some .boolean))
set_option maxRecDepth 20000 in
theorem okX1_readTie : mj_OK mX1_readTie 0 := ⟨mj_in 350 rfl rfl, mj_in 65 (by decide +kernel) rfl, by decide +kernel, by decide +kernel, by decide⟩
theorem imX1_readTie : Cond.instanceMethod yX1_readTie ∈ mj_TB := mj_in 349 (by decide +kernel) rfl
theorem seX1_readTie : Cond.selects (yX1_readTie).cls yX1_readTie yX1_readTie ∈ mj_TB := mj_in 5 (by decide +kernel) rfl
abbrev mX0_areTied : mj_Y := (yX0_areTied, cX0_areTied, 3, (some .boolean))
set_option maxRecDepth 20000 in
theorem okX0_areTied : mj_OK mX0_areTied 2 := ⟨mj_in 354 rfl rfl, mj_in 64 (by decide +kernel) rfl, by decide +kernel, by decide +kernel, by decide⟩
theorem imX0_areTied : Cond.instanceMethod yX0_areTied ∈ mj_TB := mj_in 352 (by decide +kernel) rfl
theorem seX0_areTied : Cond.selects (yX0_areTied).cls yX0_areTied yX0_areTied ∈ mj_TB := mj_in 353 (by decide +kernel) rfl
abbrev mX5_hasBit : mj_Y := (yX5_hasBit, cX5_hasBit, 2, (some .boolean))
set_option maxRecDepth 20000 in
theorem okX5_hasBit : mj_OK mX5_hasBit 2 := ⟨mj_in 357 rfl rfl, mj_in 63 (by decide +kernel) rfl, by decide +kernel, by decide +kernel, by decide⟩
theorem stX5_hasBit : Cond.static yX5_hasBit ∈ mj_TB := mj_in 356 (by decide +kernel) rfl
abbrev mX0_tieCount : mj_Y := (yX0_tieCount, cX0_tieCount, 3, (some .int))
set_option maxRecDepth 20000 in
theorem okX0_tieCount : mj_OK mX0_tieCount 0 := ⟨mj_in 361 rfl rfl, mj_in 64 (by decide +kernel) rfl, by decide +kernel, by decide +kernel, by decide⟩
theorem imX0_tieCount : Cond.instanceMethod yX0_tieCount ∈ mj_TB := mj_in 359 (by decide +kernel) rfl
theorem seX0_tieCount : Cond.selects (yX0_tieCount).cls yX0_tieCount yX0_tieCount ∈ mj_TB := mj_in 360 (by decide +kernel) rfl
abbrev mJ6_bitCount_0f7a4 : mj_Y := (yJ6_bitCount_0f7a4, cJ6_bitCount_0f7a4, 1, (some .int))
set_option maxRecDepth 20000 in
theorem okJ6_bitCount_0f7a4 : mj_OK mJ6_bitCount_0f7a4 1 := ⟨mj_in 364 rfl rfl, mj_in 74 (by decide +kernel) rfl, by decide +kernel, by decide +kernel, by decide⟩
theorem stJ6_bitCount_0f7a4 : Cond.static yJ6_bitCount_0f7a4 ∈ mj_TB := mj_in 363 (by decide +kernel) rfl
abbrev mX5_joinByNoughts : mj_Y := (yX5_joinByNoughts, cX5_joinByNoughts, 6, none)
set_option maxRecDepth 20000 in
theorem okX5_joinByNoughts : mj_OK mX5_joinByNoughts 4 := ⟨mj_in 370 rfl rfl, mj_in 63 (by decide +kernel) rfl, by decide +kernel, by decide +kernel, by decide⟩
theorem stX5_joinByNoughts : Cond.static yX5_joinByNoughts ∈ mj_TB := mj_in 369 (by decide +kernel) rfl
abbrev mX5_entryPlace : mj_Y := (yX5_entryPlace, cX5_entryPlace, 4, (some .int))
set_option maxRecDepth 20000 in
theorem okX5_entryPlace : mj_OK mX5_entryPlace 4 := ⟨mj_in 373 rfl rfl, mj_in 63 (by decide +kernel) rfl, by decide +kernel, by decide +kernel, by decide⟩
theorem stX5_entryPlace : Cond.static yX5_entryPlace ∈ mj_TB := mj_in 372 (by decide +kernel) rfl
abbrev mX1_readTable : mj_Y := (yX1_readTable, cX1_readTable, 6, (some .boolean))
set_option maxRecDepth 20000 in
theorem okX1_readTable : mj_OK mX1_readTable 2 := ⟨mj_in 377 rfl rfl, mj_in 65 (by decide +kernel) rfl, by decide +kernel, by decide +kernel, by decide⟩
theorem imX1_readTable : Cond.instanceMethod yX1_readTable ∈ mj_TB := mj_in 376 (by decide +kernel) rfl
theorem seX1_readTable : Cond.selects (yX1_readTable).cls yX1_readTable yX1_readTable ∈ mj_TB := mj_in 6 (by decide +kernel) rfl
abbrev mX0_copyFrom : mj_Y := (yX0_copyFrom, cX0_copyFrom, 2, none)
set_option maxRecDepth 20000 in
theorem okX0_copyFrom : mj_OK mX0_copyFrom 1 := ⟨mj_in 382 rfl rfl, mj_in 64 (by decide +kernel) rfl, by decide +kernel, by decide +kernel, by decide⟩
theorem imX0_copyFrom : Cond.instanceMethod yX0_copyFrom ∈ mj_TB := mj_in 380 (by decide +kernel) rfl
theorem seX0_copyFrom : Cond.selects (yX0_copyFrom).cls yX0_copyFrom yX0_copyFrom ∈ mj_TB := mj_in 381 (by decide +kernel) rfl
abbrev mX5_copyRow : mj_Y := (yX5_copyRow, cX5_copyRow, 2, none)
set_option maxRecDepth 20000 in
theorem okX5_copyRow : mj_OK mX5_copyRow 2 := ⟨mj_in 385 rfl rfl, mj_in 63 (by decide +kernel) rfl, by decide +kernel, by decide +kernel, by decide⟩
theorem stX5_copyRow : Cond.static yX5_copyRow ∈ mj_TB := mj_in 384 (by decide +kernel) rfl
abbrev mX5_forgetAnswers : mj_Y := (yX5_forgetAnswers, cX5_forgetAnswers, 1, none)
set_option maxRecDepth 20000 in
theorem okX5_forgetAnswers : mj_OK mX5_forgetAnswers 0 := ⟨mj_in 393 rfl rfl, mj_in 63 (by decide +kernel) rfl, by decide +kernel, by decide +kernel, by decide⟩
theorem imX5_forgetAnswers : Cond.instanceMethod yX5_forgetAnswers ∈ mj_TB := mj_in 392 (by decide +kernel) rfl
theorem seX5_forgetAnswers : Cond.selects (yX5_forgetAnswers).cls yX5_forgetAnswers yX5_forgetAnswers ∈ mj_TB := mj_in 7 (by decide +kernel) rfl
abbrev mX5_wipe : mj_Y := (yX5_wipe, cX5_wipe, 2, (some .int))
set_option maxRecDepth 20000 in
theorem okX5_wipe : mj_OK mX5_wipe 0 := ⟨mj_in 397 rfl rfl, mj_in 63 (by decide +kernel) rfl, by decide +kernel, by decide +kernel, by decide⟩
theorem imX5_wipe : Cond.instanceMethod yX5_wipe ∈ mj_TB := mj_in 395 (by decide +kernel) rfl
theorem seX5_wipe : Cond.selects (yX5_wipe).cls yX5_wipe yX5_wipe ∈ mj_TB := mj_in 396 (by decide +kernel) rfl
abbrev mX5_fault : mj_Y := (yX5_fault, cX5_fault, 1, (some .int))
set_option maxRecDepth 20000 in
theorem okX5_fault : mj_OK mX5_fault 0 := ⟨mj_in 456 rfl rfl, mj_in 63 (by decide +kernel) rfl, by decide +kernel, by decide +kernel, by decide⟩
theorem imX5_fault : Cond.instanceMethod yX5_fault ∈ mj_TB := mj_in 454 (by decide +kernel) rfl
theorem seX5_fault : Cond.selects (yX5_fault).cls yX5_fault yX5_fault ∈ mj_TB := mj_in 455 (by decide +kernel) rfl
abbrev mX5_node : mj_Y := (yX5_node, cX5_node, 3, (some .int))
set_option maxRecDepth 20000 in
theorem okX5_node : mj_OK mX5_node 2 := ⟨mj_in 461 rfl rfl, mj_in 63 (by decide +kernel) rfl, by decide +kernel, by decide +kernel, by decide⟩
theorem imX5_node : Cond.instanceMethod yX5_node ∈ mj_TB := mj_in 459 (by decide +kernel) rfl
theorem seX5_node : Cond.selects (yX5_node).cls yX5_node yX5_node ∈ mj_TB := mj_in 460 (by decide +kernel) rfl
abbrev mX5_isNode : mj_Y := (yX5_isNode, cX5_isNode, 2, (some .boolean))
set_option maxRecDepth 20000 in
theorem okX5_isNode : mj_OK mX5_isNode 1 := ⟨mj_in 465 rfl rfl, mj_in 63 (by decide +kernel) rfl, by decide +kernel, by decide +kernel, by decide⟩
theorem imX5_isNode : Cond.instanceMethod yX5_isNode ∈ mj_TB := mj_in 464 (by decide +kernel) rfl
theorem seX5_isNode : Cond.selects (yX5_isNode).cls yX5_isNode yX5_isNode ∈ mj_TB := mj_in 8 (by decide +kernel) rfl
abbrev mX5_pinnedTo : mj_Y := (yX5_pinnedTo, cX5_pinnedTo, 2, (some .int))
set_option maxRecDepth 20000 in
theorem okX5_pinnedTo : mj_OK mX5_pinnedTo 1 := ⟨mj_in 470 rfl rfl, mj_in 63 (by decide +kernel) rfl, by decide +kernel, by decide +kernel, by decide⟩
theorem imX5_pinnedTo : Cond.instanceMethod yX5_pinnedTo ∈ mj_TB := mj_in 469 (by decide +kernel) rfl
theorem seX5_pinnedTo : Cond.selects (yX5_pinnedTo).cls yX5_pinnedTo yX5_pinnedTo ∈ mj_TB := mj_in 9 (by decide +kernel) rfl
abbrev mX5_cost : mj_Y := (yX5_cost, cX5_cost, 3, (some .int))
set_option maxRecDepth 20000 in
theorem okX5_cost : mj_OK mX5_cost 2 := ⟨mj_in 474 rfl rfl, mj_in 63 (by decide +kernel) rfl, by decide +kernel, by decide +kernel, by decide⟩
theorem imX5_cost : Cond.instanceMethod yX5_cost ∈ mj_TB := mj_in 472 (by decide +kernel) rfl
theorem seX5_cost : Cond.selects (yX5_cost).cls yX5_cost yX5_cost ∈ mj_TB := mj_in 473 (by decide +kernel) rfl
abbrev mX5_isChoice : mj_Y := (yX5_isChoice, cX5_isChoice, 3, (some .boolean))
set_option maxRecDepth 20000 in
theorem okX5_isChoice : mj_OK mX5_isChoice 2 := ⟨mj_in 478 rfl rfl, mj_in 63 (by decide +kernel) rfl, by decide +kernel, by decide +kernel, by decide⟩
theorem imX5_isChoice : Cond.instanceMethod yX5_isChoice ∈ mj_TB := mj_in 477 (by decide +kernel) rfl
theorem seX5_isChoice : Cond.selects (yX5_isChoice).cls yX5_isChoice yX5_isChoice ∈ mj_TB := mj_in 10 (by decide +kernel) rfl
abbrev mX0_choiceCost : mj_Y := (yX0_choiceCost, cX0_choiceCost, 5, (some .int))
set_option maxRecDepth 20000 in
theorem okX0_choiceCost : mj_OK mX0_choiceCost 2 := ⟨mj_in 482 rfl rfl, mj_in 64 (by decide +kernel) rfl, by decide +kernel, by decide +kernel, by decide⟩
theorem imX0_choiceCost : Cond.instanceMethod yX0_choiceCost ∈ mj_TB := mj_in 480 (by decide +kernel) rfl
theorem seX0_choiceCost : Cond.selects (yX0_choiceCost).cls yX0_choiceCost yX0_choiceCost ∈ mj_TB := mj_in 481 (by decide +kernel) rfl
abbrev mX5_capped : mj_Y := (yX5_capped, cX5_capped, 1, (some .int))
set_option maxRecDepth 20000 in
theorem okX5_capped : mj_OK mX5_capped 1 := ⟨mj_in 487 rfl rfl, mj_in 63 (by decide +kernel) rfl, by decide +kernel, by decide +kernel, by decide⟩
theorem stX5_capped : Cond.static yX5_capped ∈ mj_TB := mj_in 486 (by decide +kernel) rfl
abbrev mX5_tie : mj_Y := (yX5_tie, cX5_tie, 5, (some .int))
set_option maxRecDepth 20000 in
theorem okX5_tie : mj_OK mX5_tie 4 := ⟨mj_in 492 rfl rfl, mj_in 63 (by decide +kernel) rfl, by decide +kernel, by decide +kernel, by decide⟩
theorem imX5_tie : Cond.instanceMethod yX5_tie ∈ mj_TB := mj_in 490 (by decide +kernel) rfl
theorem seX5_tie : Cond.selects (yX5_tie).cls yX5_tie yX5_tie ∈ mj_TB := mj_in 491 (by decide +kernel) rfl
abbrev mX0_tieCost : mj_Y := (yX0_tieCost, cX0_tieCost, 6, (some .int))
set_option maxRecDepth 20000 in
theorem okX0_tieCost : mj_OK mX0_tieCost 4 := ⟨mj_in 497 rfl rfl, mj_in 64 (by decide +kernel) rfl, by decide +kernel, by decide +kernel, by decide⟩
theorem imX0_tieCost : Cond.instanceMethod yX0_tieCost ∈ mj_TB := mj_in 495 (by decide +kernel) rfl
theorem seX0_tieCost : Cond.selects (yX0_tieCost).cls yX0_tieCost yX0_tieCost ∈ mj_TB := mj_in 496 (by decide +kernel) rfl
abbrev mX5_price : mj_Y := (yX5_price, cX5_price, 5, (some .int))
set_option maxRecDepth 20000 in
theorem okX5_price : mj_OK mX5_price 3 := ⟨mj_in 502 rfl rfl, mj_in 63 (by decide +kernel) rfl, by decide +kernel, by decide +kernel, by decide⟩
theorem imX5_price : Cond.instanceMethod yX5_price ∈ mj_TB := mj_in 500 (by decide +kernel) rfl
theorem seX5_price : Cond.selects (yX5_price).cls yX5_price yX5_price ∈ mj_TB := mj_in 501 (by decide +kernel) rfl
abbrev mX5_beginAct : mj_Y := (yX5_beginAct, cX5_beginAct, 1, none)
set_option maxRecDepth 20000 in
theorem okX5_beginAct : mj_OK mX5_beginAct 0 := ⟨mj_in 507 rfl rfl, mj_in 63 (by decide +kernel) rfl, by decide +kernel, by decide +kernel, by decide⟩
theorem imX5_beginAct : Cond.instanceMethod yX5_beginAct ∈ mj_TB := mj_in 506 (by decide +kernel) rfl
theorem seX5_beginAct : Cond.selects (yX5_beginAct).cls yX5_beginAct yX5_beginAct ∈ mj_TB := mj_in 11 (by decide +kernel) rfl
abbrev mX5_dropOldest : mj_Y := (yX5_dropOldest, cX5_dropOldest, 3, none)
set_option maxRecDepth 20000 in
theorem okX5_dropOldest : mj_OK mX5_dropOldest 0 := ⟨mj_in 511 rfl rfl, mj_in 63 (by decide +kernel) rfl, by decide +kernel, by decide +kernel, by decide⟩
theorem imX5_dropOldest : Cond.instanceMethod yX5_dropOldest ∈ mj_TB := mj_in 510 (by decide +kernel) rfl
theorem seX5_dropOldest : Cond.selects (yX5_dropOldest).cls yX5_dropOldest yX5_dropOldest ∈ mj_TB := mj_in 12 (by decide +kernel) rfl
abbrev mX5_table : mj_Y := (yX5_table, cX5_table, 8, (some .int))
set_option maxRecDepth 20000 in
theorem okX5_table : mj_OK mX5_table 5 := ⟨mj_in 515 rfl rfl, mj_in 63 (by decide +kernel) rfl, by decide +kernel, by decide +kernel, by decide⟩
theorem imX5_table : Cond.instanceMethod yX5_table ∈ mj_TB := mj_in 513 (by decide +kernel) rfl
theorem seX5_table : Cond.selects (yX5_table).cls yX5_table yX5_table ∈ mj_TB := mj_in 514 (by decide +kernel) rfl
abbrev mX5_loose : mj_Y := (yX5_loose, cX5_loose, 3, (some .int))
set_option maxRecDepth 20000 in
theorem okX5_loose : mj_OK mX5_loose 2 := ⟨mj_in 521 rfl rfl, mj_in 63 (by decide +kernel) rfl, by decide +kernel, by decide +kernel, by decide⟩
theorem imX5_loose : Cond.instanceMethod yX5_loose ∈ mj_TB := mj_in 519 (by decide +kernel) rfl
theorem seX5_loose : Cond.selects (yX5_loose).cls yX5_loose yX5_loose ∈ mj_TB := mj_in 520 (by decide +kernel) rfl
abbrev mX5_part : mj_Y := (yX5_part, cX5_part, 3, none)
set_option maxRecDepth 20000 in
theorem okX5_part : mj_OK mX5_part 3 := ⟨mj_in 524 rfl rfl, mj_in 63 (by decide +kernel) rfl, by decide +kernel, by decide +kernel, by decide⟩
theorem stX5_part : Cond.static yX5_part ∈ mj_TB := mj_in 523 (by decide +kernel) rfl
abbrev mX5_pin : mj_Y := (yX5_pin, cX5_pin, 4, (some .int))
set_option maxRecDepth 20000 in
theorem okX5_pin : mj_OK mX5_pin 2 := ⟨mj_in 528 rfl rfl, mj_in 63 (by decide +kernel) rfl, by decide +kernel, by decide +kernel, by decide⟩
theorem imX5_pin : Cond.instanceMethod yX5_pin ∈ mj_TB := mj_in 526 (by decide +kernel) rfl
theorem seX5_pin : Cond.selects (yX5_pin).cls yX5_pin yX5_pin ∈ mj_TB := mj_in 527 (by decide +kernel) rfl
abbrev mX5_rename : mj_Y := (yX5_rename, cX5_rename, 4, (some .int))
set_option maxRecDepth 20000 in
theorem okX5_rename : mj_OK mX5_rename 2 := ⟨mj_in 532 rfl rfl, mj_in 63 (by decide +kernel) rfl, by decide +kernel, by decide +kernel, by decide⟩
theorem imX5_rename : Cond.instanceMethod yX5_rename ∈ mj_TB := mj_in 530 (by decide +kernel) rfl
theorem seX5_rename : Cond.selects (yX5_rename).cls yX5_rename yX5_rename ∈ mj_TB := mj_in 531 (by decide +kernel) rfl
abbrev mX5_undo : mj_Y := (yX5_undo, cX5_undo, 1, (some .int))
set_option maxRecDepth 20000 in
theorem okX5_undo : mj_OK mX5_undo 0 := ⟨mj_in 536 rfl rfl, mj_in 63 (by decide +kernel) rfl, by decide +kernel, by decide +kernel, by decide⟩
theorem imX5_undo : Cond.instanceMethod yX5_undo ∈ mj_TB := mj_in 534 (by decide +kernel) rfl
theorem seX5_undo : Cond.selects (yX5_undo).cls yX5_undo yX5_undo ∈ mj_TB := mj_in 535 (by decide +kernel) rfl
abbrev mX5_turn : mj_Y := (yX5_turn, cX5_turn, 3, (some .int))
set_option maxRecDepth 20000 in
theorem okX5_turn : mj_OK mX5_turn 2 := ⟨mj_in 540 rfl rfl, mj_in 63 (by decide +kernel) rfl, by decide +kernel, by decide +kernel, by decide⟩
theorem imX5_turn : Cond.instanceMethod yX5_turn ∈ mj_TB := mj_in 538 (by decide +kernel) rfl
theorem seX5_turn : Cond.selects (yX5_turn).cls yX5_turn yX5_turn ∈ mj_TB := mj_in 539 (by decide +kernel) rfl
abbrev mX5_bringReduction : mj_Y := (yX5_bringReduction, cX5_bringReduction, 1, none)
set_option maxRecDepth 20000 in
theorem okX5_bringReduction : mj_OK mX5_bringReduction 0 := ⟨mj_in 544 rfl rfl, mj_in 63 (by decide +kernel) rfl, by decide +kernel, by decide +kernel, by decide⟩
theorem imX5_bringReduction : Cond.instanceMethod yX5_bringReduction ∈ mj_TB := mj_in 543 (by decide +kernel) rfl
theorem seX5_bringReduction : Cond.selects (yX5_bringReduction).cls yX5_bringReduction yX5_bringReduction ∈ mj_TB := mj_in 13 (by decide +kernel) rfl
abbrev mX5_bringWeights : mj_Y := (yX5_bringWeights, cX5_bringWeights, 1, none)
set_option maxRecDepth 20000 in
theorem okX5_bringWeights : mj_OK mX5_bringWeights 0 := ⟨mj_in 548 rfl rfl, mj_in 63 (by decide +kernel) rfl, by decide +kernel, by decide +kernel, by decide⟩
theorem imX5_bringWeights : Cond.instanceMethod yX5_bringWeights ∈ mj_TB := mj_in 547 (by decide +kernel) rfl
theorem seX5_bringWeights : Cond.selects (yX5_bringWeights).cls yX5_bringWeights yX5_bringWeights ∈ mj_TB := mj_in 14 (by decide +kernel) rfl
abbrev mX4_weigh : mj_Y := (yX4_weigh, cX4_weigh, 4, none)
set_option maxRecDepth 20000 in
theorem okX4_weigh : mj_OK mX4_weigh 1 := ⟨mj_in 552 rfl rfl, mj_in 66 (by decide +kernel) rfl, by decide +kernel, by decide +kernel, by decide⟩
theorem imX4_weigh : Cond.instanceMethod yX4_weigh ∈ mj_TB := mj_in 550 (by decide +kernel) rfl
theorem seX4_weigh : Cond.selects (yX4_weigh).cls yX4_weigh yX4_weigh ∈ mj_TB := mj_in 551 (by decide +kernel) rfl
abbrev mX4_areTied : mj_Y := (yX4_areTied, cX4_areTied, 3, (some .boolean))
set_option maxRecDepth 20000 in
theorem okX4_areTied : mj_OK mX4_areTied 2 := ⟨mj_in 559 rfl rfl, mj_in 66 (by decide +kernel) rfl, by decide +kernel, by decide +kernel, by decide⟩
theorem imX4_areTied : Cond.instanceMethod yX4_areTied ∈ mj_TB := mj_in 557 (by decide +kernel) rfl
theorem seX4_areTied : Cond.selects (yX4_areTied).cls yX4_areTied yX4_areTied ∈ mj_TB := mj_in 558 (by decide +kernel) rfl
abbrev mX4_weighTable : mj_Y := (yX4_weighTable, cX4_weighTable, 6, none)
set_option maxRecDepth 20000 in
theorem okX4_weighTable : mj_OK mX4_weighTable 3 := ⟨mj_in 564 rfl rfl, mj_in 66 (by decide +kernel) rfl, by decide +kernel, by decide +kernel, by decide⟩
theorem imX4_weighTable : Cond.instanceMethod yX4_weighTable ∈ mj_TB := mj_in 563 (by decide +kernel) rfl
theorem seX4_weighTable : Cond.selects (yX4_weighTable).cls yX4_weighTable yX4_weighTable ∈ mj_TB := mj_in 15 (by decide +kernel) rfl
abbrev mX2_run : mj_Y := (yX2_run, cX2_run, 5, none)
set_option maxRecDepth 20000 in
theorem okX2_run : mj_OK mX2_run 1 := ⟨mj_in 570 rfl rfl, mj_in 67 (by decide +kernel) rfl, by decide +kernel, by decide +kernel, by decide⟩
theorem imX2_run : Cond.instanceMethod yX2_run ∈ mj_TB := mj_in 568 (by decide +kernel) rfl
theorem seX2_run : Cond.selects (yX2_run).cls yX2_run yX2_run ∈ mj_TB := mj_in 569 (by decide +kernel) rfl
abbrev mX2_nextNode : mj_Y := (yX2_nextNode, cX2_nextNode, 4, (some .int))
set_option maxRecDepth 20000 in
theorem okX2_nextNode : mj_OK mX2_nextNode 0 := ⟨mj_in 575 rfl rfl, mj_in 67 (by decide +kernel) rfl, by decide +kernel, by decide +kernel, by decide⟩
theorem imX2_nextNode : Cond.instanceMethod yX2_nextNode ∈ mj_TB := mj_in 574 (by decide +kernel) rfl
theorem seX2_nextNode : Cond.selects (yX2_nextNode).cls yX2_nextNode yX2_nextNode ∈ mj_TB := mj_in 16 (by decide +kernel) rfl
abbrev mX2_comesAhead : mj_Y := (yX2_comesAhead, cX2_comesAhead, 5, (some .boolean))
set_option maxRecDepth 20000 in
theorem okX2_comesAhead : mj_OK mX2_comesAhead 2 := ⟨mj_in 580 rfl rfl, mj_in 67 (by decide +kernel) rfl, by decide +kernel, by decide +kernel, by decide⟩
theorem imX2_comesAhead : Cond.instanceMethod yX2_comesAhead ∈ mj_TB := mj_in 579 (by decide +kernel) rfl
theorem seX2_comesAhead : Cond.selects (yX2_comesAhead).cls yX2_comesAhead yX2_comesAhead ∈ mj_TB := mj_in 17 (by decide +kernel) rfl
abbrev mX2_matesLeft : mj_Y := (yX2_matesLeft, cX2_matesLeft, 2, (some .int))
set_option maxRecDepth 20000 in
theorem okX2_matesLeft : mj_OK mX2_matesLeft 1 := ⟨mj_in 584 rfl rfl, mj_in 67 (by decide +kernel) rfl, by decide +kernel, by decide +kernel, by decide⟩
theorem imX2_matesLeft : Cond.instanceMethod yX2_matesLeft ∈ mj_TB := mj_in 583 (by decide +kernel) rfl
theorem seX2_matesLeft : Cond.selects (yX2_matesLeft).cls yX2_matesLeft yX2_matesLeft ∈ mj_TB := mj_in 18 (by decide +kernel) rfl
abbrev mJ6_numberOfTrailingZeros_0f7a4 : mj_Y := (yJ6_numberOfTrailingZeros_0f7a4, cJ6_numberOfTrailingZeros_0f7a4, 2, (some .int))
set_option maxRecDepth 20000 in
theorem okJ6_numberOfTrailingZeros_0f7a4 : mj_OK mJ6_numberOfTrailingZeros_0f7a4 1 := ⟨mj_in 589 rfl rfl, mj_in 74 (by decide +kernel) rfl, by decide +kernel, by decide +kernel, by decide⟩
theorem stJ6_numberOfTrailingZeros_0f7a4 : Cond.static yJ6_numberOfTrailingZeros_0f7a4 ∈ mj_TB := mj_in 588 (by decide +kernel) rfl
abbrev mX2_foldIntoOne : mj_Y := (yX2_foldIntoOne, cX2_foldIntoOne, 6, none)
set_option maxRecDepth 20000 in
theorem okX2_foldIntoOne : mj_OK mX2_foldIntoOne 2 := ⟨mj_in 594 rfl rfl, mj_in 67 (by decide +kernel) rfl, by decide +kernel, by decide +kernel, by decide⟩
theorem imX2_foldIntoOne : Cond.instanceMethod yX2_foldIntoOne ∈ mj_TB := mj_in 593 (by decide +kernel) rfl
theorem seX2_foldIntoOne : Cond.selects (yX2_foldIntoOne).cls yX2_foldIntoOne yX2_foldIntoOne ∈ mj_TB := mj_in 19 (by decide +kernel) rfl
abbrev mX4_costAt : mj_Y := (yX4_costAt, cX4_costAt, 3, (some .int))
set_option maxRecDepth 20000 in
theorem okX4_costAt : mj_OK mX4_costAt 2 := ⟨mj_in 599 rfl rfl, mj_in 66 (by decide +kernel) rfl, by decide +kernel, by decide +kernel, by decide⟩
theorem imX4_costAt : Cond.instanceMethod yX4_costAt ∈ mj_TB := mj_in 597 (by decide +kernel) rfl
theorem seX4_costAt : Cond.selects (yX4_costAt).cls yX4_costAt yX4_costAt ∈ mj_TB := mj_in 598 (by decide +kernel) rfl
abbrev mX4_entryAt : mj_Y := (yX4_entryAt, cX4_entryAt, 5, (some .int))
set_option maxRecDepth 20000 in
theorem okX4_entryAt : mj_OK mX4_entryAt 4 := ⟨mj_in 603 rfl rfl, mj_in 66 (by decide +kernel) rfl, by decide +kernel, by decide +kernel, by decide⟩
theorem imX4_entryAt : Cond.instanceMethod yX4_entryAt ∈ mj_TB := mj_in 601 (by decide +kernel) rfl
theorem seX4_entryAt : Cond.selects (yX4_entryAt).cls yX4_entryAt yX4_entryAt ∈ mj_TB := mj_in 602 (by decide +kernel) rfl
abbrev mX4_addCost : mj_Y := (yX4_addCost, cX4_addCost, 5, none)
set_option maxRecDepth 20000 in
theorem okX4_addCost : mj_OK mX4_addCost 3 := ⟨mj_in 607 rfl rfl, mj_in 66 (by decide +kernel) rfl, by decide +kernel, by decide +kernel, by decide⟩
theorem imX4_addCost : Cond.instanceMethod yX4_addCost ∈ mj_TB := mj_in 605 (by decide +kernel) rfl
theorem seX4_addCost : Cond.selects (yX4_addCost).cls yX4_addCost yX4_addCost ∈ mj_TB := mj_in 606 (by decide +kernel) rfl
abbrev mX2_foldIntoTwo : mj_Y := (yX2_foldIntoTwo, cX2_foldIntoTwo, 9, none)
set_option maxRecDepth 20000 in
theorem okX2_foldIntoTwo : mj_OK mX2_foldIntoTwo 3 := ⟨mj_in 612 rfl rfl, mj_in 67 (by decide +kernel) rfl, by decide +kernel, by decide +kernel, by decide⟩
theorem imX2_foldIntoTwo : Cond.instanceMethod yX2_foldIntoTwo ∈ mj_TB := mj_in 611 (by decide +kernel) rfl
theorem seX2_foldIntoTwo : Cond.selects (yX2_foldIntoTwo).cls yX2_foldIntoTwo yX2_foldIntoTwo ∈ mj_TB := mj_in 20 (by decide +kernel) rfl
abbrev mX4_addEntry : mj_Y := (yX4_addEntry, cX4_addEntry, 7, none)
set_option maxRecDepth 20000 in
theorem okX4_addEntry : mj_OK mX4_addEntry 5 := ⟨mj_in 618 rfl rfl, mj_in 66 (by decide +kernel) rfl, by decide +kernel, by decide +kernel, by decide⟩
theorem imX4_addEntry : Cond.instanceMethod yX4_addEntry ∈ mj_TB := mj_in 616 (by decide +kernel) rfl
theorem seX4_addEntry : Cond.selects (yX4_addEntry).cls yX4_addEntry yX4_addEntry ∈ mj_TB := mj_in 617 (by decide +kernel) rfl
abbrev mX2_guess : mj_Y := (yX2_guess, cX2_guess, 7, none)
set_option maxRecDepth 20000 in
theorem okX2_guess : mj_OK mX2_guess 2 := ⟨mj_in 622 rfl rfl, mj_in 67 (by decide +kernel) rfl, by decide +kernel, by decide +kernel, by decide⟩
theorem imX2_guess : Cond.instanceMethod yX2_guess ∈ mj_TB := mj_in 621 (by decide +kernel) rfl
theorem seX2_guess : Cond.selects (yX2_guess).cls yX2_guess yX2_guess ∈ mj_TB := mj_in 21 (by decide +kernel) rfl
abbrev mX2_outlook : mj_Y := (yX2_outlook, cX2_outlook, 6, (some .int))
set_option maxRecDepth 20000 in
theorem okX2_outlook : mj_OK mX2_outlook 3 := ⟨mj_in 626 rfl rfl, mj_in 67 (by decide +kernel) rfl, by decide +kernel, by decide +kernel, by decide⟩
theorem imX2_outlook : Cond.instanceMethod yX2_outlook ∈ mj_TB := mj_in 625 (by decide +kernel) rfl
theorem seX2_outlook : Cond.selects (yX2_outlook).cls yX2_outlook yX2_outlook ∈ mj_TB := mj_in 22 (by decide +kernel) rfl
abbrev mX4_leastAcross : mj_Y := (yX4_leastAcross, cX4_leastAcross, 7, (some .int))
set_option maxRecDepth 20000 in
theorem okX4_leastAcross : mj_OK mX4_leastAcross 3 := ⟨mj_in 630 rfl rfl, mj_in 66 (by decide +kernel) rfl, by decide +kernel, by decide +kernel, by decide⟩
theorem imX4_leastAcross : Cond.instanceMethod yX4_leastAcross ∈ mj_TB := mj_in 628 (by decide +kernel) rfl
theorem seX4_leastAcross : Cond.selects (yX4_leastAcross).cls yX4_leastAcross yX4_leastAcross ∈ mj_TB := mj_in 629 (by decide +kernel) rfl
abbrev mX2_readOff : mj_Y := (yX2_readOff, cX2_readOff, 2, none)
set_option maxRecDepth 20000 in
theorem okX2_readOff : mj_OK mX2_readOff 0 := ⟨mj_in 637 rfl rfl, mj_in 67 (by decide +kernel) rfl, by decide +kernel, by decide +kernel, by decide⟩
theorem imX2_readOff : Cond.instanceMethod yX2_readOff ∈ mj_TB := mj_in 636 (by decide +kernel) rfl
theorem seX2_readOff : Cond.selects (yX2_readOff).cls yX2_readOff yX2_readOff ∈ mj_TB := mj_in 23 (by decide +kernel) rfl
abbrev mX2_firstLeast : mj_Y := (yX2_firstLeast, cX2_firstLeast, 7, (some .int))
set_option maxRecDepth 20000 in
theorem okX2_firstLeast : mj_OK mX2_firstLeast 2 := ⟨mj_in 641 rfl rfl, mj_in 67 (by decide +kernel) rfl, by decide +kernel, by decide +kernel, by decide⟩
theorem imX2_firstLeast : Cond.instanceMethod yX2_firstLeast ∈ mj_TB := mj_in 640 (by decide +kernel) rfl
theorem seX2_firstLeast : Cond.selects (yX2_firstLeast).cls yX2_firstLeast yX2_firstLeast ∈ mj_TB := mj_in 24 (by decide +kernel) rfl
abbrev mX4_costBeside : mj_Y := (yX4_costBeside, cX4_costBeside, 7, (some .int))
set_option maxRecDepth 20000 in
theorem okX4_costBeside : mj_OK mX4_costBeside 4 := ⟨mj_in 645 rfl rfl, mj_in 66 (by decide +kernel) rfl, by decide +kernel, by decide +kernel, by decide⟩
theorem imX4_costBeside : Cond.instanceMethod yX4_costBeside ∈ mj_TB := mj_in 643 (by decide +kernel) rfl
theorem seX4_costBeside : Cond.selects (yX4_costBeside).cls yX4_costBeside yX4_costBeside ∈ mj_TB := mj_in 644 (by decide +kernel) rfl
abbrev mX5_reduced : mj_Y := (yX5_reduced, cX5_reduced, 2, (some .int))
set_option maxRecDepth 20000 in
theorem okX5_reduced : mj_OK mX5_reduced 1 := ⟨mj_in 649 rfl rfl, mj_in 63 (by decide +kernel) rfl, by decide +kernel, by decide +kernel, by decide⟩
theorem imX5_reduced : Cond.instanceMethod yX5_reduced ∈ mj_TB := mj_in 647 (by decide +kernel) rfl
theorem seX5_reduced : Cond.selects (yX5_reduced).cls yX5_reduced yX5_reduced ∈ mj_TB := mj_in 648 (by decide +kernel) rfl
abbrev mX5_plan : mj_Y := (yX5_plan, cX5_plan, 2, (some .int))
set_option maxRecDepth 20000 in
theorem okX5_plan : mj_OK mX5_plan 1 := ⟨mj_in 653 rfl rfl, mj_in 63 (by decide +kernel) rfl, by decide +kernel, by decide +kernel, by decide⟩
theorem imX5_plan : Cond.instanceMethod yX5_plan ∈ mj_TB := mj_in 651 (by decide +kernel) rfl
theorem seX5_plan : Cond.selects (yX5_plan).cls yX5_plan yX5_plan ∈ mj_TB := mj_in 652 (by decide +kernel) rfl
abbrev mX4_planCost : mj_Y := (yX4_planCost, cX4_planCost, 4, (some .int))
set_option maxRecDepth 20000 in
theorem okX4_planCost : mj_OK mX4_planCost 1 := ⟨mj_in 657 rfl rfl, mj_in 66 (by decide +kernel) rfl, by decide +kernel, by decide +kernel, by decide⟩
theorem imX4_planCost : Cond.instanceMethod yX4_planCost ∈ mj_TB := mj_in 655 (by decide +kernel) rfl
theorem seX4_planCost : Cond.selects (yX4_planCost).cls yX4_planCost yX4_planCost ∈ mj_TB := mj_in 656 (by decide +kernel) rfl
abbrev mX4_matesBelow : mj_Y := (yX4_matesBelow, cX4_matesBelow, 2, (some .int))
set_option maxRecDepth 20000 in
theorem okX4_matesBelow : mj_OK mX4_matesBelow 1 := ⟨mj_in 661 rfl rfl, mj_in 66 (by decide +kernel) rfl, by decide +kernel, by decide +kernel, by decide⟩
theorem imX4_matesBelow : Cond.instanceMethod yX4_matesBelow ∈ mj_TB := mj_in 659 (by decide +kernel) rfl
theorem seX4_matesBelow : Cond.selects (yX4_matesBelow).cls yX4_matesBelow yX4_matesBelow ∈ mj_TB := mj_in 660 (by decide +kernel) rfl
abbrev mX5_least : mj_Y := (yX5_least, cX5_least, 2, (some .int))
set_option maxRecDepth 20000 in
theorem okX5_least : mj_OK mX5_least 1 := ⟨mj_in 666 rfl rfl, mj_in 63 (by decide +kernel) rfl, by decide +kernel, by decide +kernel, by decide⟩
theorem imX5_least : Cond.instanceMethod yX5_least ∈ mj_TB := mj_in 664 (by decide +kernel) rfl
theorem seX5_least : Cond.selects (yX5_least).cls yX5_least yX5_least ∈ mj_TB := mj_in 665 (by decide +kernel) rfl
abbrev mX5_bringSearch : mj_Y := (yX5_bringSearch, cX5_bringSearch, 1, none)
set_option maxRecDepth 20000 in
theorem okX5_bringSearch : mj_OK mX5_bringSearch 0 := ⟨mj_in 670 rfl rfl, mj_in 63 (by decide +kernel) rfl, by decide +kernel, by decide +kernel, by decide⟩
theorem imX5_bringSearch : Cond.instanceMethod yX5_bringSearch ∈ mj_TB := mj_in 669 (by decide +kernel) rfl
theorem seX5_bringSearch : Cond.selects (yX5_bringSearch).cls yX5_bringSearch yX5_bringSearch ∈ mj_TB := mj_in 25 (by decide +kernel) rfl
abbrev mX3_run : mj_Y := (yX3_run, cX3_run, 2, none)
set_option maxRecDepth 20000 in
theorem okX3_run : mj_OK mX3_run 0 := ⟨mj_in 674 rfl rfl, mj_in 68 (by decide +kernel) rfl, by decide +kernel, by decide +kernel, by decide⟩
theorem imX3_run : Cond.instanceMethod yX3_run ∈ mj_TB := mj_in 672 (by decide +kernel) rfl
theorem seX3_run : Cond.selects (yX3_run).cls yX3_run yX3_run ∈ mj_TB := mj_in 673 (by decide +kernel) rfl
abbrev mX4_leastCost : mj_Y := (yX4_leastCost, cX4_leastCost, 4, (some .int))
set_option maxRecDepth 20000 in
theorem okX4_leastCost : mj_OK mX4_leastCost 1 := ⟨mj_in 679 rfl rfl, mj_in 66 (by decide +kernel) rfl, by decide +kernel, by decide +kernel, by decide⟩
theorem imX4_leastCost : Cond.instanceMethod yX4_leastCost ∈ mj_TB := mj_in 677 (by decide +kernel) rfl
theorem seX4_leastCost : Cond.selects (yX4_leastCost).cls yX4_leastCost yX4_leastCost ∈ mj_TB := mj_in 678 (by decide +kernel) rfl
abbrev mX3_tryFrom : mj_Y := (yX3_tryFrom, cX3_tryFrom, 6, none)
set_option maxRecDepth 20000 in
theorem okX3_tryFrom : mj_OK mX3_tryFrom 2 := ⟨mj_in 685 rfl rfl, mj_in 68 (by decide +kernel) rfl, by decide +kernel, by decide +kernel, by decide⟩
theorem imX3_tryFrom : Cond.instanceMethod yX3_tryFrom ∈ mj_TB := mj_in 684 (by decide +kernel) rfl
theorem seX3_tryFrom : Cond.selects (yX3_tryFrom).cls yX3_tryFrom yX3_tryFrom ∈ mj_TB := mj_in 26 (by decide +kernel) rfl
abbrev mX3_takeIn : mj_Y := (yX3_takeIn, cX3_takeIn, 2, none)
set_option maxRecDepth 20000 in
theorem okX3_takeIn : mj_OK mX3_takeIn 1 := ⟨mj_in 689 rfl rfl, mj_in 68 (by decide +kernel) rfl, by decide +kernel, by decide +kernel, by decide⟩
theorem imX3_takeIn : Cond.instanceMethod yX3_takeIn ∈ mj_TB := mj_in 688 (by decide +kernel) rfl
theorem seX3_takeIn : Cond.selects (yX3_takeIn).cls yX3_takeIn yX3_takeIn ∈ mj_TB := mj_in 27 (by decide +kernel) rfl
abbrev mX3_likeFirst : mj_Y := (yX3_likeFirst, cX3_likeFirst, 3, (some .int))
set_option maxRecDepth 20000 in
theorem okX3_likeFirst : mj_OK mX3_likeFirst 0 := ⟨mj_in 694 rfl rfl, mj_in 68 (by decide +kernel) rfl, by decide +kernel, by decide +kernel, by decide⟩
theorem imX3_likeFirst : Cond.instanceMethod yX3_likeFirst ∈ mj_TB := mj_in 693 (by decide +kernel) rfl
theorem seX3_likeFirst : Cond.selects (yX3_likeFirst).cls yX3_likeFirst yX3_likeFirst ∈ mj_TB := mj_in 28 (by decide +kernel) rfl
abbrev mX4_bound : mj_Y := (yX4_bound, cX4_bound, 4, (some .int))
set_option maxRecDepth 20000 in
theorem okX4_bound : mj_OK mX4_bound 0 := ⟨mj_in 700 rfl rfl, mj_in 66 (by decide +kernel) rfl, by decide +kernel, by decide +kernel, by decide⟩
theorem imX4_bound : Cond.instanceMethod yX4_bound ∈ mj_TB := mj_in 698 (by decide +kernel) rfl
theorem seX4_bound : Cond.selects (yX4_bound).cls yX4_bound yX4_bound ∈ mj_TB := mj_in 699 (by decide +kernel) rfl
abbrev mX4_leastEntry : mj_Y := (yX4_leastEntry, cX4_leastEntry, 6, (some .int))
set_option maxRecDepth 20000 in
theorem okX4_leastEntry : mj_OK mX4_leastEntry 2 := ⟨mj_in 705 rfl rfl, mj_in 66 (by decide +kernel) rfl, by decide +kernel, by decide +kernel, by decide⟩
theorem imX4_leastEntry : Cond.instanceMethod yX4_leastEntry ∈ mj_TB := mj_in 703 (by decide +kernel) rfl
theorem seX4_leastEntry : Cond.selects (yX4_leastEntry).cls yX4_leastEntry yX4_leastEntry ∈ mj_TB := mj_in 704 (by decide +kernel) rfl
abbrev mX5_first : mj_Y := (yX5_first, cX5_first, 2, (some .int))
set_option maxRecDepth 20000 in
theorem okX5_first : mj_OK mX5_first 1 := ⟨mj_in 710 rfl rfl, mj_in 63 (by decide +kernel) rfl, by decide +kernel, by decide +kernel, by decide⟩
theorem imX5_first : Cond.instanceMethod yX5_first ∈ mj_TB := mj_in 708 (by decide +kernel) rfl
theorem seX5_first : Cond.selects (yX5_first).cls yX5_first yX5_first ∈ mj_TB := mj_in 709 (by decide +kernel) rfl
abbrev mX5_with : mj_Y := (yX5_with, cX5_with, 3, (some .int))
set_option maxRecDepth 20000 in
theorem okX5_with : mj_OK mX5_with 2 := ⟨mj_in 714 rfl rfl, mj_in 63 (by decide +kernel) rfl, by decide +kernel, by decide +kernel, by decide⟩
theorem imX5_with : Cond.instanceMethod yX5_with ∈ mj_TB := mj_in 712 (by decide +kernel) rfl
theorem seX5_with : Cond.selects (yX5_with).cls yX5_with yX5_with ∈ mj_TB := mj_in 713 (by decide +kernel) rfl
abbrev mX4_allowOnly : mj_Y := (yX4_allowOnly, cX4_allowOnly, 4, none)
set_option maxRecDepth 20000 in
theorem okX4_allowOnly : mj_OK mX4_allowOnly 2 := ⟨mj_in 718 rfl rfl, mj_in 66 (by decide +kernel) rfl, by decide +kernel, by decide +kernel, by decide⟩
theorem imX4_allowOnly : Cond.instanceMethod yX4_allowOnly ∈ mj_TB := mj_in 716 (by decide +kernel) rfl
theorem seX4_allowOnly : Cond.selects (yX4_allowOnly).cls yX4_allowOnly yX4_allowOnly ∈ mj_TB := mj_in 717 (by decide +kernel) rfl
abbrev mX5_without : mj_Y := (yX5_without, cX5_without, 3, (some .int))
set_option maxRecDepth 20000 in
theorem okX5_without : mj_OK mX5_without 2 := ⟨mj_in 722 rfl rfl, mj_in 63 (by decide +kernel) rfl, by decide +kernel, by decide +kernel, by decide⟩
theorem imX5_without : Cond.instanceMethod yX5_without ∈ mj_TB := mj_in 720 (by decide +kernel) rfl
theorem seX5_without : Cond.selects (yX5_without).cls yX5_without yX5_without ∈ mj_TB := mj_in 721 (by decide +kernel) rfl
abbrev mX5_keep : mj_Y := (yX5_keep, cX5_keep, 1, (some .int))
set_option maxRecDepth 20000 in
theorem okX5_keep : mj_OK mX5_keep 0 := ⟨mj_in 726 rfl rfl, mj_in 63 (by decide +kernel) rfl, by decide +kernel, by decide +kernel, by decide⟩
theorem imX5_keep : Cond.instanceMethod yX5_keep ∈ mj_TB := mj_in 724 (by decide +kernel) rfl
theorem seX5_keep : Cond.selects (yX5_keep).cls yX5_keep yX5_keep ∈ mj_TB := mj_in 725 (by decide +kernel) rfl
abbrev mX5_back : mj_Y := (yX5_back, cX5_back, 1, (some .int))
set_option maxRecDepth 20000 in
theorem okX5_back : mj_OK mX5_back 0 := ⟨mj_in 730 rfl rfl, mj_in 63 (by decide +kernel) rfl, by decide +kernel, by decide +kernel, by decide⟩
theorem imX5_back : Cond.instanceMethod yX5_back ∈ mj_TB := mj_in 728 (by decide +kernel) rfl
theorem seX5_back : Cond.selects (yX5_back).cls yX5_back yX5_back ∈ mj_TB := mj_in 729 (by decide +kernel) rfl
abbrev mX5_count : mj_Y := (yX5_count, cX5_count, 2, (some .int))
set_option maxRecDepth 20000 in
theorem okX5_count : mj_OK mX5_count 1 := ⟨mj_in 734 rfl rfl, mj_in 63 (by decide +kernel) rfl, by decide +kernel, by decide +kernel, by decide⟩
theorem imX5_count : Cond.instanceMethod yX5_count ∈ mj_TB := mj_in 732 (by decide +kernel) rfl
theorem seX5_count : Cond.selects (yX5_count).cls yX5_count yX5_count ∈ mj_TB := mj_in 733 (by decide +kernel) rfl
abbrev mX0_pinCount : mj_Y := (yX0_pinCount, cX0_pinCount, 3, (some .int))
set_option maxRecDepth 20000 in
theorem okX0_pinCount : mj_OK mX0_pinCount 0 := ⟨mj_in 738 rfl rfl, mj_in 64 (by decide +kernel) rfl, by decide +kernel, by decide +kernel, by decide⟩
theorem imX0_pinCount : Cond.instanceMethod yX0_pinCount ∈ mj_TB := mj_in 736 (by decide +kernel) rfl
theorem seX0_pinCount : Cond.selects (yX0_pinCount).cls yX0_pinCount yX0_pinCount ∈ mj_TB := mj_in 737 (by decide +kernel) rfl
abbrev mX6_init : mj_Y := (yX6_init, cX6_init, 1, none)
set_option maxRecDepth 20000 in
theorem okX6_init : mj_OK mX6_init 0 := ⟨mj_in 743 rfl rfl, mj_in 76 (by decide +kernel) rfl, by decide +kernel, by decide +kernel, by decide⟩
theorem imX6_init : Cond.instanceMethod yX6_init ∈ mj_TB := mj_in 742 (by decide +kernel) rfl
abbrev mX6_readNone : mj_Y := (yX6_readNone, cX6_readNone, 2, none)
set_option maxRecDepth 20000 in
theorem okX6_readNone : mj_OK mX6_readNone 0 := ⟨mj_in 748 rfl rfl, mj_in 76 (by decide +kernel) rfl, by decide +kernel, by decide +kernel, by decide⟩
theorem imX6_readNone : Cond.instanceMethod yX6_readNone ∈ mj_TB := mj_in 747 (by decide +kernel) rfl
theorem seX6_readNone : Cond.selects (yX6_readNone).cls yX6_readNone yX6_readNone ∈ mj_TB := mj_in 29 (by decide +kernel) rfl
abbrev mX6_nodeIs : mj_Y := (yX6_nodeIs, cX6_nodeIs, 7, none)
set_option maxRecDepth 20000 in
theorem okX6_nodeIs : mj_OK mX6_nodeIs 5 := ⟨mj_in 752 rfl rfl, mj_in 76 (by decide +kernel) rfl, by decide +kernel, by decide +kernel, by decide⟩
theorem imX6_nodeIs : Cond.instanceMethod yX6_nodeIs ∈ mj_TB := mj_in 751 (by decide +kernel) rfl
theorem seX6_nodeIs : Cond.selects (yX6_nodeIs).cls yX6_nodeIs yX6_nodeIs ∈ mj_TB := mj_in 30 (by decide +kernel) rfl
abbrev mX6_tableIs : mj_Y := (yX6_tableIs, cX6_tableIs, 6, none)
set_option maxRecDepth 20000 in
theorem okX6_tableIs : mj_OK mX6_tableIs 3 := ⟨mj_in 756 rfl rfl, mj_in 76 (by decide +kernel) rfl, by decide +kernel, by decide +kernel, by decide⟩
theorem imX6_tableIs : Cond.instanceMethod yX6_tableIs ∈ mj_TB := mj_in 755 (by decide +kernel) rfl
theorem seX6_tableIs : Cond.selects (yX6_tableIs).cls yX6_tableIs yX6_tableIs ∈ mj_TB := mj_in 31 (by decide +kernel) rfl
abbrev mX6_entryAt : mj_Y := (yX6_entryAt, cX6_entryAt, 7, (some .int))
set_option maxRecDepth 20000 in
theorem okX6_entryAt : mj_OK mX6_entryAt 4 := ⟨mj_in 759 rfl rfl, mj_in 76 (by decide +kernel) rfl, by decide +kernel, by decide +kernel, by decide⟩
theorem stX6_entryAt : Cond.static yX6_entryAt ∈ mj_TB := mj_in 758 (by decide +kernel) rfl
abbrev mX6_begin : mj_Y := (yX6_begin, cX6_begin, 2, none)
set_option maxRecDepth 20000 in
theorem okX6_begin : mj_OK mX6_begin 0 := ⟨mj_in 765 rfl rfl, mj_in 76 (by decide +kernel) rfl, by decide +kernel, by decide +kernel, by decide⟩
theorem imX6_begin : Cond.instanceMethod yX6_begin ∈ mj_TB := mj_in 764 (by decide +kernel) rfl
theorem seX6_begin : Cond.selects (yX6_begin).cls yX6_begin yX6_begin ∈ mj_TB := mj_in 32 (by decide +kernel) rfl
abbrev mX6_write : mj_Y := (yX6_write, cX6_write, 2, (some .int))
set_option maxRecDepth 20000 in
theorem okX6_write : mj_OK mX6_write 1 := ⟨mj_in 851 rfl rfl, mj_in 76 (by decide +kernel) rfl, by decide +kernel, by decide +kernel, by decide⟩
theorem imX6_write : Cond.instanceMethod yX6_write ∈ mj_TB := mj_in 849 (by decide +kernel) rfl
theorem seX6_write : Cond.selects (yX6_write).cls yX6_write yX6_write ∈ mj_TB := mj_in 850 (by decide +kernel) rfl
abbrev mX6_in : mj_Y := (yX6_in, cX6_in, 6, (some .boolean))
set_option maxRecDepth 20000 in
theorem okX6_in : mj_OK mX6_in 3 := ⟨mj_in 856 rfl rfl, mj_in 76 (by decide +kernel) rfl, by decide +kernel, by decide +kernel, by decide⟩
theorem stX6_in : Cond.static yX6_in ∈ mj_TB := mj_in 855 (by decide +kernel) rfl
abbrev mX6_wipe : mj_Y := (yX6_wipe, cX6_wipe, 2, (some .int))
set_option maxRecDepth 20000 in
theorem okX6_wipe : mj_OK mX6_wipe 0 := ⟨mj_in 860 rfl rfl, mj_in 76 (by decide +kernel) rfl, by decide +kernel, by decide +kernel, by decide⟩
theorem imX6_wipe : Cond.instanceMethod yX6_wipe ∈ mj_TB := mj_in 858 (by decide +kernel) rfl
theorem seX6_wipe : Cond.selects (yX6_wipe).cls yX6_wipe yX6_wipe ∈ mj_TB := mj_in 859 (by decide +kernel) rfl
abbrev mX6_fault : mj_Y := (yX6_fault, cX6_fault, 1, (some .int))
set_option maxRecDepth 20000 in
theorem okX6_fault : mj_OK mX6_fault 0 := ⟨mj_in 864 rfl rfl, mj_in 76 (by decide +kernel) rfl, by decide +kernel, by decide +kernel, by decide⟩
theorem imX6_fault : Cond.instanceMethod yX6_fault ∈ mj_TB := mj_in 862 (by decide +kernel) rfl
theorem seX6_fault : Cond.selects (yX6_fault).cls yX6_fault yX6_fault ∈ mj_TB := mj_in 863 (by decide +kernel) rfl
abbrev mX6_readAll : mj_Y := (yX6_readAll, cX6_readAll, 3, (some .int))
set_option maxRecDepth 20000 in
theorem okX6_readAll : mj_OK mX6_readAll 0 := ⟨mj_in 868 rfl rfl, mj_in 76 (by decide +kernel) rfl, by decide +kernel, by decide +kernel, by decide⟩
theorem imX6_readAll : Cond.instanceMethod yX6_readAll ∈ mj_TB := mj_in 867 (by decide +kernel) rfl
theorem seX6_readAll : Cond.selects (yX6_readAll).cls yX6_readAll yX6_readAll ∈ mj_TB := mj_in 33 (by decide +kernel) rfl
abbrev mX6_letterAt : mj_Y := (yX6_letterAt, cX6_letterAt, 2, (some .int))
set_option maxRecDepth 20000 in
theorem okX6_letterAt : mj_OK mX6_letterAt 1 := ⟨mj_in 872 rfl rfl, mj_in 76 (by decide +kernel) rfl, by decide +kernel, by decide +kernel, by decide⟩
theorem imX6_letterAt : Cond.instanceMethod yX6_letterAt ∈ mj_TB := mj_in 871 (by decide +kernel) rfl
theorem seX6_letterAt : Cond.selects (yX6_letterAt).cls yX6_letterAt yX6_letterAt ∈ mj_TB := mj_in 34 (by decide +kernel) rfl
abbrev mX6_nodeItem : mj_Y := (yX6_nodeItem, cX6_nodeItem, 2, (some .boolean))
set_option maxRecDepth 20000 in
theorem okX6_nodeItem : mj_OK mX6_nodeItem 0 := ⟨mj_in 876 rfl rfl, mj_in 76 (by decide +kernel) rfl, by decide +kernel, by decide +kernel, by decide⟩
theorem imX6_nodeItem : Cond.instanceMethod yX6_nodeItem ∈ mj_TB := mj_in 875 (by decide +kernel) rfl
theorem seX6_nodeItem : Cond.selects (yX6_nodeItem).cls yX6_nodeItem yX6_nodeItem ∈ mj_TB := mj_in 35 (by decide +kernel) rfl
abbrev mX6_isNumber : mj_Y := (yX6_isNumber, cX6_isNumber, 3, (some .boolean))
set_option maxRecDepth 20000 in
theorem okX6_isNumber : mj_OK mX6_isNumber 0 := ⟨mj_in 880 rfl rfl, mj_in 76 (by decide +kernel) rfl, by decide +kernel, by decide +kernel, by decide⟩
theorem imX6_isNumber : Cond.instanceMethod yX6_isNumber ∈ mj_TB := mj_in 879 (by decide +kernel) rfl
theorem seX6_isNumber : Cond.selects (yX6_isNumber).cls yX6_isNumber yX6_isNumber ∈ mj_TB := mj_in 36 (by decide +kernel) rfl
abbrev mX6_tieItem : mj_Y := (yX6_tieItem, cX6_tieItem, 5, (some .boolean))
set_option maxRecDepth 20000 in
theorem okX6_tieItem : mj_OK mX6_tieItem 0 := ⟨mj_in 887 rfl rfl, mj_in 76 (by decide +kernel) rfl, by decide +kernel, by decide +kernel, by decide⟩
theorem imX6_tieItem : Cond.instanceMethod yX6_tieItem ∈ mj_TB := mj_in 886 (by decide +kernel) rfl
theorem seX6_tieItem : Cond.selects (yX6_tieItem).cls yX6_tieItem yX6_tieItem ∈ mj_TB := mj_in 37 (by decide +kernel) rfl
abbrev mX6_tiesIn : mj_Y := (yX6_tiesIn, cX6_tiesIn, 3, (some .int))
set_option maxRecDepth 20000 in
theorem okX6_tiesIn : mj_OK mX6_tiesIn 1 := ⟨mj_in 890 rfl rfl, mj_in 76 (by decide +kernel) rfl, by decide +kernel, by decide +kernel, by decide⟩
theorem stX6_tiesIn : Cond.static yX6_tiesIn ∈ mj_TB := mj_in 889 (by decide +kernel) rfl
abbrev mX6_lay : mj_Y := (yX6_lay, cX6_lay, 1, (some .int))
set_option maxRecDepth 20000 in
theorem okX6_lay : mj_OK mX6_lay 0 := ⟨mj_in 895 rfl rfl, mj_in 76 (by decide +kernel) rfl, by decide +kernel, by decide +kernel, by decide⟩
theorem imX6_lay : Cond.instanceMethod yX6_lay ∈ mj_TB := mj_in 893 (by decide +kernel) rfl
theorem seX6_lay : Cond.selects (yX6_lay).cls yX6_lay yX6_lay ∈ mj_TB := mj_in 894 (by decide +kernel) rfl
abbrev mX6_node : mj_Y := (yX6_node, cX6_node, 3, (some .int))
set_option maxRecDepth 20000 in
theorem okX6_node : mj_OK mX6_node 2 := ⟨mj_in 899 rfl rfl, mj_in 76 (by decide +kernel) rfl, by decide +kernel, by decide +kernel, by decide⟩
theorem imX6_node : Cond.instanceMethod yX6_node ∈ mj_TB := mj_in 897 (by decide +kernel) rfl
theorem seX6_node : Cond.selects (yX6_node).cls yX6_node yX6_node ∈ mj_TB := mj_in 898 (by decide +kernel) rfl
abbrev mX6_isNode : mj_Y := (yX6_isNode, cX6_isNode, 2, (some .boolean))
set_option maxRecDepth 20000 in
theorem okX6_isNode : mj_OK mX6_isNode 1 := ⟨mj_in 903 rfl rfl, mj_in 76 (by decide +kernel) rfl, by decide +kernel, by decide +kernel, by decide⟩
theorem imX6_isNode : Cond.instanceMethod yX6_isNode ∈ mj_TB := mj_in 902 (by decide +kernel) rfl
theorem seX6_isNode : Cond.selects (yX6_isNode).cls yX6_isNode yX6_isNode ∈ mj_TB := mj_in 38 (by decide +kernel) rfl
abbrev mX6_tiedMany : mj_Y := (yX6_tiedMany, cX6_tiedMany, 4, (some .int))
set_option maxRecDepth 20000 in
theorem okX6_tiedMany : mj_OK mX6_tiedMany 1 := ⟨mj_in 908 rfl rfl, mj_in 76 (by decide +kernel) rfl, by decide +kernel, by decide +kernel, by decide⟩
theorem imX6_tiedMany : Cond.instanceMethod yX6_tiedMany ∈ mj_TB := mj_in 907 (by decide +kernel) rfl
theorem seX6_tiedMany : Cond.selects (yX6_tiedMany).cls yX6_tiedMany yX6_tiedMany ∈ mj_TB := mj_in 39 (by decide +kernel) rfl
abbrev mX6_isTied : mj_Y := (yX6_isTied, cX6_isTied, 3, (some .boolean))
set_option maxRecDepth 20000 in
theorem okX6_isTied : mj_OK mX6_isTied 2 := ⟨mj_in 912 rfl rfl, mj_in 76 (by decide +kernel) rfl, by decide +kernel, by decide +kernel, by decide⟩
theorem imX6_isTied : Cond.instanceMethod yX6_isTied ∈ mj_TB := mj_in 911 (by decide +kernel) rfl
theorem seX6_isTied : Cond.selects (yX6_isTied).cls yX6_isTied yX6_isTied ∈ mj_TB := mj_in 40 (by decide +kernel) rfl
abbrev mX6_cost : mj_Y := (yX6_cost, cX6_cost, 3, (some .int))
set_option maxRecDepth 20000 in
theorem okX6_cost : mj_OK mX6_cost 2 := ⟨mj_in 916 rfl rfl, mj_in 76 (by decide +kernel) rfl, by decide +kernel, by decide +kernel, by decide⟩
theorem imX6_cost : Cond.instanceMethod yX6_cost ∈ mj_TB := mj_in 914 (by decide +kernel) rfl
theorem seX6_cost : Cond.selects (yX6_cost).cls yX6_cost yX6_cost ∈ mj_TB := mj_in 915 (by decide +kernel) rfl
abbrev mX6_isChoice : mj_Y := (yX6_isChoice, cX6_isChoice, 3, (some .boolean))
set_option maxRecDepth 20000 in
theorem okX6_isChoice : mj_OK mX6_isChoice 2 := ⟨mj_in 920 rfl rfl, mj_in 76 (by decide +kernel) rfl, by decide +kernel, by decide +kernel, by decide⟩
theorem imX6_isChoice : Cond.instanceMethod yX6_isChoice ∈ mj_TB := mj_in 919 (by decide +kernel) rfl
theorem seX6_isChoice : Cond.selects (yX6_isChoice).cls yX6_isChoice yX6_isChoice ∈ mj_TB := mj_in 41 (by decide +kernel) rfl
abbrev mX6_costOf : mj_Y := (yX6_costOf, cX6_costOf, 5, (some .int))
set_option maxRecDepth 20000 in
theorem okX6_costOf : mj_OK mX6_costOf 2 := ⟨mj_in 924 rfl rfl, mj_in 76 (by decide +kernel) rfl, by decide +kernel, by decide +kernel, by decide⟩
theorem imX6_costOf : Cond.instanceMethod yX6_costOf ∈ mj_TB := mj_in 923 (by decide +kernel) rfl
theorem seX6_costOf : Cond.selects (yX6_costOf).cls yX6_costOf yX6_costOf ∈ mj_TB := mj_in 42 (by decide +kernel) rfl
abbrev mX6_tie : mj_Y := (yX6_tie, cX6_tie, 5, (some .int))
set_option maxRecDepth 20000 in
theorem okX6_tie : mj_OK mX6_tie 4 := ⟨mj_in 929 rfl rfl, mj_in 76 (by decide +kernel) rfl, by decide +kernel, by decide +kernel, by decide⟩
theorem imX6_tie : Cond.instanceMethod yX6_tie ∈ mj_TB := mj_in 927 (by decide +kernel) rfl
theorem seX6_tie : Cond.selects (yX6_tie).cls yX6_tie yX6_tie ∈ mj_TB := mj_in 928 (by decide +kernel) rfl
abbrev mX6_tieOf : mj_Y := (yX6_tieOf, cX6_tieOf, 6, (some .int))
set_option maxRecDepth 20000 in
theorem okX6_tieOf : mj_OK mX6_tieOf 4 := ⟨mj_in 933 rfl rfl, mj_in 76 (by decide +kernel) rfl, by decide +kernel, by decide +kernel, by decide⟩
theorem imX6_tieOf : Cond.instanceMethod yX6_tieOf ∈ mj_TB := mj_in 932 (by decide +kernel) rfl
theorem seX6_tieOf : Cond.selects (yX6_tieOf).cls yX6_tieOf yX6_tieOf ∈ mj_TB := mj_in 43 (by decide +kernel) rfl
abbrev mX6_price : mj_Y := (yX6_price, cX6_price, 5, (some .int))
set_option maxRecDepth 20000 in
theorem okX6_price : mj_OK mX6_price 3 := ⟨mj_in 937 rfl rfl, mj_in 76 (by decide +kernel) rfl, by decide +kernel, by decide +kernel, by decide⟩
theorem imX6_price : Cond.instanceMethod yX6_price ∈ mj_TB := mj_in 935 (by decide +kernel) rfl
theorem seX6_price : Cond.selects (yX6_price).cls yX6_price yX6_price ∈ mj_TB := mj_in 936 (by decide +kernel) rfl
abbrev mX6_note : mj_Y := (yX6_note, cX6_note, 2, none)
set_option maxRecDepth 20000 in
theorem okX6_note : mj_OK mX6_note 0 := ⟨mj_in 942 rfl rfl, mj_in 76 (by decide +kernel) rfl, by decide +kernel, by decide +kernel, by decide⟩
theorem imX6_note : Cond.instanceMethod yX6_note ∈ mj_TB := mj_in 941 (by decide +kernel) rfl
theorem seX6_note : Cond.selects (yX6_note).cls yX6_note yX6_note ∈ mj_TB := mj_in 44 (by decide +kernel) rfl
abbrev mX6_table : mj_Y := (yX6_table, cX6_table, 9, (some .int))
set_option maxRecDepth 20000 in
theorem okX6_table : mj_OK mX6_table 5 := ⟨mj_in 946 rfl rfl, mj_in 76 (by decide +kernel) rfl, by decide +kernel, by decide +kernel, by decide⟩
theorem imX6_table : Cond.instanceMethod yX6_table ∈ mj_TB := mj_in 944 (by decide +kernel) rfl
theorem seX6_table : Cond.selects (yX6_table).cls yX6_table yX6_table ∈ mj_TB := mj_in 945 (by decide +kernel) rfl
abbrev mX6_loose : mj_Y := (yX6_loose, cX6_loose, 3, (some .int))
set_option maxRecDepth 20000 in
theorem okX6_loose : mj_OK mX6_loose 2 := ⟨mj_in 950 rfl rfl, mj_in 76 (by decide +kernel) rfl, by decide +kernel, by decide +kernel, by decide⟩
theorem imX6_loose : Cond.instanceMethod yX6_loose ∈ mj_TB := mj_in 948 (by decide +kernel) rfl
theorem seX6_loose : Cond.selects (yX6_loose).cls yX6_loose yX6_loose ∈ mj_TB := mj_in 949 (by decide +kernel) rfl
abbrev mX6_isPair : mj_Y := (yX6_isPair, cX6_isPair, 3, (some .boolean))
set_option maxRecDepth 20000 in
theorem okX6_isPair : mj_OK mX6_isPair 2 := ⟨mj_in 954 rfl rfl, mj_in 76 (by decide +kernel) rfl, by decide +kernel, by decide +kernel, by decide⟩
theorem imX6_isPair : Cond.instanceMethod yX6_isPair ∈ mj_TB := mj_in 953 (by decide +kernel) rfl
theorem seX6_isPair : Cond.selects (yX6_isPair).cls yX6_isPair yX6_isPair ∈ mj_TB := mj_in 45 (by decide +kernel) rfl
abbrev mX6_looseNow : mj_Y := (yX6_looseNow, cX6_looseNow, 4, none)
set_option maxRecDepth 20000 in
theorem okX6_looseNow : mj_OK mX6_looseNow 2 := ⟨mj_in 958 rfl rfl, mj_in 76 (by decide +kernel) rfl, by decide +kernel, by decide +kernel, by decide⟩
theorem imX6_looseNow : Cond.instanceMethod yX6_looseNow ∈ mj_TB := mj_in 957 (by decide +kernel) rfl
theorem seX6_looseNow : Cond.selects (yX6_looseNow).cls yX6_looseNow yX6_looseNow ∈ mj_TB := mj_in 46 (by decide +kernel) rfl
abbrev mX6_pin : mj_Y := (yX6_pin, cX6_pin, 4, (some .int))
set_option maxRecDepth 20000 in
theorem okX6_pin : mj_OK mX6_pin 2 := ⟨mj_in 962 rfl rfl, mj_in 76 (by decide +kernel) rfl, by decide +kernel, by decide +kernel, by decide⟩
theorem imX6_pin : Cond.instanceMethod yX6_pin ∈ mj_TB := mj_in 960 (by decide +kernel) rfl
theorem seX6_pin : Cond.selects (yX6_pin).cls yX6_pin yX6_pin ∈ mj_TB := mj_in 961 (by decide +kernel) rfl
abbrev mX6_rename : mj_Y := (yX6_rename, cX6_rename, 4, (some .int))
set_option maxRecDepth 20000 in
theorem okX6_rename : mj_OK mX6_rename 2 := ⟨mj_in 967 rfl rfl, mj_in 76 (by decide +kernel) rfl, by decide +kernel, by decide +kernel, by decide⟩
theorem imX6_rename : Cond.instanceMethod yX6_rename ∈ mj_TB := mj_in 965 (by decide +kernel) rfl
theorem seX6_rename : Cond.selects (yX6_rename).cls yX6_rename yX6_rename ∈ mj_TB := mj_in 966 (by decide +kernel) rfl
abbrev mX6_undo : mj_Y := (yX6_undo, cX6_undo, 2, (some .int))
set_option maxRecDepth 20000 in
theorem okX6_undo : mj_OK mX6_undo 0 := ⟨mj_in 971 rfl rfl, mj_in 76 (by decide +kernel) rfl, by decide +kernel, by decide +kernel, by decide⟩
theorem imX6_undo : Cond.instanceMethod yX6_undo ∈ mj_TB := mj_in 969 (by decide +kernel) rfl
theorem seX6_undo : Cond.selects (yX6_undo).cls yX6_undo yX6_undo ∈ mj_TB := mj_in 970 (by decide +kernel) rfl
abbrev mX6_turn : mj_Y := (yX6_turn, cX6_turn, 3, (some .int))
set_option maxRecDepth 20000 in
theorem okX6_turn : mj_OK mX6_turn 2 := ⟨mj_in 975 rfl rfl, mj_in 76 (by decide +kernel) rfl, by decide +kernel, by decide +kernel, by decide⟩
theorem imX6_turn : Cond.instanceMethod yX6_turn ∈ mj_TB := mj_in 973 (by decide +kernel) rfl
theorem seX6_turn : Cond.selects (yX6_turn).cls yX6_turn yX6_turn ∈ mj_TB := mj_in 974 (by decide +kernel) rfl
abbrev mX6_reduceAll : mj_Y := (yX6_reduceAll, cX6_reduceAll, 6, none)
set_option maxRecDepth 20000 in
theorem okX6_reduceAll : mj_OK mX6_reduceAll 0 := ⟨mj_in 979 rfl rfl, mj_in 76 (by decide +kernel) rfl, by decide +kernel, by decide +kernel, by decide⟩
theorem imX6_reduceAll : Cond.instanceMethod yX6_reduceAll ∈ mj_TB := mj_in 978 (by decide +kernel) rfl
theorem seX6_reduceAll : Cond.selects (yX6_reduceAll).cls yX6_reduceAll yX6_reduceAll ∈ mj_TB := mj_in 47 (by decide +kernel) rfl
abbrev mX6_aside : mj_Y := (yX6_aside, cX6_aside, 6, none)
set_option maxRecDepth 20000 in
theorem okX6_aside : mj_OK mX6_aside 0 := ⟨mj_in 983 rfl rfl, mj_in 76 (by decide +kernel) rfl, by decide +kernel, by decide +kernel, by decide⟩
theorem imX6_aside : Cond.instanceMethod yX6_aside ∈ mj_TB := mj_in 982 (by decide +kernel) rfl
theorem seX6_aside : Cond.selects (yX6_aside).cls yX6_aside yX6_aside ∈ mj_TB := mj_in 48 (by decide +kernel) rfl
abbrev mX6_tableAt : mj_Y := (yX6_tableAt, cX6_tableAt, 4, (some .int))
set_option maxRecDepth 20000 in
theorem okX6_tableAt : mj_OK mX6_tableAt 4 := ⟨mj_in 986 rfl rfl, mj_in 76 (by decide +kernel) rfl, by decide +kernel, by decide +kernel, by decide⟩
theorem stX6_tableAt : Cond.static yX6_tableAt ∈ mj_TB := mj_in 985 (by decide +kernel) rfl
abbrev mX6_nextOf : mj_Y := (yX6_nextOf, cX6_nextOf, 5, (some .int))
set_option maxRecDepth 20000 in
theorem okX6_nextOf : mj_OK mX6_nextOf 1 := ⟨mj_in 990 rfl rfl, mj_in 76 (by decide +kernel) rfl, by decide +kernel, by decide +kernel, by decide⟩
theorem imX6_nextOf : Cond.instanceMethod yX6_nextOf ∈ mj_TB := mj_in 989 (by decide +kernel) rfl
theorem seX6_nextOf : Cond.selects (yX6_nextOf).cls yX6_nextOf yX6_nextOf ∈ mj_TB := mj_in 49 (by decide +kernel) rfl
abbrev mX6_has : mj_Y := (yX6_has, cX6_has, 2, (some .boolean))
set_option maxRecDepth 20000 in
theorem okX6_has : mj_OK mX6_has 2 := ⟨mj_in 993 rfl rfl, mj_in 76 (by decide +kernel) rfl, by decide +kernel, by decide +kernel, by decide⟩
theorem stX6_has : Cond.static yX6_has ∈ mj_TB := mj_in 992 (by decide +kernel) rfl
abbrev mX6_isAhead : mj_Y := (yX6_isAhead, cX6_isAhead, 5, (some .boolean))
set_option maxRecDepth 20000 in
theorem okX6_isAhead : mj_OK mX6_isAhead 2 := ⟨mj_in 997 rfl rfl, mj_in 76 (by decide +kernel) rfl, by decide +kernel, by decide +kernel, by decide⟩
theorem imX6_isAhead : Cond.instanceMethod yX6_isAhead ∈ mj_TB := mj_in 996 (by decide +kernel) rfl
theorem seX6_isAhead : Cond.selects (yX6_isAhead).cls yX6_isAhead yX6_isAhead ∈ mj_TB := mj_in 50 (by decide +kernel) rfl
abbrev mX6_ones : mj_Y := (yX6_ones, cX6_ones, 3, (some .int))
set_option maxRecDepth 20000 in
theorem okX6_ones : mj_OK mX6_ones 1 := ⟨mj_in 1000 rfl rfl, mj_in 76 (by decide +kernel) rfl, by decide +kernel, by decide +kernel, by decide⟩
theorem stX6_ones : Cond.static yX6_ones ∈ mj_TB := mj_in 999 (by decide +kernel) rfl
abbrev mX6_nthOf : mj_Y := (yX6_nthOf, cX6_nthOf, 4, (some .int))
set_option maxRecDepth 20000 in
theorem okX6_nthOf : mj_OK mX6_nthOf 2 := ⟨mj_in 1003 rfl rfl, mj_in 76 (by decide +kernel) rfl, by decide +kernel, by decide +kernel, by decide⟩
theorem stX6_nthOf : Cond.static yX6_nthOf ∈ mj_TB := mj_in 1002 (by decide +kernel) rfl
abbrev mX6_ruleOne : mj_Y := (yX6_ruleOne, cX6_ruleOne, 7, none)
set_option maxRecDepth 20000 in
theorem okX6_ruleOne : mj_OK mX6_ruleOne 2 := ⟨mj_in 1007 rfl rfl, mj_in 76 (by decide +kernel) rfl, by decide +kernel, by decide +kernel, by decide⟩
theorem imX6_ruleOne : Cond.instanceMethod yX6_ruleOne ∈ mj_TB := mj_in 1006 (by decide +kernel) rfl
theorem seX6_ruleOne : Cond.selects (yX6_ruleOne).cls yX6_ruleOne yX6_ruleOne ∈ mj_TB := mj_in 51 (by decide +kernel) rfl
abbrev mX6_atMost : mj_Y := (yX6_atMost, cX6_atMost, 1, (some .int))
set_option maxRecDepth 20000 in
theorem okX6_atMost : mj_OK mX6_atMost 1 := ⟨mj_in 1010 rfl rfl, mj_in 76 (by decide +kernel) rfl, by decide +kernel, by decide +kernel, by decide⟩
theorem stX6_atMost : Cond.static yX6_atMost ∈ mj_TB := mj_in 1009 (by decide +kernel) rfl
abbrev mX6_ruleTwo : mj_Y := (yX6_ruleTwo, cX6_ruleTwo, 10, none)
set_option maxRecDepth 20000 in
theorem okX6_ruleTwo : mj_OK mX6_ruleTwo 3 := ⟨mj_in 1014 rfl rfl, mj_in 76 (by decide +kernel) rfl, by decide +kernel, by decide +kernel, by decide⟩
theorem imX6_ruleTwo : Cond.instanceMethod yX6_ruleTwo ∈ mj_TB := mj_in 1013 (by decide +kernel) rfl
theorem seX6_ruleTwo : Cond.selects (yX6_ruleTwo).cls yX6_ruleTwo yX6_ruleTwo ∈ mj_TB := mj_in 52 (by decide +kernel) rfl
abbrev mX6_ruleThree : mj_Y := (yX6_ruleThree, cX6_ruleThree, 7, none)
set_option maxRecDepth 20000 in
theorem okX6_ruleThree : mj_OK mX6_ruleThree 1 := ⟨mj_in 1018 rfl rfl, mj_in 76 (by decide +kernel) rfl, by decide +kernel, by decide +kernel, by decide⟩
theorem imX6_ruleThree : Cond.instanceMethod yX6_ruleThree ∈ mj_TB := mj_in 1017 (by decide +kernel) rfl
theorem seX6_ruleThree : Cond.selects (yX6_ruleThree).cls yX6_ruleThree yX6_ruleThree ∈ mj_TB := mj_in 53 (by decide +kernel) rfl
abbrev mX6_leastBeside : mj_Y := (yX6_leastBeside, cX6_leastBeside, 7, (some .int))
set_option maxRecDepth 20000 in
theorem okX6_leastBeside : mj_OK mX6_leastBeside 3 := ⟨mj_in 1023 rfl rfl, mj_in 76 (by decide +kernel) rfl, by decide +kernel, by decide +kernel, by decide⟩
theorem imX6_leastBeside : Cond.instanceMethod yX6_leastBeside ∈ mj_TB := mj_in 1022 (by decide +kernel) rfl
theorem seX6_leastBeside : Cond.selects (yX6_leastBeside).cls yX6_leastBeside yX6_leastBeside ∈ mj_TB := mj_in 54 (by decide +kernel) rfl
abbrev mX6_takeBest : mj_Y := (yX6_takeBest, cX6_takeBest, 7, none)
set_option maxRecDepth 20000 in
theorem okX6_takeBest : mj_OK mX6_takeBest 2 := ⟨mj_in 1027 rfl rfl, mj_in 76 (by decide +kernel) rfl, by decide +kernel, by decide +kernel, by decide⟩
theorem imX6_takeBest : Cond.instanceMethod yX6_takeBest ∈ mj_TB := mj_in 1026 (by decide +kernel) rfl
theorem seX6_takeBest : Cond.selects (yX6_takeBest).cls yX6_takeBest yX6_takeBest ∈ mj_TB := mj_in 55 (by decide +kernel) rfl
abbrev mX6_reduced : mj_Y := (yX6_reduced, cX6_reduced, 2, (some .int))
set_option maxRecDepth 20000 in
theorem okX6_reduced : mj_OK mX6_reduced 1 := ⟨mj_in 1031 rfl rfl, mj_in 76 (by decide +kernel) rfl, by decide +kernel, by decide +kernel, by decide⟩
theorem imX6_reduced : Cond.instanceMethod yX6_reduced ∈ mj_TB := mj_in 1029 (by decide +kernel) rfl
theorem seX6_reduced : Cond.selects (yX6_reduced).cls yX6_reduced yX6_reduced ∈ mj_TB := mj_in 1030 (by decide +kernel) rfl
abbrev mX6_plan : mj_Y := (yX6_plan, cX6_plan, 4, (some .int))
set_option maxRecDepth 20000 in
theorem okX6_plan : mj_OK mX6_plan 1 := ⟨mj_in 1035 rfl rfl, mj_in 76 (by decide +kernel) rfl, by decide +kernel, by decide +kernel, by decide⟩
theorem imX6_plan : Cond.instanceMethod yX6_plan ∈ mj_TB := mj_in 1033 (by decide +kernel) rfl
theorem seX6_plan : Cond.selects (yX6_plan).cls yX6_plan yX6_plan ∈ mj_TB := mj_in 1034 (by decide +kernel) rfl
abbrev mX6_planCost : mj_Y := (yX6_planCost, cX6_planCost, 4, (some .int))
set_option maxRecDepth 20000 in
theorem okX6_planCost : mj_OK mX6_planCost 0 := ⟨mj_in 1039 rfl rfl, mj_in 76 (by decide +kernel) rfl, by decide +kernel, by decide +kernel, by decide⟩
theorem imX6_planCost : Cond.instanceMethod yX6_planCost ∈ mj_TB := mj_in 1038 (by decide +kernel) rfl
theorem seX6_planCost : Cond.selects (yX6_planCost).cls yX6_planCost yX6_planCost ∈ mj_TB := mj_in 56 (by decide +kernel) rfl
abbrev mX6_least : mj_Y := (yX6_least, cX6_least, 3, (some .int))
set_option maxRecDepth 20000 in
theorem okX6_least : mj_OK mX6_least 1 := ⟨mj_in 1043 rfl rfl, mj_in 76 (by decide +kernel) rfl, by decide +kernel, by decide +kernel, by decide⟩
theorem imX6_least : Cond.instanceMethod yX6_least ∈ mj_TB := mj_in 1041 (by decide +kernel) rfl
theorem seX6_least : Cond.selects (yX6_least).cls yX6_least yX6_least ∈ mj_TB := mj_in 1042 (by decide +kernel) rfl
abbrev mX6_bound : mj_Y := (yX6_bound, cX6_bound, 7, (some .int))
set_option maxRecDepth 20000 in
theorem okX6_bound : mj_OK mX6_bound 0 := ⟨mj_in 1048 rfl rfl, mj_in 76 (by decide +kernel) rfl, by decide +kernel, by decide +kernel, by decide⟩
theorem imX6_bound : Cond.instanceMethod yX6_bound ∈ mj_TB := mj_in 1047 (by decide +kernel) rfl
theorem seX6_bound : Cond.selects (yX6_bound).cls yX6_bound yX6_bound ∈ mj_TB := mj_in 57 (by decide +kernel) rfl
abbrev mX6_goAll : mj_Y := (yX6_goAll, cX6_goAll, 7, none)
set_option maxRecDepth 20000 in
theorem okX6_goAll : mj_OK mX6_goAll 2 := ⟨mj_in 1052 rfl rfl, mj_in 76 (by decide +kernel) rfl, by decide +kernel, by decide +kernel, by decide⟩
theorem imX6_goAll : Cond.instanceMethod yX6_goAll ∈ mj_TB := mj_in 1051 (by decide +kernel) rfl
theorem seX6_goAll : Cond.selects (yX6_goAll).cls yX6_goAll yX6_goAll ∈ mj_TB := mj_in 58 (by decide +kernel) rfl
abbrev mX6_meetPlan : mj_Y := (yX6_meetPlan, cX6_meetPlan, 3, none)
set_option maxRecDepth 20000 in
theorem okX6_meetPlan : mj_OK mX6_meetPlan 1 := ⟨mj_in 1056 rfl rfl, mj_in 76 (by decide +kernel) rfl, by decide +kernel, by decide +kernel, by decide⟩
theorem imX6_meetPlan : Cond.instanceMethod yX6_meetPlan ∈ mj_TB := mj_in 1055 (by decide +kernel) rfl
theorem seX6_meetPlan : Cond.selects (yX6_meetPlan).cls yX6_meetPlan yX6_meetPlan ∈ mj_TB := mj_in 59 (by decide +kernel) rfl
abbrev mX6_sameSet : mj_Y := (yX6_sameSet, cX6_sameSet, 3, (some .int))
set_option maxRecDepth 20000 in
theorem okX6_sameSet : mj_OK mX6_sameSet 0 := ⟨mj_in 1060 rfl rfl, mj_in 76 (by decide +kernel) rfl, by decide +kernel, by decide +kernel, by decide⟩
theorem imX6_sameSet : Cond.instanceMethod yX6_sameSet ∈ mj_TB := mj_in 1059 (by decide +kernel) rfl
theorem seX6_sameSet : Cond.selects (yX6_sameSet).cls yX6_sameSet yX6_sameSet ∈ mj_TB := mj_in 60 (by decide +kernel) rfl
abbrev mX6_first : mj_Y := (yX6_first, cX6_first, 2, (some .int))
set_option maxRecDepth 20000 in
theorem okX6_first : mj_OK mX6_first 1 := ⟨mj_in 1064 rfl rfl, mj_in 76 (by decide +kernel) rfl, by decide +kernel, by decide +kernel, by decide⟩
theorem imX6_first : Cond.instanceMethod yX6_first ∈ mj_TB := mj_in 1062 (by decide +kernel) rfl
theorem seX6_first : Cond.selects (yX6_first).cls yX6_first yX6_first ∈ mj_TB := mj_in 1063 (by decide +kernel) rfl
abbrev mX6_with : mj_Y := (yX6_with, cX6_with, 3, (some .int))
set_option maxRecDepth 20000 in
theorem okX6_with : mj_OK mX6_with 2 := ⟨mj_in 1068 rfl rfl, mj_in 76 (by decide +kernel) rfl, by decide +kernel, by decide +kernel, by decide⟩
theorem imX6_with : Cond.instanceMethod yX6_with ∈ mj_TB := mj_in 1066 (by decide +kernel) rfl
theorem seX6_with : Cond.selects (yX6_with).cls yX6_with yX6_with ∈ mj_TB := mj_in 1067 (by decide +kernel) rfl
abbrev mX6_without : mj_Y := (yX6_without, cX6_without, 4, (some .int))
set_option maxRecDepth 20000 in
theorem okX6_without : mj_OK mX6_without 2 := ⟨mj_in 1072 rfl rfl, mj_in 76 (by decide +kernel) rfl, by decide +kernel, by decide +kernel, by decide⟩
theorem imX6_without : Cond.instanceMethod yX6_without ∈ mj_TB := mj_in 1070 (by decide +kernel) rfl
theorem seX6_without : Cond.selects (yX6_without).cls yX6_without yX6_without ∈ mj_TB := mj_in 1071 (by decide +kernel) rfl
abbrev mX6_keep : mj_Y := (yX6_keep, cX6_keep, 2, (some .int))
set_option maxRecDepth 20000 in
theorem okX6_keep : mj_OK mX6_keep 0 := ⟨mj_in 1076 rfl rfl, mj_in 76 (by decide +kernel) rfl, by decide +kernel, by decide +kernel, by decide⟩
theorem imX6_keep : Cond.instanceMethod yX6_keep ∈ mj_TB := mj_in 1074 (by decide +kernel) rfl
theorem seX6_keep : Cond.selects (yX6_keep).cls yX6_keep yX6_keep ∈ mj_TB := mj_in 1075 (by decide +kernel) rfl
abbrev mX6_back : mj_Y := (yX6_back, cX6_back, 2, (some .int))
set_option maxRecDepth 20000 in
theorem okX6_back : mj_OK mX6_back 0 := ⟨mj_in 1080 rfl rfl, mj_in 76 (by decide +kernel) rfl, by decide +kernel, by decide +kernel, by decide⟩
theorem imX6_back : Cond.instanceMethod yX6_back ∈ mj_TB := mj_in 1078 (by decide +kernel) rfl
theorem seX6_back : Cond.selects (yX6_back).cls yX6_back yX6_back ∈ mj_TB := mj_in 1079 (by decide +kernel) rfl
abbrev mX6_count : mj_Y := (yX6_count, cX6_count, 2, (some .int))
set_option maxRecDepth 20000 in
theorem okX6_count : mj_OK mX6_count 1 := ⟨mj_in 1084 rfl rfl, mj_in 76 (by decide +kernel) rfl, by decide +kernel, by decide +kernel, by decide⟩
theorem imX6_count : Cond.instanceMethod yX6_count ∈ mj_TB := mj_in 1082 (by decide +kernel) rfl
theorem seX6_count : Cond.selects (yX6_count).cls yX6_count yX6_count ∈ mj_TB := mj_in 1083 (by decide +kernel) rfl
abbrev mX6_pinned : mj_Y := (yX6_pinned, cX6_pinned, 3, (some .int))
set_option maxRecDepth 20000 in
theorem okX6_pinned : mj_OK mX6_pinned 0 := ⟨mj_in 1088 rfl rfl, mj_in 76 (by decide +kernel) rfl, by decide +kernel, by decide +kernel, by decide⟩
theorem imX6_pinned : Cond.instanceMethod yX6_pinned ∈ mj_TB := mj_in 1087 (by decide +kernel) rfl
theorem seX6_pinned : Cond.selects (yX6_pinned).cls yX6_pinned yX6_pinned ∈ mj_TB := mj_in 61 (by decide +kernel) rfl
theorem lkL_9 : Cond.methodLink RL 9 yX5_init ∈ mj_TB := mj_in 79 (by decide +kernel) rfl
theorem lnX5_15 : (RX5, 15, yX0_init, RX5) ∈ mj_nests := by decide +kernel
theorem flX0_30 : mj_FL RX0 30 0 0 := ⟨(RX0, TX0, 7), rfl, by decide, mj_in 91 (by decide +kernel) rfl⟩
theorem fpX0_30 : mj_FP RX0 30 0 0 .int := ⟨(RX0, TX0, 7), rfl, by decide, mj_in 91 (by decide +kernel) rfl, rfl, by decide +kernel⟩
theorem flX4_24 : mj_FL RX4 24 0 0 := ⟨(RX0, TX0, 7), rfl, by decide, mj_in 92 (by decide +kernel) rfl⟩
theorem fpX4_24 : mj_FP RX4 24 0 0 .int := ⟨(RX0, TX0, 7), rfl, by decide, mj_in 92 (by decide +kernel) rfl, rfl, by decide +kernel⟩
theorem flX1_32 : mj_FL RX1 32 0 0 := ⟨(RX0, TX0, 7), rfl, by decide, mj_in 93 (by decide +kernel) rfl⟩
theorem fpX1_32 : mj_FP RX1 32 0 0 .int := ⟨(RX0, TX0, 7), rfl, by decide, mj_in 93 (by decide +kernel) rfl, rfl, by decide +kernel⟩
theorem flX5_101 : mj_FL RX5 101 0 0 := ⟨(RX0, TX0, 7), rfl, by decide, mj_in 94 (by decide +kernel) rfl⟩
theorem fpX5_101 : mj_FP RX5 101 0 0 .int := ⟨(RX0, TX0, 7), rfl, by decide, mj_in 94 (by decide +kernel) rfl, rfl, by decide +kernel⟩
theorem flX0_9 : mj_FL RX0 9 0 1 := ⟨(RX0, TX0, 7), rfl, by decide, mj_in 95 (by decide +kernel) rfl⟩
theorem flX4_31 : mj_FL RX4 31 0 1 := ⟨(RX0, TX0, 7), rfl, by decide, mj_in 96 (by decide +kernel) rfl⟩
theorem flX1_90 : mj_FL RX1 90 0 1 := ⟨(RX0, TX0, 7), rfl, by decide, mj_in 97 (by decide +kernel) rfl⟩
theorem flX5_125 : mj_FL RX5 125 0 1 := ⟨(RX0, TX0, 7), rfl, by decide, mj_in 98 (by decide +kernel) rfl⟩
theorem flX0_15 : mj_FL RX0 15 0 2 := ⟨(RX0, TX0, 7), rfl, by decide, mj_in 99 (by decide +kernel) rfl⟩
theorem flX5_121 : mj_FL RX5 121 0 2 := ⟨(RX0, TX0, 7), rfl, by decide, mj_in 100 (by decide +kernel) rfl⟩
theorem flX0_18 : mj_FL RX0 18 0 3 := ⟨(RX0, TX0, 7), rfl, by decide, mj_in 101 (by decide +kernel) rfl⟩
theorem flX5_180 : mj_FL RX5 180 0 3 := ⟨(RX0, TX0, 7), rfl, by decide, mj_in 102 (by decide +kernel) rfl⟩
theorem flX0_21 : mj_FL RX0 21 0 4 := ⟨(RX0, TX0, 7), rfl, by decide, mj_in 103 (by decide +kernel) rfl⟩
theorem flX4_36 : mj_FL RX4 36 0 4 := ⟨(RX0, TX0, 7), rfl, by decide, mj_in 104 (by decide +kernel) rfl⟩
theorem flX1_77 : mj_FL RX1 77 0 4 := ⟨(RX0, TX0, 7), rfl, by decide, mj_in 105 (by decide +kernel) rfl⟩
theorem flX5_128 : mj_FL RX5 128 0 4 := ⟨(RX0, TX0, 7), rfl, by decide, mj_in 106 (by decide +kernel) rfl⟩
theorem flX0_24 : mj_FL RX0 24 0 5 := ⟨(RX0, TX0, 7), rfl, by decide, mj_in 107 (by decide +kernel) rfl⟩
theorem flX1_59 : mj_FL RX1 59 0 5 := ⟨(RX0, TX0, 7), rfl, by decide, mj_in 108 (by decide +kernel) rfl⟩
theorem flX5_154 : mj_FL RX5 154 0 5 := ⟨(RX0, TX0, 7), rfl, by decide, mj_in 109 (by decide +kernel) rfl⟩
theorem flX0_27 : mj_FL RX0 27 0 6 := ⟨(RX0, TX0, 7), rfl, by decide, mj_in 110 (by decide +kernel) rfl⟩
theorem flX1_80 : mj_FL RX1 80 0 6 := ⟨(RX0, TX0, 7), rfl, by decide, mj_in 111 (by decide +kernel) rfl⟩
theorem flX5_163 : mj_FL RX5 163 0 6 := ⟨(RX0, TX0, 7), rfl, by decide, mj_in 112 (by decide +kernel) rfl⟩
theorem lkX5_25 : Cond.methodLink RX5 25 yX1_init ∈ mj_TB := mj_in 132 (by decide +kernel) rfl
theorem flX1_9 : mj_FL RX1 9 1 0 := ⟨(RX1, TX1, 4), rfl, by decide, mj_in 136 (by decide +kernel) rfl⟩
theorem flX1_15 : mj_FL RX1 15 1 1 := ⟨(RX1, TX1, 4), rfl, by decide, mj_in 137 (by decide +kernel) rfl⟩
theorem flX1_25 : mj_FL RX1 25 1 2 := ⟨(RX1, TX1, 4), rfl, by decide, mj_in 138 (by decide +kernel) rfl⟩
theorem fpX1_25 : mj_FP RX1 25 1 2 .int := ⟨(RX1, TX1, 4), rfl, by decide, mj_in 138 (by decide +kernel) rfl, rfl, by decide +kernel⟩
theorem flX1_29 : mj_FL RX1 29 1 3 := ⟨(RX1, TX1, 4), rfl, by decide, mj_in 139 (by decide +kernel) rfl⟩
theorem fpX1_29 : mj_FP RX1 29 1 3 .int := ⟨(RX1, TX1, 4), rfl, by decide, mj_in 139 (by decide +kernel) rfl, rfl, by decide +kernel⟩
theorem lnX5_41 : (RX5, 41, yX4_init, RX5) ∈ mj_nests := by decide +kernel
theorem flX4_30 : mj_FL RX4 30 4 0 := ⟨(RX4, TX4, 5), rfl, by decide, mj_in 156 (by decide +kernel) rfl⟩
theorem fpX4_30 : mj_FP RX4 30 4 0 .int := ⟨(RX4, TX4, 5), rfl, by decide, mj_in 156 (by decide +kernel) rfl, rfl, by decide +kernel⟩
theorem flX2_39 : mj_FL RX2 39 4 0 := ⟨(RX4, TX4, 5), rfl, by decide, mj_in 157 (by decide +kernel) rfl⟩
theorem fpX2_39 : mj_FP RX2 39 4 0 .int := ⟨(RX4, TX4, 5), rfl, by decide, mj_in 157 (by decide +kernel) rfl, rfl, by decide +kernel⟩
theorem flX3_43 : mj_FL RX3 43 4 0 := ⟨(RX4, TX4, 5), rfl, by decide, mj_in 158 (by decide +kernel) rfl⟩
theorem fpX3_43 : mj_FP RX3 43 4 0 .int := ⟨(RX4, TX4, 5), rfl, by decide, mj_in 158 (by decide +kernel) rfl, rfl, by decide +kernel⟩
theorem flX4_9 : mj_FL RX4 9 4 1 := ⟨(RX4, TX4, 5), rfl, by decide, mj_in 159 (by decide +kernel) rfl⟩
theorem flX3_66 : mj_FL RX3 66 4 1 := ⟨(RX4, TX4, 5), rfl, by decide, mj_in 160 (by decide +kernel) rfl⟩
theorem flX2_92 : mj_FL RX2 92 4 1 := ⟨(RX4, TX4, 5), rfl, by decide, mj_in 161 (by decide +kernel) rfl⟩
theorem flX4_15 : mj_FL RX4 15 4 2 := ⟨(RX4, TX4, 5), rfl, by decide, mj_in 162 (by decide +kernel) rfl⟩
theorem flX2_82 : mj_FL RX2 82 4 2 := ⟨(RX4, TX4, 5), rfl, by decide, mj_in 163 (by decide +kernel) rfl⟩
theorem flX5_235 : mj_FL RX5 235 4 2 := ⟨(RX4, TX4, 5), rfl, by decide, mj_in 164 (by decide +kernel) rfl⟩
theorem flX4_18 : mj_FL RX4 18 4 3 := ⟨(RX4, TX4, 5), rfl, by decide, mj_in 165 (by decide +kernel) rfl⟩
theorem flX4_21 : mj_FL RX4 21 4 4 := ⟨(RX4, TX4, 5), rfl, by decide, mj_in 166 (by decide +kernel) rfl⟩
theorem flX2_109 : mj_FL RX2 109 4 4 := ⟨(RX4, TX4, 5), rfl, by decide, mj_in 167 (by decide +kernel) rfl⟩
theorem lnX5_51 : (RX5, 51, yX2_init, RX5) ∈ mj_nests := by decide +kernel
theorem lnX2_26 : (RX2, 26, yX4_init, RX5) ∈ mj_nests := by decide +kernel
theorem flX2_9 : mj_FL RX2 9 2 0 := ⟨(RX2, TX2, 7), rfl, by decide, mj_in 187 (by decide +kernel) rfl⟩
theorem flX5_186 : mj_FL RX5 186 2 0 := ⟨(RX2, TX2, 7), rfl, by decide, mj_in 188 (by decide +kernel) rfl⟩
theorem flX2_15 : mj_FL RX2 15 2 1 := ⟨(RX2, TX2, 7), rfl, by decide, mj_in 189 (by decide +kernel) rfl⟩
theorem flX5_189 : mj_FL RX5 189 2 1 := ⟨(RX2, TX2, 7), rfl, by decide, mj_in 190 (by decide +kernel) rfl⟩
theorem flX2_18 : mj_FL RX2 18 2 2 := ⟨(RX2, TX2, 7), rfl, by decide, mj_in 191 (by decide +kernel) rfl⟩
theorem flX5_192 : mj_FL RX5 192 2 2 := ⟨(RX2, TX2, 7), rfl, by decide, mj_in 192 (by decide +kernel) rfl⟩
theorem flX2_35 : mj_FL RX2 35 2 3 := ⟨(RX2, TX2, 7), rfl, by decide, mj_in 193 (by decide +kernel) rfl⟩
theorem fpX2_35 : mj_FP RX2 35 2 3 .boolean := ⟨(RX2, TX2, 7), rfl, by decide, mj_in 193 (by decide +kernel) rfl, rfl, by decide +kernel⟩
theorem flX5_199 : mj_FL RX5 199 2 3 := ⟨(RX2, TX2, 7), rfl, by decide, mj_in 194 (by decide +kernel) rfl⟩
theorem fpX5_199 : mj_FP RX5 199 2 3 .boolean := ⟨(RX2, TX2, 7), rfl, by decide, mj_in 194 (by decide +kernel) rfl, rfl, by decide +kernel⟩
theorem flX2_21 : mj_FL RX2 21 2 4 := ⟨(RX2, TX2, 7), rfl, by decide, mj_in 195 (by decide +kernel) rfl⟩
theorem flX2_27 : mj_FL RX2 27 2 5 := ⟨(RX2, TX2, 7), rfl, by decide, mj_in 196 (by decide +kernel) rfl⟩
theorem flX2_43 : mj_FL RX2 43 2 6 := ⟨(RX2, TX2, 7), rfl, by decide, mj_in 197 (by decide +kernel) rfl⟩
theorem fpX2_43 : mj_FP RX2 43 2 6 .int := ⟨(RX2, TX2, 7), rfl, by decide, mj_in 197 (by decide +kernel) rfl, rfl, by decide +kernel⟩
theorem lkX5_58 : Cond.methodLink RX5 58 yX3_init ∈ mj_TB := mj_in 215 (by decide +kernel) rfl
theorem flX3_30 : mj_FL RX3 30 3 0 := ⟨(RX3, TX3, 9), rfl, by decide, mj_in 219 (by decide +kernel) rfl⟩
theorem fpX3_30 : mj_FP RX3 30 3 0 .int := ⟨(RX3, TX3, 9), rfl, by decide, mj_in 219 (by decide +kernel) rfl, rfl, by decide +kernel⟩
theorem flX5_206 : mj_FL RX5 206 3 0 := ⟨(RX3, TX3, 9), rfl, by decide, mj_in 220 (by decide +kernel) rfl⟩
theorem fpX5_206 : mj_FP RX5 206 3 0 .int := ⟨(RX3, TX3, 9), rfl, by decide, mj_in 220 (by decide +kernel) rfl, rfl, by decide +kernel⟩
theorem flX3_34 : mj_FL RX3 34 3 1 := ⟨(RX3, TX3, 9), rfl, by decide, mj_in 221 (by decide +kernel) rfl⟩
theorem fpX3_34 : mj_FP RX3 34 3 1 .int := ⟨(RX3, TX3, 9), rfl, by decide, mj_in 221 (by decide +kernel) rfl, rfl, by decide +kernel⟩
theorem flX5_215 : mj_FL RX5 215 3 1 := ⟨(RX3, TX3, 9), rfl, by decide, mj_in 222 (by decide +kernel) rfl⟩
theorem fpX5_215 : mj_FP RX5 215 3 1 .int := ⟨(RX3, TX3, 9), rfl, by decide, mj_in 222 (by decide +kernel) rfl, rfl, by decide +kernel⟩
theorem flX3_37 : mj_FL RX3 37 3 2 := ⟨(RX3, TX3, 9), rfl, by decide, mj_in 223 (by decide +kernel) rfl⟩
theorem fpX3_37 : mj_FP RX3 37 3 2 .int := ⟨(RX3, TX3, 9), rfl, by decide, mj_in 223 (by decide +kernel) rfl, rfl, by decide +kernel⟩
theorem flX5_209 : mj_FL RX5 209 3 2 := ⟨(RX3, TX3, 9), rfl, by decide, mj_in 224 (by decide +kernel) rfl⟩
theorem fpX5_209 : mj_FP RX5 209 3 2 .int := ⟨(RX3, TX3, 9), rfl, by decide, mj_in 224 (by decide +kernel) rfl, rfl, by decide +kernel⟩
theorem flX3_40 : mj_FL RX3 40 3 3 := ⟨(RX3, TX3, 9), rfl, by decide, mj_in 225 (by decide +kernel) rfl⟩
theorem fpX3_40 : mj_FP RX3 40 3 3 .int := ⟨(RX3, TX3, 9), rfl, by decide, mj_in 225 (by decide +kernel) rfl, rfl, by decide +kernel⟩
theorem flX5_212 : mj_FL RX5 212 3 3 := ⟨(RX3, TX3, 9), rfl, by decide, mj_in 226 (by decide +kernel) rfl⟩
theorem fpX5_212 : mj_FP RX5 212 3 3 .int := ⟨(RX3, TX3, 9), rfl, by decide, mj_in 226 (by decide +kernel) rfl, rfl, by decide +kernel⟩
theorem flX3_9 : mj_FL RX3 9 3 4 := ⟨(RX3, TX3, 9), rfl, by decide, mj_in 227 (by decide +kernel) rfl⟩
theorem flX5_222 : mj_FL RX5 222 3 4 := ⟨(RX3, TX3, 9), rfl, by decide, mj_in 228 (by decide +kernel) rfl⟩
theorem flX3_15 : mj_FL RX3 15 3 5 := ⟨(RX3, TX3, 9), rfl, by decide, mj_in 229 (by decide +kernel) rfl⟩
theorem flX3_18 : mj_FL RX3 18 3 6 := ⟨(RX3, TX3, 9), rfl, by decide, mj_in 230 (by decide +kernel) rfl⟩
theorem flX3_21 : mj_FL RX3 21 3 7 := ⟨(RX3, TX3, 9), rfl, by decide, mj_in 231 (by decide +kernel) rfl⟩
theorem flX3_25 : mj_FL RX3 25 3 8 := ⟨(RX3, TX3, 9), rfl, by decide, mj_in 232 (by decide +kernel) rfl⟩
theorem lkX5_80 : Cond.methodLink RX5 80 yX5_write ∈ mj_TB := mj_in 301 (by decide +kernel) rfl
theorem lkX5_90 : Cond.methodLink RX5 90 yX5_isWithin ∈ mj_TB := mj_in 305 (by decide +kernel) rfl
theorem lkX5_84 : Cond.methodLink RX5 84 yX5_lay ∈ mj_TB := mj_in 308 (by decide +kernel) rfl
theorem lkX5_98 : Cond.methodLink RX5 98 yX1_read ∈ mj_TB := mj_in 312 (by decide +kernel) rfl
theorem lkX1_19 : Cond.methodLink RX1 19 Lib.Math.min.name ∈ mj_TB := mj_in 316 (by decide +kernel) rfl
theorem lkX1_37 : Cond.methodLink RX1 37 yX1_readItem ∈ mj_TB := mj_in 319 (by decide +kernel) rfl
theorem lkX1_41 : Cond.methodLink RX1 41 yX1_takes ∈ mj_TB := mj_in 323 (by decide +kernel) rfl
theorem lkX1_45 : Cond.methodLink RX1 45 yX1_readNode ∈ mj_TB := mj_in 327 (by decide +kernel) rfl
theorem lkX1_51 : Cond.methodLink RX1 51 yX1_readNumber ∈ mj_TB := mj_in 331 (by decide +kernel) rfl
theorem lkX1_93 : Cond.methodLink RX1 93 yX1_readFigure ∈ mj_TB := mj_in 335 (by decide +kernel) rfl
theorem lnX1_55 : (RX1, 55, yX5_isWithin, RX5) ∈ mj_nests := by decide +kernel
theorem lnX1_63 : (RX1, 63, yX5_choicePlace, RX5) ∈ mj_nests := by decide +kernel
theorem lkX1_66 : Cond.methodLink RX1 66 yX0_addNode ∈ mj_TB := mj_in 343 (by decide +kernel) rfl
theorem lkX1_48 : Cond.methodLink RX1 48 yX1_readTie ∈ mj_TB := mj_in 347 (by decide +kernel) rfl
theorem lkX1_70 : Cond.methodLink RX1 70 yX0_areTied ∈ mj_TB := mj_in 351 (by decide +kernel) rfl
theorem lnX0_38 : (RX0, 38, yX5_hasBit, RX5) ∈ mj_nests := by decide +kernel
theorem lkX1_74 : Cond.methodLink RX1 74 yX0_tieCount ∈ mj_TB := mj_in 358 (by decide +kernel) rfl
theorem lkX0_42 : Cond.methodLink RX0 42 yJ6_bitCount_0f7a4 ∈ mj_TB := mj_in 362 (by decide +kernel) rfl
theorem kcJ6_265 : Cond.constant RJ6 265 (1431655765) ∈ mj_TB := mj_in 365 (by decide +kernel) rfl
theorem kcJ6_266 : Cond.constant RJ6 266 (858993459) ∈ mj_TB := mj_in 366 (by decide +kernel) rfl
theorem kcJ6_267 : Cond.constant RJ6 267 (252645135) ∈ mj_TB := mj_in 367 (by decide +kernel) rfl
theorem lnX1_83 : (RX1, 83, yX5_joinByNoughts, RX5) ∈ mj_nests := by decide +kernel
theorem lkX5_166 : Cond.methodLink RX5 166 yX5_entryPlace ∈ mj_TB := mj_in 371 (by decide +kernel) rfl
theorem lkX1_87 : Cond.methodLink RX1 87 yX1_readTable ∈ mj_TB := mj_in 374 (by decide +kernel) rfl
theorem lnX1_96 : (RX1, 96, yX5_entryPlace, RX5) ∈ mj_nests := by decide +kernel
theorem lkX5_104 : Cond.methodLink RX5 104 yX0_copyFrom ∈ mj_TB := mj_in 379 (by decide +kernel) rfl
theorem lnX0_34 : (RX0, 34, yX5_copyRow, RX5) ∈ mj_nests := by decide +kernel
theorem lkX5_256 : Cond.methodLink RX5 256 Lib.Math.min.name ∈ mj_TB := mj_in 386 (by decide +kernel) rfl
theorem lkX5_261 : Cond.methodLink RX5 261 arraycopyName ∈ mj_TB := mj_in 387 (by decide +kernel) rfl
theorem lkX5_114 : Cond.methodLink RX5 114 yX5_forgetAnswers ∈ mj_TB := mj_in 390 (by decide +kernel) rfl
theorem lkX5_87 : Cond.methodLink RX5 87 yX5_wipe ∈ mj_TB := mj_in 394 (by decide +kernel) rfl
theorem flX5_9 : mj_FL RX5 9 5 0 := ⟨(RX5, TX5, 17), rfl, by decide, mj_in 398 (by decide +kernel) rfl⟩
theorem flX5_94 : mj_FL RX5 94 5 1 := ⟨(RX5, TX5, 17), rfl, by decide, mj_in 399 (by decide +kernel) rfl⟩
theorem fpX5_94 : mj_FP RX5 94 5 1 .int := ⟨(RX5, TX5, 17), rfl, by decide, mj_in 399 (by decide +kernel) rfl, rfl, by decide +kernel⟩
theorem flX5_16 : mj_FL RX5 16 5 2 := ⟨(RX5, TX5, 17), rfl, by decide, mj_in 400 (by decide +kernel) rfl⟩
theorem flX5_20 : mj_FL RX5 20 5 3 := ⟨(RX5, TX5, 17), rfl, by decide, mj_in 401 (by decide +kernel) rfl⟩
theorem flX5_28 : mj_FL RX5 28 5 4 := ⟨(RX5, TX5, 17), rfl, by decide, mj_in 402 (by decide +kernel) rfl⟩
theorem flX5_32 : mj_FL RX5 32 5 5 := ⟨(RX5, TX5, 17), rfl, by decide, mj_in 403 (by decide +kernel) rfl⟩
theorem flX5_108 : mj_FL RX5 108 5 6 := ⟨(RX5, TX5, 17), rfl, by decide, mj_in 404 (by decide +kernel) rfl⟩
theorem fpX5_108 : mj_FP RX5 108 5 6 .int := ⟨(RX5, TX5, 17), rfl, by decide, mj_in 404 (by decide +kernel) rfl, rfl, by decide +kernel⟩
theorem flX5_36 : mj_FL RX5 36 5 7 := ⟨(RX5, TX5, 17), rfl, by decide, mj_in 405 (by decide +kernel) rfl⟩
theorem flX5_111 : mj_FL RX5 111 5 8 := ⟨(RX5, TX5, 17), rfl, by decide, mj_in 406 (by decide +kernel) rfl⟩
theorem fpX5_111 : mj_FP RX5 111 5 8 .int := ⟨(RX5, TX5, 17), rfl, by decide, mj_in 406 (by decide +kernel) rfl, rfl, by decide +kernel⟩
theorem flX5_42 : mj_FL RX5 42 5 9 := ⟨(RX5, TX5, 17), rfl, by decide, mj_in 407 (by decide +kernel) rfl⟩
theorem flX5_46 : mj_FL RX5 46 5 10 := ⟨(RX5, TX5, 17), rfl, by decide, mj_in 408 (by decide +kernel) rfl⟩
theorem flX5_52 : mj_FL RX5 52 5 11 := ⟨(RX5, TX5, 17), rfl, by decide, mj_in 409 (by decide +kernel) rfl⟩
theorem flX5_61 : mj_FL RX5 61 5 12 := ⟨(RX5, TX5, 17), rfl, by decide, mj_in 410 (by decide +kernel) rfl⟩
theorem flX5_65 : mj_FL RX5 65 5 13 := ⟨(RX5, TX5, 17), rfl, by decide, mj_in 411 (by decide +kernel) rfl⟩
theorem flX5_242 : mj_FL RX5 242 5 14 := ⟨(RX5, TX5, 17), rfl, by decide, mj_in 412 (by decide +kernel) rfl⟩
theorem fpX5_242 : mj_FP RX5 242 5 14 .boolean := ⟨(RX5, TX5, 17), rfl, by decide, mj_in 412 (by decide +kernel) rfl, rfl, by decide +kernel⟩
theorem flX5_245 : mj_FL RX5 245 5 15 := ⟨(RX5, TX5, 17), rfl, by decide, mj_in 413 (by decide +kernel) rfl⟩
theorem fpX5_245 : mj_FP RX5 245 5 15 .boolean := ⟨(RX5, TX5, 17), rfl, by decide, mj_in 413 (by decide +kernel) rfl, rfl, by decide +kernel⟩
theorem flX5_248 : mj_FL RX5 248 5 16 := ⟨(RX5, TX5, 17), rfl, by decide, mj_in 414 (by decide +kernel) rfl⟩
theorem fpX5_248 : mj_FP RX5 248 5 16 .boolean := ⟨(RX5, TX5, 17), rfl, by decide, mj_in 414 (by decide +kernel) rfl, rfl, by decide +kernel⟩
theorem lkL_13 : Cond.methodLink RL 13 yX5_write ∈ mj_TB := mj_in 451 (by decide +kernel) rfl
theorem lkL_18 : Cond.methodLink RL 18 yX5_wipe ∈ mj_TB := mj_in 452 (by decide +kernel) rfl
theorem lkL_23 : Cond.methodLink RL 23 yX5_fault ∈ mj_TB := mj_in 453 (by decide +kernel) rfl
theorem lkL_27 : Cond.methodLink RL 27 yX5_lay ∈ mj_TB := mj_in 457 (by decide +kernel) rfl
theorem lkL_31 : Cond.methodLink RL 31 yX5_node ∈ mj_TB := mj_in 458 (by decide +kernel) rfl
theorem lkX5_117 : Cond.methodLink RX5 117 yX5_isNode ∈ mj_TB := mj_in 462 (by decide +kernel) rfl
theorem lkX5_131 : Cond.methodLink RX5 131 yJ6_bitCount_0f7a4 ∈ mj_TB := mj_in 466 (by decide +kernel) rfl
theorem lkX5_136 : Cond.methodLink RX5 136 yX5_pinnedTo ∈ mj_TB := mj_in 467 (by decide +kernel) rfl
theorem lkL_36 : Cond.methodLink RL 36 yX5_cost ∈ mj_TB := mj_in 471 (by decide +kernel) rfl
theorem lkX5_139 : Cond.methodLink RX5 139 yX5_isChoice ∈ mj_TB := mj_in 475 (by decide +kernel) rfl
theorem lkX5_143 : Cond.methodLink RX5 143 yX0_choiceCost ∈ mj_TB := mj_in 479 (by decide +kernel) rfl
theorem kcX0_48 : Cond.constant RX0 48 (1000000) ∈ mj_TB := mj_in 483 (by decide +kernel) rfl
theorem lnX0_49 : (RX0, 49, yX5_choicePlace, RX5) ∈ mj_nests := by decide +kernel
theorem lnX0_53 : (RX0, 53, yX5_capped, RX5) ∈ mj_nests := by decide +kernel
theorem kcX5_218 : Cond.constant RX5 218 (1000000) ∈ mj_TB := mj_in 488 (by decide +kernel) rfl
theorem lkL_40 : Cond.methodLink RL 40 yX5_tie ∈ mj_TB := mj_in 489 (by decide +kernel) rfl
theorem lkX5_147 : Cond.methodLink RX5 147 yX0_areTied ∈ mj_TB := mj_in 493 (by decide +kernel) rfl
theorem lkX5_150 : Cond.methodLink RX5 150 yX0_tieCost ∈ mj_TB := mj_in 494 (by decide +kernel) rfl
theorem lnX0_56 : (RX0, 56, yX5_entryPlace, RX5) ∈ mj_nests := by decide +kernel
theorem lkL_45 : Cond.methodLink RL 45 yX5_price ∈ mj_TB := mj_in 499 (by decide +kernel) rfl
theorem lkX5_157 : Cond.methodLink RX5 157 yX5_choicePlace ∈ mj_TB := mj_in 503 (by decide +kernel) rfl
theorem lkX5_160 : Cond.methodLink RX5 160 yX5_beginAct ∈ mj_TB := mj_in 504 (by decide +kernel) rfl
theorem lkX5_239 : Cond.methodLink RX5 239 yX5_dropOldest ∈ mj_TB := mj_in 508 (by decide +kernel) rfl
theorem lkL_50 : Cond.methodLink RL 50 yX5_table ∈ mj_TB := mj_in 512 (by decide +kernel) rfl
theorem lkX5_169 : Cond.methodLink RX5 169 yX0_tieCount ∈ mj_TB := mj_in 516 (by decide +kernel) rfl
theorem lkX5_172 : Cond.methodLink RX5 172 yX5_joinByNoughts ∈ mj_TB := mj_in 517 (by decide +kernel) rfl
theorem lkL_55 : Cond.methodLink RL 55 yX5_loose ∈ mj_TB := mj_in 518 (by decide +kernel) rfl
theorem lkX5_176 : Cond.methodLink RX5 176 yX5_part ∈ mj_TB := mj_in 522 (by decide +kernel) rfl
theorem lkL_59 : Cond.methodLink RL 59 yX5_pin ∈ mj_TB := mj_in 525 (by decide +kernel) rfl
theorem lkL_63 : Cond.methodLink RL 63 yX5_rename ∈ mj_TB := mj_in 529 (by decide +kernel) rfl
theorem lkL_67 : Cond.methodLink RL 67 yX5_undo ∈ mj_TB := mj_in 533 (by decide +kernel) rfl
theorem lkL_71 : Cond.methodLink RL 71 yX5_turn ∈ mj_TB := mj_in 537 (by decide +kernel) rfl
theorem lkX5_183 : Cond.methodLink RX5 183 yX5_bringReduction ∈ mj_TB := mj_in 541 (by decide +kernel) rfl
theorem lkX5_251 : Cond.methodLink RX5 251 yX5_bringWeights ∈ mj_TB := mj_in 545 (by decide +kernel) rfl
theorem lkX5_225 : Cond.methodLink RX5 225 yX4_weigh ∈ mj_TB := mj_in 549 (by decide +kernel) rfl
theorem lnX4_32 : (RX4, 32, yX5_copyRow, RX5) ∈ mj_nests := by decide +kernel
theorem lnX4_37 : (RX4, 37, yX5_choicePlace, RX5) ∈ mj_nests := by decide +kernel
theorem lkX4_41 : Cond.methodLink RX4 41 yX0_choiceCost ∈ mj_TB := mj_in 555 (by decide +kernel) rfl
theorem lkX4_44 : Cond.methodLink RX4 44 yX4_areTied ∈ mj_TB := mj_in 556 (by decide +kernel) rfl
theorem lnX4_59 : (RX4, 59, yX5_hasBit, RX5) ∈ mj_nests := by decide +kernel
theorem lkX4_48 : Cond.methodLink RX4 48 yX4_weighTable ∈ mj_TB := mj_in 561 (by decide +kernel) rfl
theorem lnX4_52 : (RX4, 52, yX5_entryPlace, RX5) ∈ mj_nests := by decide +kernel
theorem lkX4_56 : Cond.methodLink RX4 56 yX0_tieCost ∈ mj_TB := mj_in 566 (by decide +kernel) rfl
theorem lkX5_254 : Cond.methodLink RX5 254 yX2_run ∈ mj_TB := mj_in 567 (by decide +kernel) rfl
theorem lkX2_31 : Cond.methodLink RX2 31 yX4_weigh ∈ mj_TB := mj_in 571 (by decide +kernel) rfl
theorem lkX2_46 : Cond.methodLink RX2 46 yX2_nextNode ∈ mj_TB := mj_in 572 (by decide +kernel) rfl
theorem lnX2_85 : (RX2, 85, yX5_hasBit, RX5) ∈ mj_nests := by decide +kernel
theorem lkX2_89 : Cond.methodLink RX2 89 yX2_comesAhead ∈ mj_TB := mj_in 577 (by decide +kernel) rfl
theorem lkX2_50 : Cond.methodLink RX2 50 yX2_matesLeft ∈ mj_TB := mj_in 581 (by decide +kernel) rfl
theorem lkX2_54 : Cond.methodLink RX2 54 yJ6_bitCount_0f7a4 ∈ mj_TB := mj_in 585 (by decide +kernel) rfl
theorem lkX2_59 : Cond.methodLink RX2 59 Lib.Math.min.name ∈ mj_TB := mj_in 586 (by decide +kernel) rfl
theorem lkX2_65 : Cond.methodLink RX2 65 yJ6_numberOfTrailingZeros_0f7a4 ∈ mj_TB := mj_in 587 (by decide +kernel) rfl
theorem kcJ6_264 : Cond.constant RJ6 264 (65536) ∈ mj_TB := mj_in 590 (by decide +kernel) rfl
theorem lkX2_68 : Cond.methodLink RX2 68 yX2_foldIntoOne ∈ mj_TB := mj_in 591 (by decide +kernel) rfl
theorem kcX2_95 : Cond.constant RX2 95 (1000000) ∈ mj_TB := mj_in 595 (by decide +kernel) rfl
theorem lkX2_96 : Cond.methodLink RX2 96 yX4_costAt ∈ mj_TB := mj_in 596 (by decide +kernel) rfl
theorem lkX2_99 : Cond.methodLink RX2 99 yX4_entryAt ∈ mj_TB := mj_in 600 (by decide +kernel) rfl
theorem lkX2_103 : Cond.methodLink RX2 103 yX4_addCost ∈ mj_TB := mj_in 604 (by decide +kernel) rfl
theorem lnX4_62 : (RX4, 62, yX5_capped, RX5) ∈ mj_nests := by decide +kernel
theorem lkX2_72 : Cond.methodLink RX2 72 yX2_foldIntoTwo ∈ mj_TB := mj_in 609 (by decide +kernel) rfl
theorem lkX2_106 : Cond.methodLink RX2 106 yX4_areTied ∈ mj_TB := mj_in 613 (by decide +kernel) rfl
theorem lnX2_112 : (RX2, 112, yX5_joinByNoughts, RX5) ∈ mj_nests := by decide +kernel
theorem lkX2_116 : Cond.methodLink RX2 116 yX4_addEntry ∈ mj_TB := mj_in 615 (by decide +kernel) rfl
theorem lkX2_76 : Cond.methodLink RX2 76 yX2_guess ∈ mj_TB := mj_in 619 (by decide +kernel) rfl
theorem lkX2_120 : Cond.methodLink RX2 120 yX2_outlook ∈ mj_TB := mj_in 623 (by decide +kernel) rfl
theorem lkX2_124 : Cond.methodLink RX2 124 yX4_leastAcross ∈ mj_TB := mj_in 627 (by decide +kernel) rfl
theorem kcX4_66 : Cond.constant RX4 66 (1000000) ∈ mj_TB := mj_in 631 (by decide +kernel) rfl
theorem lkX4_74 : Cond.methodLink RX4 74 Lib.Math.min.name ∈ mj_TB := mj_in 632 (by decide +kernel) rfl
theorem lnX2_127 : (RX2, 127, yX5_capped, RX5) ∈ mj_nests := by decide +kernel
theorem lkX2_79 : Cond.methodLink RX2 79 yX2_readOff ∈ mj_TB := mj_in 634 (by decide +kernel) rfl
theorem lkX2_130 : Cond.methodLink RX2 130 yX2_firstLeast ∈ mj_TB := mj_in 638 (by decide +kernel) rfl
theorem lkX2_133 : Cond.methodLink RX2 133 yX4_costBeside ∈ mj_TB := mj_in 642 (by decide +kernel) rfl
theorem lkL_75 : Cond.methodLink RL 75 yX5_reduced ∈ mj_TB := mj_in 646 (by decide +kernel) rfl
theorem lkL_79 : Cond.methodLink RL 79 yX5_plan ∈ mj_TB := mj_in 650 (by decide +kernel) rfl
theorem lkX5_195 : Cond.methodLink RX5 195 yX4_planCost ∈ mj_TB := mj_in 654 (by decide +kernel) rfl
theorem lkX4_67 : Cond.methodLink RX4 67 yX4_matesBelow ∈ mj_TB := mj_in 658 (by decide +kernel) rfl
theorem lkX4_70 : Cond.methodLink RX4 70 yX4_costBeside ∈ mj_TB := mj_in 662 (by decide +kernel) rfl
theorem lkL_83 : Cond.methodLink RL 83 yX5_least ∈ mj_TB := mj_in 663 (by decide +kernel) rfl
theorem lkX5_203 : Cond.methodLink RX5 203 yX5_bringSearch ∈ mj_TB := mj_in 667 (by decide +kernel) rfl
theorem lkX5_232 : Cond.methodLink RX5 232 yX3_run ∈ mj_TB := mj_in 671 (by decide +kernel) rfl
theorem kcX3_29 : Cond.constant RX3 29 (1000000) ∈ mj_TB := mj_in 675 (by decide +kernel) rfl
theorem lkX3_48 : Cond.methodLink RX3 48 yX4_leastCost ∈ mj_TB := mj_in 676 (by decide +kernel) rfl
theorem lkX4_79 : Cond.methodLink RX4 79 yX4_costAt ∈ mj_TB := mj_in 680 (by decide +kernel) rfl
theorem lnX3_52 : (RX3, 52, yX5_capped, RX5) ∈ mj_nests := by decide +kernel
theorem lkX3_55 : Cond.methodLink RX3 55 yX3_tryFrom ∈ mj_TB := mj_in 682 (by decide +kernel) rfl
theorem lkX3_59 : Cond.methodLink RX3 59 yX3_takeIn ∈ mj_TB := mj_in 686 (by decide +kernel) rfl
theorem lnX3_73 : (RX3, 73, yX5_copyRow, RX5) ∈ mj_nests := by decide +kernel
theorem lkX3_77 : Cond.methodLink RX3 77 yX3_likeFirst ∈ mj_TB := mj_in 691 (by decide +kernel) rfl
theorem lkX3_63 : Cond.methodLink RX3 63 yX4_matesBelow ∈ mj_TB := mj_in 695 (by decide +kernel) rfl
theorem lkX3_69 : Cond.methodLink RX3 69 yX4_costBeside ∈ mj_TB := mj_in 696 (by decide +kernel) rfl
theorem lkX5_219 : Cond.methodLink RX5 219 yX4_bound ∈ mj_TB := mj_in 697 (by decide +kernel) rfl
theorem lkX4_85 : Cond.methodLink RX4 85 yX4_leastCost ∈ mj_TB := mj_in 701 (by decide +kernel) rfl
theorem lkX4_88 : Cond.methodLink RX4 88 yX4_leastEntry ∈ mj_TB := mj_in 702 (by decide +kernel) rfl
theorem lkX4_82 : Cond.methodLink RX4 82 yX4_entryAt ∈ mj_TB := mj_in 706 (by decide +kernel) rfl
theorem lkL_87 : Cond.methodLink RL 87 yX5_first ∈ mj_TB := mj_in 707 (by decide +kernel) rfl
theorem lkL_91 : Cond.methodLink RL 91 yX5_with ∈ mj_TB := mj_in 711 (by decide +kernel) rfl
theorem lkX5_228 : Cond.methodLink RX5 228 yX4_allowOnly ∈ mj_TB := mj_in 715 (by decide +kernel) rfl
theorem lkL_95 : Cond.methodLink RL 95 yX5_without ∈ mj_TB := mj_in 719 (by decide +kernel) rfl
theorem lkL_99 : Cond.methodLink RL 99 yX5_keep ∈ mj_TB := mj_in 723 (by decide +kernel) rfl
theorem lkL_103 : Cond.methodLink RL 103 yX5_back ∈ mj_TB := mj_in 727 (by decide +kernel) rfl
theorem lkL_107 : Cond.methodLink RL 107 yX5_count ∈ mj_TB := mj_in 731 (by decide +kernel) rfl
theorem lkX5_236 : Cond.methodLink RX5 236 yX0_pinCount ∈ mj_TB := mj_in 735 (by decide +kernel) rfl
theorem lkL_12 : Cond.methodLink RL 12 yX6_init ∈ mj_TB := mj_in 741 (by decide +kernel) rfl
theorem lkX6_61 : Cond.methodLink RX6 61 yX6_readNone ∈ mj_TB := mj_in 745 (by decide +kernel) rfl
theorem lkX6_64 : Cond.methodLink RX6 64 yX6_nodeIs ∈ mj_TB := mj_in 749 (by decide +kernel) rfl
theorem lkX6_68 : Cond.methodLink RX6 68 yX6_tableIs ∈ mj_TB := mj_in 753 (by decide +kernel) rfl
theorem lkX6_81 : Cond.methodLink RX6 81 yX6_entryAt ∈ mj_TB := mj_in 757 (by decide +kernel) rfl
theorem kcX6_72 : Cond.constant RX6 72 (300519) ∈ mj_TB := mj_in 760 (by decide +kernel) rfl
theorem kcX6_73 : Cond.constant RX6 73 (102301) ∈ mj_TB := mj_in 761 (by decide +kernel) rfl
theorem lkX6_74 : Cond.methodLink RX6 74 yX6_begin ∈ mj_TB := mj_in 762 (by decide +kernel) rfl
theorem flX6_93 : mj_FL RX6 93 6 0 := ⟨(RX6, TX6, 27), rfl, by decide, mj_in 766 (by decide +kernel) rfl⟩
theorem fpX6_93 : mj_FP RX6 93 6 0 .int := ⟨(RX6, TX6, 27), rfl, by decide, mj_in 766 (by decide +kernel) rfl, rfl, by decide +kernel⟩
theorem flX6_7 : mj_FL RX6 7 6 1 := ⟨(RX6, TX6, 27), rfl, by decide, mj_in 767 (by decide +kernel) rfl⟩
theorem flX6_132 : mj_FL RX6 132 6 2 := ⟨(RX6, TX6, 27), rfl, by decide, mj_in 768 (by decide +kernel) rfl⟩
theorem fpX6_132 : mj_FP RX6 132 6 2 .int := ⟨(RX6, TX6, 27), rfl, by decide, mj_in 768 (by decide +kernel) rfl, rfl, by decide +kernel⟩
theorem flX6_13 : mj_FL RX6 13 6 3 := ⟨(RX6, TX6, 27), rfl, by decide, mj_in 769 (by decide +kernel) rfl⟩
theorem flX6_77 : mj_FL RX6 77 6 4 := ⟨(RX6, TX6, 27), rfl, by decide, mj_in 770 (by decide +kernel) rfl⟩
theorem fpX6_77 : mj_FP RX6 77 6 4 .int := ⟨(RX6, TX6, 27), rfl, by decide, mj_in 770 (by decide +kernel) rfl, rfl, by decide +kernel⟩
theorem flX6_16 : mj_FL RX6 16 6 5 := ⟨(RX6, TX6, 27), rfl, by decide, mj_in 771 (by decide +kernel) rfl⟩
theorem flX6_19 : mj_FL RX6 19 6 6 := ⟨(RX6, TX6, 27), rfl, by decide, mj_in 772 (by decide +kernel) rfl⟩
theorem flX6_22 : mj_FL RX6 22 6 7 := ⟨(RX6, TX6, 27), rfl, by decide, mj_in 773 (by decide +kernel) rfl⟩
theorem flX6_25 : mj_FL RX6 25 6 8 := ⟨(RX6, TX6, 27), rfl, by decide, mj_in 774 (by decide +kernel) rfl⟩
theorem flX6_135 : mj_FL RX6 135 6 9 := ⟨(RX6, TX6, 27), rfl, by decide, mj_in 775 (by decide +kernel) rfl⟩
theorem fpX6_135 : mj_FP RX6 135 6 9 .int := ⟨(RX6, TX6, 27), rfl, by decide, mj_in 775 (by decide +kernel) rfl, rfl, by decide +kernel⟩
theorem flX6_28 : mj_FL RX6 28 6 10 := ⟨(RX6, TX6, 27), rfl, by decide, mj_in 776 (by decide +kernel) rfl⟩
theorem flX6_138 : mj_FL RX6 138 6 11 := ⟨(RX6, TX6, 27), rfl, by decide, mj_in 777 (by decide +kernel) rfl⟩
theorem fpX6_138 : mj_FP RX6 138 6 11 .int := ⟨(RX6, TX6, 27), rfl, by decide, mj_in 777 (by decide +kernel) rfl, rfl, by decide +kernel⟩
theorem flX6_96 : mj_FL RX6 96 6 12 := ⟨(RX6, TX6, 27), rfl, by decide, mj_in 778 (by decide +kernel) rfl⟩
theorem fpX6_96 : mj_FP RX6 96 6 12 .int := ⟨(RX6, TX6, 27), rfl, by decide, mj_in 778 (by decide +kernel) rfl, rfl, by decide +kernel⟩
theorem flX6_107 : mj_FL RX6 107 6 13 := ⟨(RX6, TX6, 27), rfl, by decide, mj_in 779 (by decide +kernel) rfl⟩
theorem fpX6_107 : mj_FP RX6 107 6 13 .int := ⟨(RX6, TX6, 27), rfl, by decide, mj_in 779 (by decide +kernel) rfl, rfl, by decide +kernel⟩
theorem flX6_31 : mj_FL RX6 31 6 14 := ⟨(RX6, TX6, 27), rfl, by decide, mj_in 780 (by decide +kernel) rfl⟩
theorem flX6_34 : mj_FL RX6 34 6 15 := ⟨(RX6, TX6, 27), rfl, by decide, mj_in 781 (by decide +kernel) rfl⟩
theorem flX6_37 : mj_FL RX6 37 6 16 := ⟨(RX6, TX6, 27), rfl, by decide, mj_in 782 (by decide +kernel) rfl⟩
theorem flX6_40 : mj_FL RX6 40 6 17 := ⟨(RX6, TX6, 27), rfl, by decide, mj_in 783 (by decide +kernel) rfl⟩
theorem flX6_43 : mj_FL RX6 43 6 18 := ⟨(RX6, TX6, 27), rfl, by decide, mj_in 784 (by decide +kernel) rfl⟩
theorem flX6_46 : mj_FL RX6 46 6 19 := ⟨(RX6, TX6, 27), rfl, by decide, mj_in 785 (by decide +kernel) rfl⟩
theorem flX6_49 : mj_FL RX6 49 6 20 := ⟨(RX6, TX6, 27), rfl, by decide, mj_in 786 (by decide +kernel) rfl⟩
theorem flX6_227 : mj_FL RX6 227 6 21 := ⟨(RX6, TX6, 27), rfl, by decide, mj_in 787 (by decide +kernel) rfl⟩
theorem fpX6_227 : mj_FP RX6 227 6 21 .int := ⟨(RX6, TX6, 27), rfl, by decide, mj_in 787 (by decide +kernel) rfl, rfl, by decide +kernel⟩
theorem flX6_230 : mj_FL RX6 230 6 22 := ⟨(RX6, TX6, 27), rfl, by decide, mj_in 788 (by decide +kernel) rfl⟩
theorem fpX6_230 : mj_FP RX6 230 6 22 .int := ⟨(RX6, TX6, 27), rfl, by decide, mj_in 788 (by decide +kernel) rfl, rfl, by decide +kernel⟩
theorem flX6_233 : mj_FL RX6 233 6 23 := ⟨(RX6, TX6, 27), rfl, by decide, mj_in 789 (by decide +kernel) rfl⟩
theorem fpX6_233 : mj_FP RX6 233 6 23 .int := ⟨(RX6, TX6, 27), rfl, by decide, mj_in 789 (by decide +kernel) rfl, rfl, by decide +kernel⟩
theorem flX6_52 : mj_FL RX6 52 6 24 := ⟨(RX6, TX6, 27), rfl, by decide, mj_in 790 (by decide +kernel) rfl⟩
theorem flX6_55 : mj_FL RX6 55 6 25 := ⟨(RX6, TX6, 27), rfl, by decide, mj_in 791 (by decide +kernel) rfl⟩
theorem flX6_58 : mj_FL RX6 58 6 26 := ⟨(RX6, TX6, 27), rfl, by decide, mj_in 792 (by decide +kernel) rfl⟩
theorem lkL_17 : Cond.methodLink RL 17 yX6_write ∈ mj_TB := mj_in 848 (by decide +kernel) rfl
theorem klX6_85 : Cond.constantLong RX6 85 (32) ∈ mj_TB := mj_in 852 (by decide +kernel) rfl
theorem klX6_87 : Cond.constantLong RX6 87 (126) ∈ mj_TB := mj_in 853 (by decide +kernel) rfl
theorem lkX6_89 : Cond.methodLink RX6 89 yX6_in ∈ mj_TB := mj_in 854 (by decide +kernel) rfl
theorem lkL_22 : Cond.methodLink RL 22 yX6_wipe ∈ mj_TB := mj_in 857 (by decide +kernel) rfl
theorem lkL_26 : Cond.methodLink RL 26 yX6_fault ∈ mj_TB := mj_in 861 (by decide +kernel) rfl
theorem lkX6_128 : Cond.methodLink RX6 128 yX6_readAll ∈ mj_TB := mj_in 865 (by decide +kernel) rfl
theorem lkX6_99 : Cond.methodLink RX6 99 yX6_letterAt ∈ mj_TB := mj_in 869 (by decide +kernel) rfl
theorem lkX6_122 : Cond.methodLink RX6 122 yX6_nodeItem ∈ mj_TB := mj_in 873 (by decide +kernel) rfl
theorem lkX6_112 : Cond.methodLink RX6 112 yX6_isNumber ∈ mj_TB := mj_in 877 (by decide +kernel) rfl
theorem klX6_103 : Cond.constantLong RX6 103 (48) ∈ mj_TB := mj_in 881 (by decide +kernel) rfl
theorem klX6_105 : Cond.constantLong RX6 105 (57) ∈ mj_TB := mj_in 882 (by decide +kernel) rfl
theorem klX6_110 : Cond.constantLong RX6 110 (2) ∈ mj_TB := mj_in 883 (by decide +kernel) rfl
theorem lkX6_125 : Cond.methodLink RX6 125 yX6_tieItem ∈ mj_TB := mj_in 884 (by decide +kernel) rfl
theorem lkX6_116 : Cond.methodLink RX6 116 yX6_tiesIn ∈ mj_TB := mj_in 888 (by decide +kernel) rfl
theorem klX6_120 : Cond.constantLong RX6 120 (9) ∈ mj_TB := mj_in 891 (by decide +kernel) rfl
theorem lkL_30 : Cond.methodLink RL 30 yX6_lay ∈ mj_TB := mj_in 892 (by decide +kernel) rfl
theorem lkL_35 : Cond.methodLink RL 35 yX6_node ∈ mj_TB := mj_in 896 (by decide +kernel) rfl
theorem lkX6_141 : Cond.methodLink RX6 141 yX6_isNode ∈ mj_TB := mj_in 900 (by decide +kernel) rfl
theorem klX6_150 : Cond.constantLong RX6 150 (3) ∈ mj_TB := mj_in 904 (by decide +kernel) rfl
theorem lkX6_152 : Cond.methodLink RX6 152 yX6_tiedMany ∈ mj_TB := mj_in 905 (by decide +kernel) rfl
theorem lkX6_146 : Cond.methodLink RX6 146 yX6_isTied ∈ mj_TB := mj_in 909 (by decide +kernel) rfl
theorem lkL_39 : Cond.methodLink RL 39 yX6_cost ∈ mj_TB := mj_in 913 (by decide +kernel) rfl
theorem lkX6_155 : Cond.methodLink RX6 155 yX6_isChoice ∈ mj_TB := mj_in 917 (by decide +kernel) rfl
theorem lkX6_158 : Cond.methodLink RX6 158 yX6_costOf ∈ mj_TB := mj_in 921 (by decide +kernel) rfl
theorem kcX6_145 : Cond.constant RX6 145 (1000000) ∈ mj_TB := mj_in 925 (by decide +kernel) rfl
theorem lkL_44 : Cond.methodLink RL 44 yX6_tie ∈ mj_TB := mj_in 926 (by decide +kernel) rfl
theorem lkX6_162 : Cond.methodLink RX6 162 yX6_tieOf ∈ mj_TB := mj_in 930 (by decide +kernel) rfl
theorem lkL_49 : Cond.methodLink RL 49 yX6_price ∈ mj_TB := mj_in 934 (by decide +kernel) rfl
theorem klX6_165 : Cond.constantLong RX6 165 (99) ∈ mj_TB := mj_in 938 (by decide +kernel) rfl
theorem lkX6_167 : Cond.methodLink RX6 167 yX6_note ∈ mj_TB := mj_in 939 (by decide +kernel) rfl
theorem lkL_54 : Cond.methodLink RL 54 yX6_table ∈ mj_TB := mj_in 943 (by decide +kernel) rfl
theorem lkL_58 : Cond.methodLink RL 58 yX6_loose ∈ mj_TB := mj_in 947 (by decide +kernel) rfl
theorem lkX6_170 : Cond.methodLink RX6 170 yX6_isPair ∈ mj_TB := mj_in 951 (by decide +kernel) rfl
theorem lkX6_173 : Cond.methodLink RX6 173 yX6_looseNow ∈ mj_TB := mj_in 955 (by decide +kernel) rfl
theorem lkL_62 : Cond.methodLink RL 62 yX6_pin ∈ mj_TB := mj_in 959 (by decide +kernel) rfl
theorem klX6_177 : Cond.constantLong RX6 177 (-1) ∈ mj_TB := mj_in 963 (by decide +kernel) rfl
theorem lkL_66 : Cond.methodLink RL 66 yX6_rename ∈ mj_TB := mj_in 964 (by decide +kernel) rfl
theorem lkL_70 : Cond.methodLink RL 70 yX6_undo ∈ mj_TB := mj_in 968 (by decide +kernel) rfl
theorem lkL_74 : Cond.methodLink RL 74 yX6_turn ∈ mj_TB := mj_in 972 (by decide +kernel) rfl
theorem lkX6_221 : Cond.methodLink RX6 221 yX6_reduceAll ∈ mj_TB := mj_in 976 (by decide +kernel) rfl
theorem lkX6_199 : Cond.methodLink RX6 199 yX6_aside ∈ mj_TB := mj_in 980 (by decide +kernel) rfl
theorem lkX6_179 : Cond.methodLink RX6 179 yX6_tableAt ∈ mj_TB := mj_in 984 (by decide +kernel) rfl
theorem lkX6_202 : Cond.methodLink RX6 202 yX6_nextOf ∈ mj_TB := mj_in 987 (by decide +kernel) rfl
theorem lkX6_185 : Cond.methodLink RX6 185 yX6_has ∈ mj_TB := mj_in 991 (by decide +kernel) rfl
theorem lkX6_188 : Cond.methodLink RX6 188 yX6_isAhead ∈ mj_TB := mj_in 994 (by decide +kernel) rfl
theorem lkX6_182 : Cond.methodLink RX6 182 yX6_ones ∈ mj_TB := mj_in 998 (by decide +kernel) rfl
theorem lkX6_205 : Cond.methodLink RX6 205 yX6_nthOf ∈ mj_TB := mj_in 1001 (by decide +kernel) rfl
theorem lkX6_208 : Cond.methodLink RX6 208 yX6_ruleOne ∈ mj_TB := mj_in 1004 (by decide +kernel) rfl
theorem lkX6_191 : Cond.methodLink RX6 191 yX6_atMost ∈ mj_TB := mj_in 1008 (by decide +kernel) rfl
theorem lkX6_211 : Cond.methodLink RX6 211 yX6_ruleTwo ∈ mj_TB := mj_in 1011 (by decide +kernel) rfl
theorem lkX6_214 : Cond.methodLink RX6 214 yX6_ruleThree ∈ mj_TB := mj_in 1015 (by decide +kernel) rfl
theorem kcX6_194 : Cond.constant RX6 194 (1000001) ∈ mj_TB := mj_in 1019 (by decide +kernel) rfl
theorem lkX6_195 : Cond.methodLink RX6 195 yX6_leastBeside ∈ mj_TB := mj_in 1020 (by decide +kernel) rfl
theorem lkX6_218 : Cond.methodLink RX6 218 yX6_takeBest ∈ mj_TB := mj_in 1024 (by decide +kernel) rfl
theorem lkL_78 : Cond.methodLink RL 78 yX6_reduced ∈ mj_TB := mj_in 1028 (by decide +kernel) rfl
theorem lkL_82 : Cond.methodLink RL 82 yX6_plan ∈ mj_TB := mj_in 1032 (by decide +kernel) rfl
theorem lkX6_224 : Cond.methodLink RX6 224 yX6_planCost ∈ mj_TB := mj_in 1036 (by decide +kernel) rfl
theorem lkL_86 : Cond.methodLink RL 86 yX6_least ∈ mj_TB := mj_in 1040 (by decide +kernel) rfl
theorem klX6_239 : Cond.constantLong RX6 239 (4) ∈ mj_TB := mj_in 1044 (by decide +kernel) rfl
theorem lkX6_241 : Cond.methodLink RX6 241 yX6_bound ∈ mj_TB := mj_in 1045 (by decide +kernel) rfl
theorem lkX6_244 : Cond.methodLink RX6 244 yX6_goAll ∈ mj_TB := mj_in 1049 (by decide +kernel) rfl
theorem lkX6_236 : Cond.methodLink RX6 236 yX6_meetPlan ∈ mj_TB := mj_in 1053 (by decide +kernel) rfl
theorem lkX6_247 : Cond.methodLink RX6 247 yX6_sameSet ∈ mj_TB := mj_in 1057 (by decide +kernel) rfl
theorem lkL_90 : Cond.methodLink RL 90 yX6_first ∈ mj_TB := mj_in 1061 (by decide +kernel) rfl
theorem lkL_94 : Cond.methodLink RL 94 yX6_with ∈ mj_TB := mj_in 1065 (by decide +kernel) rfl
theorem lkL_98 : Cond.methodLink RL 98 yX6_without ∈ mj_TB := mj_in 1069 (by decide +kernel) rfl
theorem lkL_102 : Cond.methodLink RL 102 yX6_keep ∈ mj_TB := mj_in 1073 (by decide +kernel) rfl
theorem lkL_106 : Cond.methodLink RL 106 yX6_back ∈ mj_TB := mj_in 1077 (by decide +kernel) rfl
theorem lkL_110 : Cond.methodLink RL 110 yX6_count ∈ mj_TB := mj_in 1081 (by decide +kernel) rfl
theorem lkX6_250 : Cond.methodLink RX6 250 yX6_pinned ∈ mj_TB := mj_in 1085 (by decide +kernel) rfl
theorem iiL : Cond.initialized RL ∈ mj_TB := mj_in 62 (by decide +kernel) rfl
theorem iiX5 : Cond.initialized RX5 ∈ mj_TB := mj_in 63 (by decide +kernel) rfl
theorem iiX0 : Cond.initialized RX0 ∈ mj_TB := mj_in 64 (by decide +kernel) rfl
theorem iiX1 : Cond.initialized RX1 ∈ mj_TB := mj_in 65 (by decide +kernel) rfl
theorem iiX4 : Cond.initialized RX4 ∈ mj_TB := mj_in 66 (by decide +kernel) rfl
theorem iiX2 : Cond.initialized RX2 ∈ mj_TB := mj_in 67 (by decide +kernel) rfl
theorem iiX3 : Cond.initialized RX3 ∈ mj_TB := mj_in 68 (by decide +kernel) rfl
theorem iiJ0 : Cond.initialized RJ0 ∈ mj_TB := mj_in 69 (by decide +kernel) rfl
theorem iiJ1 : Cond.initialized RJ1 ∈ mj_TB := mj_in 70 (by decide +kernel) rfl
theorem iiJ3 : Cond.initialized RJ3 ∈ mj_TB := mj_in 71 (by decide +kernel) rfl
theorem iiJ2 : Cond.initialized RJ2 ∈ mj_TB := mj_in 72 (by decide +kernel) rfl
theorem iiJ9 : Cond.initialized RJ9 ∈ mj_TB := mj_in 73 (by decide +kernel) rfl
theorem iiJ6 : Cond.initialized RJ6 ∈ mj_TB := mj_in 74 (by decide +kernel) rfl
theorem iiJ10 : Cond.initialized RJ10 ∈ mj_TB := mj_in 75 (by decide +kernel) rfl
theorem iiX6 : Cond.initialized RX6 ∈ mj_TB := mj_in 76 (by decide +kernel) rfl
theorem clL_7 : Cond.classLink RL 7 RX5 ∈ mj_TB := mj_in 77 (by decide +kernel) rfl
theorem isX5 : Cond.instantiable RX5 17 ∈ mj_TB := mj_in 78 (by decide +kernel) rfl
theorem loX5_3 : Cond.methodLink RX5 3 objectInit ∈ mj_TB := mj_in 82 (by decide +kernel) rfl
theorem clX5_13 : Cond.classLink RX5 13 RX0 ∈ mj_TB := mj_in 85 (by decide +kernel) rfl
theorem isX0 : Cond.instantiable RX0 7 ∈ mj_TB := mj_in 86 (by decide +kernel) rfl
theorem loX0_3 : Cond.methodLink RX0 3 objectInit ∈ mj_TB := mj_in 90 (by decide +kernel) rfl
theorem clX5_23 : Cond.classLink RX5 23 RX1 ∈ mj_TB := mj_in 130 (by decide +kernel) rfl
theorem isX1 : Cond.instantiable RX1 4 ∈ mj_TB := mj_in 131 (by decide +kernel) rfl
theorem loX1_3 : Cond.methodLink RX1 3 objectInit ∈ mj_TB := mj_in 135 (by decide +kernel) rfl
theorem clX5_39 : Cond.classLink RX5 39 RX4 ∈ mj_TB := mj_in 150 (by decide +kernel) rfl
theorem isX4 : Cond.instantiable RX4 5 ∈ mj_TB := mj_in 151 (by decide +kernel) rfl
theorem loX4_3 : Cond.methodLink RX4 3 objectInit ∈ mj_TB := mj_in 155 (by decide +kernel) rfl
theorem clX5_49 : Cond.classLink RX5 49 RX2 ∈ mj_TB := mj_in 179 (by decide +kernel) rfl
theorem isX2 : Cond.instantiable RX2 7 ∈ mj_TB := mj_in 180 (by decide +kernel) rfl
theorem loX2_3 : Cond.methodLink RX2 3 objectInit ∈ mj_TB := mj_in 184 (by decide +kernel) rfl
theorem clX2_24 : Cond.classLink RX2 24 RX4 ∈ mj_TB := mj_in 185 (by decide +kernel) rfl
theorem clX5_56 : Cond.classLink RX5 56 RX3 ∈ mj_TB := mj_in 213 (by decide +kernel) rfl
theorem isX3 : Cond.instantiable RX3 9 ∈ mj_TB := mj_in 214 (by decide +kernel) rfl
theorem loX3_3 : Cond.methodLink RX3 3 objectInit ∈ mj_TB := mj_in 218 (by decide +kernel) rfl
theorem clL_10 : Cond.classLink RL 10 RX6 ∈ mj_TB := mj_in 739 (by decide +kernel) rfl
theorem isX6 : Cond.instantiable RX6 27 ∈ mj_TB := mj_in 740 (by decide +kernel) rfl
theorem loX6_1 : Cond.methodLink RX6 1 objectInit ∈ mj_TB := mj_in 744 (by decide +kernel) rfl
theorem oi_im : Cond.instanceMethod objectInit ∈ mj_TB := mj_in 83 (by decide +kernel) rfl
theorem oi_co : Cond.code objectInit ⟨#[0xb1]⟩ 1 none ∈ mj_TB := mj_in 84 (by decide +kernel) rfl
theorem ar_i : Cond.arrayClass .int ∈ mj_TB := mj_in 129 (by decide +kernel) rfl
theorem ar_c : Cond.arrayClass .char ∈ mj_TB := mj_in 128 (by decide +kernel) rfl
theorem mn_st : Cond.static Lib.Math.min.name ∈ mj_TB := mj_in 317 (by decide +kernel) rfl
theorem mn_in : Cond.initialized "java/lang/Math" ∈ mj_TB := mj_in 73 (by decide +kernel) rfl
theorem mn_co : Cond.code Lib.Math.min.name Lib.Math.min.code 2 (some .int) ∈ mj_TB := mj_in 318 (by decide +kernel) rfl
theorem ac_na : Cond.native arraycopyName ∈ mj_TB := mj_in 389 (by decide +kernel) rfl
theorem ac_st : Cond.static arraycopyName ∈ mj_TB := mj_in 388 (by decide +kernel) rfl
theorem ac_in : Cond.initialized "java/lang/System" ∈ mj_TB := mj_in 75 (by decide +kernel) rfl
end
section
/-! rows over numbers that are nI of a Nat; small facts -/
section MJN
variable {g : mj_G} {y : mj_Y} {d pc : Nat} {lv : List (Nat × Value)} {st : List Value} {F A : mj_S} {Q : Option Value → mj_S → mj_S → Prop}
theorem j_top {x y0 : Int32} (h : x = y0) (k : J g y d pc lv (.int y0 :: st) F A Q) : J g y d pc lv (.int x :: st) F A Q := by rw [h]; exact k
theorem j_F {F' : mj_S} (h : F = F') (k : J g y d pc lv st F' A Q) : J g y d pc lv st F A Q := by rw [h]; exact k
theorem j_A {A' : mj_S} (h : A = A') (k : J g y d pc lv st F A' Q) : J g y d pc lv st F A Q := by rw [h]; exact k
theorem j_iaddN {a b : Nat} (hd : decode y.2.1 pc = .ok (.iadd, 1)) (k : J g y d (pc + 1) lv (.int (nI (a + b)) :: st) F A Q) : J g y d pc lv (.int (nI b) :: .int (nI a) :: st) F A Q := j_iadd hd (j_top (nI_add a b) k)
theorem j_imulN {a b : Nat} (hd : decode y.2.1 pc = .ok (.imul, 1)) (k : J g y d (pc + 1) lv (.int (nI (a * b)) :: st) F A Q) : J g y d pc lv (.int (nI b) :: .int (nI a) :: st) F A Q := j_imul hd (j_top (pk_mul a b) k)
theorem j_isubN {a b : Nat} (hd : decode y.2.1 pc = .ok (.isub, 1)) (h : b ≤ a) (k : J g y d (pc + 1) lv (.int (nI (a - b)) :: st) F A Q) : J g y d pc lv (.int (nI b) :: .int (nI a) :: st) F A Q := j_isub hd (j_top (pk_sub h) k)
theorem j_idivN {a b : Nat} (hd : decode y.2.1 pc = .ok (.idiv, 1)) (ha : a < 2147483648) (h0 : 0 < b) (hb : b < 2147483648) (k : J g y d (pc + 1) lv (.int (nI (a / b)) :: st) F A Q) : J g y d pc lv (.int (nI b) :: .int (nI a) :: st) F A Q := j_idiv hd (nI_ne0 h0 hb) (j_top (pk_div ha h0 hb) k)
theorem j_iremN {a b : Nat} (hd : decode y.2.1 pc = .ok (.irem, 1)) (ha : a < 2147483648) (h0 : 0 < b) (hb : b < 2147483648) (k : J g y d (pc + 1) lv (.int (nI (a % b)) :: st) F A Q) : J g y d pc lv (.int (nI b) :: .int (nI a) :: st) F A Q := j_irem hd (nI_ne0 h0 hb) (j_top (pk_rem ha h0 hb) k)
theorem mj_dec {a : Nat} (h : 0 < a) : nI a + Int32.ofInt (-1) = nI (a - 1) := by
  obtain ⟨b, rfl⟩ : ∃ b, a = b + 1 := ⟨a - 1, by omega⟩
  exact pk_m1 b
theorem j_ialdN {b n i : Nat} {z : Nat → Int32} (hd : decode y.2.1 pc = .ok (.iaload, 1)) (hb : b < (mj_n g)) (hsh : mj_sh g b = .inl (0, n, .inl z)) (hi : i < n) (hn : n < 2147483648) (k : J g y d (pc + 1) lv (.int (A b i) :: st) F A Q) : J g y d pc lv (.int (nI i) :: .ref b :: st) F A Q :=
  j_iald hd hb hsh (vp_in_nI hi hn) (by rw [nI_clamp (Nat.lt_trans hi hn)]; exact k)
theorem j_caldN {b n i : Nat} {z : Nat → Int32} (hd : decode y.2.1 pc = .ok (.caload, 1)) (hb : b < (mj_n g)) (hsh : mj_sh g b = .inl (1, n, .inl z)) (hi : i < n) (hn : n < 2147483648) (k : J g y d (pc + 1) lv (.int (A b i) :: st) F A Q) : J g y d pc lv (.int (nI i) :: .ref b :: st) F A Q :=
  j_cald hd hb hsh (vp_in_nI hi hn) (by rw [nI_clamp (Nat.lt_trans hi hn)]; exact k)
theorem j_iastN {b n i : Nat} {z : Nat → Int32} {x : Int32} (hd : decode y.2.1 pc = .ok (.iastore, 1)) (hb : b < (mj_n g)) (hsh : mj_sh g b = .inl (0, n, .inl z)) (hi : i < n) (hn : n < 2147483648) (k : J g y d (pc + 1) lv st F (mj_u A b i x) Q) : J g y d pc lv (.int x :: .int (nI i) :: .ref b :: st) F A Q :=
  j_iast hd hb hsh (vp_in_nI hi hn) (by rw [nI_clamp (Nat.lt_trans hi hn)]; exact k)
theorem j_castN {b n i : Nat} {z : Nat → Int32} {x : Int32} (hd : decode y.2.1 pc = .ok (.castore, 1)) (hb : b < (mj_n g)) (hsh : mj_sh g b = .inl (1, n, .inl z)) (hi : i < n) (hn : n < 2147483648) (k : J g y d (pc + 1) lv st F (mj_u A b i (vp_nar .char x)) Q) : J g y d pc lv (.int x :: .int (nI i) :: .ref b :: st) F A Q :=
  j_cast hd hb hsh (vp_in_nI hi hn) (by rw [nI_clamp (Nat.lt_trans hi hn)]; exact k)
theorem j_aaldN {b n i : Nat} {z : Nat → Option Nat} (hd : decode y.2.1 pc = .ok (.aaload, 1)) (hb : b < (mj_n g)) (hsh : mj_sh g b = .inl (2, n, .inr (.inr (.inr (.inr z))))) (hi : i < n) (hn : n < 2147483648) {r : Nat} (hr : A b i = nI r) (hr2 : r < 2147483648) (k : J g y d (pc + 1) lv (.ref r :: st) F A Q) : J g y d pc lv (.int (nI i) :: .ref b :: st) F A Q :=
  j_aald hd hb hsh (vp_in_nI hi hn) (by rw [nI_clamp (Nat.lt_trans hi hn), hr, nI_clamp hr2]; exact k)
theorem j_aastN {b n i r : Nat} {z : Nat → Option Nat} {ts : List Value} (hd : decode y.2.1 pc = .ok (.aastore, 1)) (hb : b < (mj_n g)) (hsh : mj_sh g b = .inl (2, n, .inr (.inr (.inr (.inr z))))) (hr : r < (mj_n g)) (hr2 : r < 2147483648) (hsr : mj_sh g r = .inr (0, ts)) (hi : i < n) (hn : n < 2147483648) (k : J g y d (pc + 1) lv st F (mj_u A b i (nI r)) Q) : J g y d pc lv (.ref r :: .int (nI i) :: .ref b :: st) F A Q :=
  j_aast hd hb hsh hr hr2 hsr (vp_in_nI hi hn) (by rw [nI_clamp (Nat.lt_trans hi hn)]; exact k)
theorem j_icmp_eqN {a b : Nat} {off : Int} {tgt : Nat} (hd : decode y.2.1 pc = .ok (.if_icmp .eq off, 3)) (ht : (pc : Int) + off = (tgt : Int)) (ha : a < 2147483648) (hb : b < 2147483648) (kt : a = b → J g y d tgt lv st F A Q) (kf : a ≠ b → J g y d (pc + 3) lv st F A Q) : J g y d pc lv (.int (nI b) :: .int (nI a) :: st) F A Q := j_icmp_eq hd ht (fun h => kt ((nI_eq ha hb).mp h)) (fun h => kf (fun e => h (by rw [e])))
theorem j_icmp_neN {a b : Nat} {off : Int} {tgt : Nat} (hd : decode y.2.1 pc = .ok (.if_icmp .ne off, 3)) (ht : (pc : Int) + off = (tgt : Int)) (ha : a < 2147483648) (hb : b < 2147483648) (kt : a ≠ b → J g y d tgt lv st F A Q) (kf : a = b → J g y d (pc + 3) lv st F A Q) : J g y d pc lv (.int (nI b) :: .int (nI a) :: st) F A Q := j_icmp_ne hd ht (fun h => kt (fun e => h (by rw [e]))) (fun h => kf ((nI_eq ha hb).mp h))
theorem j_icmp_ltN {a b : Nat} {off : Int} {tgt : Nat} (hd : decode y.2.1 pc = .ok (.if_icmp .lt off, 3)) (ht : (pc : Int) + off = (tgt : Int)) (ha : a < 2147483648) (hb : b < 2147483648) (kt : a < b → J g y d tgt lv st F A Q) (kf : b ≤ a → J g y d (pc + 3) lv st F A Q) : J g y d pc lv (.int (nI b) :: .int (nI a) :: st) F A Q := j_icmp_lt hd ht (fun h => kt ((nI_ltI ha hb).mp h)) (fun h => kf (Nat.not_lt.mp fun e => h ((nI_ltI ha hb).mpr e)))
theorem j_icmp_geN {a b : Nat} {off : Int} {tgt : Nat} (hd : decode y.2.1 pc = .ok (.if_icmp .ge off, 3)) (ht : (pc : Int) + off = (tgt : Int)) (ha : a < 2147483648) (hb : b < 2147483648) (kt : b ≤ a → J g y d tgt lv st F A Q) (kf : a < b → J g y d (pc + 3) lv st F A Q) : J g y d pc lv (.int (nI b) :: .int (nI a) :: st) F A Q := j_icmp_ge hd ht (fun h => kt ((nI_leI hb ha).mp h)) (fun h => kf (Nat.not_le.mp fun e => h ((nI_leI hb ha).mpr e)))
theorem j_icmp_gtN {a b : Nat} {off : Int} {tgt : Nat} (hd : decode y.2.1 pc = .ok (.if_icmp .gt off, 3)) (ht : (pc : Int) + off = (tgt : Int)) (ha : a < 2147483648) (hb : b < 2147483648) (kt : b < a → J g y d tgt lv st F A Q) (kf : a ≤ b → J g y d (pc + 3) lv st F A Q) : J g y d pc lv (.int (nI b) :: .int (nI a) :: st) F A Q := j_icmp_gt hd ht (fun h => kt ((nI_ltI hb ha).mp h)) (fun h => kf (Nat.not_lt.mp fun e => h ((nI_ltI hb ha).mpr e)))
theorem j_icmp_leN {a b : Nat} {off : Int} {tgt : Nat} (hd : decode y.2.1 pc = .ok (.if_icmp .le off, 3)) (ht : (pc : Int) + off = (tgt : Int)) (ha : a < 2147483648) (hb : b < 2147483648) (kt : a ≤ b → J g y d tgt lv st F A Q) (kf : b < a → J g y d (pc + 3) lv st F A Q) : J g y d pc lv (.int (nI b) :: .int (nI a) :: st) F A Q := j_icmp_le hd ht (fun h => kt ((nI_leI ha hb).mp h)) (fun h => kf (Nat.not_le.mp fun e => h ((nI_leI ha hb).mpr e)))
theorem j_if_eqN {a : Nat} {off : Int} {tgt : Nat} (hd : decode y.2.1 pc = .ok (.ifCond .eq off, 3)) (ht : (pc : Int) + off = (tgt : Int)) (ha : a < 2147483648) (kt : a = 0 → J g y d tgt lv st F A Q) (kf : 0 < a → J g y d (pc + 3) lv st F A Q) : J g y d pc lv (.int (nI a) :: st) F A Q := j_if_eq hd ht (fun h => kt ((nI_eq ha (by decide)).mp (h.trans nI_0.symm))) (fun h => kf (Nat.pos_of_ne_zero fun e => h (by rw [e]; exact nI_0)))
theorem j_if_neN {a : Nat} {off : Int} {tgt : Nat} (hd : decode y.2.1 pc = .ok (.ifCond .ne off, 3)) (ht : (pc : Int) + off = (tgt : Int)) (ha : a < 2147483648) (kt : 0 < a → J g y d tgt lv st F A Q) (kf : a = 0 → J g y d (pc + 3) lv st F A Q) : J g y d pc lv (.int (nI a) :: st) F A Q := j_if_ne hd ht (fun h => kt (Nat.pos_of_ne_zero fun e => h (by rw [e]; exact nI_0))) (fun h => kf ((nI_eq ha (by decide)).mp (h.trans nI_0.symm)))
theorem j_if_ltN {a : Nat} {off : Int} {tgt : Nat} (hd : decode y.2.1 pc = .ok (.ifCond .lt off, 3)) (ht : (pc : Int) + off = (tgt : Int)) (ha : a < 2147483648) (kt : False → J g y d tgt lv st F A Q) (kf : 0 ≤ a → J g y d (pc + 3) lv st F A Q) : J g y d pc lv (.int (nI a) :: st) F A Q := j_if_lt hd ht (fun h => absurd h (nI_pos ha)) (fun _ => kf (Nat.zero_le _))
theorem j_if_geN {a : Nat} {off : Int} {tgt : Nat} (hd : decode y.2.1 pc = .ok (.ifCond .ge off, 3)) (ht : (pc : Int) + off = (tgt : Int)) (ha : a < 2147483648) (kt : 0 ≤ a → J g y d tgt lv st F A Q) (kf : False → J g y d (pc + 3) lv st F A Q) : J g y d pc lv (.int (nI a) :: st) F A Q := j_if_ge hd ht (fun _ => kt (Nat.zero_le _)) (fun h => absurd (nI_pos' ha) h)
theorem j_if_gtN {a : Nat} {off : Int} {tgt : Nat} (hd : decode y.2.1 pc = .ok (.ifCond .gt off, 3)) (ht : (pc : Int) + off = (tgt : Int)) (ha : a < 2147483648) (kt : 0 < a → J g y d tgt lv st F A Q) (kf : a = 0 → J g y d (pc + 3) lv st F A Q) : J g y d pc lv (.int (nI a) :: st) F A Q := j_if_gt hd ht (fun h => kt (Nat.pos_of_ne_zero fun e => by rw [e, nI_0] at h; exact absurd h (by decide))) (fun h => kf (Nat.eq_zero_of_not_pos fun e => h (by rw [← nI_0]; exact nI_lt e ha)))
theorem j_if_leN {a : Nat} {off : Int} {tgt : Nat} (hd : decode y.2.1 pc = .ok (.ifCond .le off, 3)) (ht : (pc : Int) + off = (tgt : Int)) (ha : a < 2147483648) (kt : a = 0 → J g y d tgt lv st F A Q) (kf : 0 < a → J g y d (pc + 3) lv st F A Q) : J g y d pc lv (.int (nI a) :: st) F A Q := j_if_le hd ht (fun h => kt (Nat.eq_zero_of_not_pos fun e => nI_nle e ha h)) (fun h => kf (Nat.pos_of_ne_zero fun e => h (by rw [e, nI_0]; decide)))
end MJN
theorem mj_sw (x : Int32) {lo hi : Int} {n : Nat} (h : ¬ (x.toInt < lo ∨ hi < x.toInt)) (hn : hi = lo + (n : Int) - 1) : ∃ q : Nat, q < n ∧ x.toInt = lo + (q : Int) := ⟨(x.toInt - lo).toNat, by omega, by omega⟩
/-- the first n of f lie in 0 .. B -/
def rg (f : Nat → Int32) (n B : Nat) : Prop := ∀ j, j < n → ∃ t, t ≤ B ∧ f j = nI t
theorem rg_upd {f : Nat → Int32} {n B i t : Nat} (h : rg f n B) (ht : t ≤ B) : rg (upd f i (nI t)) n B := by
  intro j hj
  by_cases e : j = i
  · exact ⟨t, ht, by simp [upd, e]⟩
  · obtain ⟨t', h1, h2⟩ := h j hj
    exact ⟨t', h1, by simp [upd, e]; exact h2⟩
theorem rg_u {A : mj_S} {k n B i t : Nat} (h : rg (A k) n B) (ht : t ≤ B) : rg (mj_u A k i (nI t) k) n B := by rw [mj_u_at]; exact rg_upd h ht
theorem nI_lit {x : Int32} {n : Nat} (h : x = nI n) : x = nI n := h
theorem wide_le (a b : Int32) : a.toInt64 ≤ b.toInt64 ↔ a ≤ b := by
  rw [Int64.le_iff_toInt_le, Int32.toInt_toInt64, Int32.toInt_toInt64, ← Int32.le_iff_toInt_le]
theorem nz1 : ¬ (1 : Int32) = 0 := by decide
theorem n01 : nI 1 = 1 := by decide +kernel
theorem n00 : nI 0 = 0 := by decide +kernel
/-- nothing changed; the answer is an int with P -/
def qP (F A : mj_S) (P : Int32 → Prop) : Option Value → mj_S → mj_S → Prop := fun v F' A' => F = F' ∧ A = A' ∧ ∃ r, v = some (.int r) ∧ P r
/-- nothing changed; the answer is nI of a Nat with P -/
def qN (F A : mj_S) (P : Nat → Prop) : Option Value → mj_S → mj_S → Prop := fun v F' A' => F = F' ∧ A = A' ∧ ∃ r, v = some (.int (nI r)) ∧ P r
theorem lg_ge {a b : Int64} : ¬ lg_cmp a b < 0 ↔ b ≤ a := by
  unfold lg_cmp
  by_cases h : b < a
  · simp [h]; exact Int64.le_of_lt h
  · by_cases e : a = b
    · subst e; simp
    · simp [h, e]; exact Int64.lt_of_le_of_ne (Int64.not_lt.mp h) e
theorem lg_le {a b : Int64} : ¬ 0 < lg_cmp a b ↔ a ≤ b := by
  unfold lg_cmp
  by_cases h : b < a
  · simp [h]
  · by_cases e : a = b
    · subst e; simp
    · simp [h, e]; exact Int64.not_lt.mp h
theorem mj_nz {r : Nat} (h : r ≤ 1) : narrow .boolean (.int (nI r)) = .int (nI r) := by
  rcases (show r = 0 ∨ r = 1 by omega) with rfl | rfl <;> decide +kernel
theorem dn1 {x : Int32} {k : Nat} (h : x + 1 = nI k) (hk : 0 < k) : x = nI (k - 1) := by
  obtain ⟨b, rfl⟩ : ∃ b, k = b + 1 := ⟨k - 1, by omega⟩
  have h2 : x = x + 1 - 1 := (Int32.add_sub_cancel x 1).symm
  rw [h2, h]
  exact nI_pred b
theorem dn2 (k : Nat) : nI k + Int32.ofInt (-1) + 1 = nI k := by
  rw [Int32.add_assoc, show Int32.ofInt (-1) + 1 = 0 from by decide +kernel, Int32.add_zero]
theorem dn0 {x : Int32} (h : x + 1 = nI 0) : x < 0 := by
  have : x = -1 := by
    have h2 : x = x + 1 - 1 := (Int32.add_sub_cancel x 1).symm
    rw [h2, h]; decide +kernel
  rw [this]; decide +kernel
theorem dn3 {k : Nat} (h : 0 < k) : nI (k - 1) + 1 = nI k := by
  obtain ⟨b, rfl⟩ : ∃ b, k = b + 1 := ⟨k - 1, by omega⟩
  exact nI_1 b
theorem in_lt {x : Int32} {n : Nat} (hn : n < 1073741824) : ((0 : Int64) ≤ x.toInt64 ∧ x.toInt64 ≤ (nI n - nI 1).toInt64) ↔ ∃ j, j < n ∧ x = nI j := by
  rw [Int64.le_iff_toInt_le, Int64.le_iff_toInt_le, Int32.toInt_toInt64, Int32.toInt_toInt64, pk_sub_toInt hn (by omega), Int64.toInt_zero]
  constructor
  · intro h
    obtain ⟨j, hj, e⟩ := nI_of (x := x) (by rw [Int32.lt_iff_toInt_lt, Int32.toInt_zero]; omega)
    refine ⟨j, ?_, e⟩
    rw [e, nI_toInt hj] at h
    omega
  · rintro ⟨j, hj, rfl⟩
    rw [nI_toInt (by omega)]
    omega
def isC (n : Nat) (mm : Nat → Nat) (x y : Int32) : Prop := ∃ j k, j < n ∧ k < mm j ∧ x = nI j ∧ y = nI k
theorem isC_iff {n : Nat} {mm : Nat → Nat} (h8 : n ≤ 8) {j : Nat} (hj : j < n) {y : Int32} : isC n mm (nI j) y ↔ ∃ k, k < mm j ∧ y = nI k := by
  constructor
  · rintro ⟨j', k, h1, h2, h3, h4⟩
    obtain rfl := (nI_eq (by omega) (by omega)).mp h3
    exact ⟨k, h2, h4⟩
  · rintro ⟨k, h1, h2⟩
    exact ⟨j, k, hj, h1, rfl, h2⟩
end
section
/-! pure words: letters, the reading of a text, the rows of a graph -/
abbrev Tg : Type := Nat × mj_S × mj_S
abbrev Lg : Type := Nat × mj_S
def rd_c (t : Nat → Int32) (L k : Nat) : Int32 := if k < L then t k else 0
def cT (T : Tg) : Nat → Int32 := rd_c (T.2.2 1) T.1
def cL (L : Lg) : Nat → Int32 := rd_c (L.2 1) L.1
def eA (u v i j : Nat) : Nat := if u < v then 52 + 16 * (v * (v - 1) / 2 + u) + 4 * i + j else 52 + 16 * (u * (u - 1) / 2 + v) + 4 * j + i
theorem tri_lt : ∀ v, v < 8 → ∀ u, u < v → v * (v - 1) / 2 + u ≤ 27 ∧ v * (v - 1) ≤ 42 := by decide
theorem eA_lt {u v i j : Nat} (hu : u < 8) (hv : v < 8) (huv : u ≠ v) (hi : i < 4) (hj : j < 4) : eA u v i j < 500 := by
  unfold eA
  by_cases h : u < v
  · rw [if_pos h]; have := tri_lt v hv u h; omega
  · rw [if_neg h]; have := tri_lt u hu v (by omega); omega
theorem eA_ge (u v i j : Nat) : 52 ≤ eA u v i j := by
  unfold eA
  split <;> omega
def eP (u v i j : Nat) : Nat := if u < v then (v * (v - 1) / 2 + u) * 16 + i * 4 + j else (u * (u - 1) / 2 + v) * 16 + j * 4 + i
theorem eP_lt {u v i j : Nat} (hu : u < 8) (hv : v < 8) (huv : u ≠ v) (hi : i < 4) (hj : j < 4) : eP u v i j < 448 := by
  unfold eP
  by_cases h : u < v
  · rw [if_pos h]; have := tri_lt v hv u h; omega
  · rw [if_neg h]; have := tri_lt u hu v (by omega); omega
theorem eP_lt0 {u v : Nat} (hu : u < 8) (hv : v < 8) (huv : u ≠ v) : eP u v 0 0 ≤ 432 := by
  unfold eP
  by_cases h : u < v
  · rw [if_pos h]; have := tri_lt v hv u h; omega
  · rw [if_neg h]; have := tri_lt u hu v (by omega); omega
theorem eA_eP (u v i j : Nat) : eA u v i j = 52 + eP u v i j := by
  unfold eA eP
  split <;> omega
theorem eP_sym {u v : Nat} (i j : Nat) (h : u ≠ v) : eP u v i j = eP v u j i := by
  unfold eP
  by_cases hl : u < v
  · rw [if_pos hl, if_neg (by omega)]
  · rw [if_neg hl, if_pos (by omega)]
theorem eA_sym {u v : Nat} (i j : Nat) (h : u ≠ v) : eA u v i j = eA v u j i := by rw [eA_eP, eA_eP, eP_sym i j h]
theorem tri_inj : ∀ v, v < 8 → ∀ u, u < v → ∀ v', v' < 8 → ∀ u', u' < v' → v * (v - 1) / 2 + u = v' * (v' - 1) / 2 + u' → u = u' ∧ v = v' := by
  intro v hv u hu v' hv' u' hu' e
  have h1 : v = 0 ∨ v = 1 ∨ v = 2 ∨ v = 3 ∨ v = 4 ∨ v = 5 ∨ v = 6 ∨ v = 7 := by omega
  have h2 : v' = 0 ∨ v' = 1 ∨ v' = 2 ∨ v' = 3 ∨ v' = 4 ∨ v' = 5 ∨ v' = 6 ∨ v' = 7 := by omega
  rcases h1 with rfl | rfl | rfl | rfl | rfl | rfl | rfl | rfl <;> rcases h2 with rfl | rfl | rfl | rfl | rfl | rfl | rfl | rfl <;> omega
theorem eP_inj {u v i j u' v' i' j' : Nat} (h : u < v) (hv : v < 8) (h' : u' < v') (hv' : v' < 8) (hi : i < 4) (hj : j < 4) (hi' : i' < 4) (hj' : j' < 4) (e : eP u v i j = eP u' v' i' j') : u = u' ∧ v = v' ∧ i = i' ∧ j = j' := by
  unfold eP at e
  rw [if_pos h, if_pos h'] at e
  obtain ⟨rfl, rfl⟩ := tri_inj v hv u h v' hv' u' h' (by omega)
  omega
theorem eA_inj {u v i j u' v' i' j' : Nat} (h : u < v) (hv : v < 8) (h' : u' < v') (hv' : v' < 8) (hi : i < 4) (hj : j < 4) (hi' : i' < 4) (hj' : j' < 4) (e : eA u v i j = eA u' v' i' j') : u = u' ∧ v = v' ∧ i = i' ∧ j = j' := eP_inj h hv h' hv' hi hj hi' hj' (by rw [eA_eP, eA_eP] at e; omega)
/-- a figure -/
def rd_d (c : Nat → Int32) (k : Nat) : Option Nat := if nI 48 ≤ c k ∧ c k ≤ nI 57 then some ((c k).toNatClampNeg - 48) else none
theorem rd_d_some {c : Nat → Int32} {k a : Nat} (h : rd_d c k = some a) : a ≤ 9 ∧ c k = nI (48 + a) := by
  unfold rd_d at h
  by_cases hc : nI 48 ≤ c k ∧ c k ≤ nI 57
  · rw [if_pos hc] at h
    obtain ⟨j, hj, e⟩ := nI_of (x := c k) (fun h2 => by
      have h3 := hc.1
      rw [Int32.lt_iff_toInt_lt, Int32.toInt_zero] at h2
      rw [Int32.le_iff_toInt_le, nI_toInt (by omega)] at h3
      omega)
    rw [e, nI_clamp hj] at h
    rw [e, nI_leI (by omega) hj, nI_leI hj (by omega)] at hc
    have h := Option.some.inj h
    exact ⟨by omega, by rw [e, show j = 48 + a by omega]⟩
  · rw [if_neg hc] at h
    cases h
theorem rd_d_of {c : Nat → Int32} {k a : Nat} (h : c k = nI (48 + a)) (ha : a ≤ 9) : rd_d c k = some a := by
  unfold rd_d
  rw [h, if_pos ⟨nI_le (by omega) (by omega), nI_le (by omega) (by omega)⟩, nI_clamp (by omega)]
  congr 1
  omega
theorem rd_d_none {c : Nat → Int32} {k : Nat} (h : ¬ (nI 48 ≤ c k ∧ c k ≤ nI 57)) : rd_d c k = none := if_neg h
theorem rd_d_ne {c : Nat → Int32} {k a x : Nat} (h : rd_d c k = some a) (hx : x < 48 ∨ (57 < x ∧ x < 1000)) : c k ≠ nI x := by
  obtain ⟨h1, h2⟩ := rd_d_some h
  rw [h2]
  intro e
  have := (nI_eq (by omega) (by omega)).mp e
  omega
/-- a number of one figure or two (a third one is not looked at): what it is, where it ends -/
def rd_n (c : Nat → Int32) (k : Nat) : Option (Nat × Nat) := match rd_d c k with
  | none => none
  | some a => match rd_d c (k + 1) with
    | none => some (a, k + 1)
    | some b => some (10 * a + b, k + 2)
theorem rd_n_some {c : Nat → Int32} {k w k' : Nat} (h : rd_n c k = some (w, k')) : w ≤ 99 ∧ k < k' ∧ k' ≤ k + 2 ∧ ∃ a, rd_d c (k' - 1) = some a := by
  unfold rd_n at h
  cases h1 : rd_d c k with
  | none => rw [h1] at h; cases h
  | some a =>
    have ha := rd_d_some h1
    rw [h1] at h
    cases h2 : rd_d c (k + 1) with
    | none => rw [h2] at h; cases h; exact ⟨by omega, by omega, by omega, _, h1⟩
    | some b =>
      have hb := rd_d_some h2
      rw [h2] at h; cases h; exact ⟨by omega, by omega, by omega, _, h2⟩
def mmU (mm : Nat → Nat) (n q : Nat) : Nat → Nat := fun j => if j = n then q else mm j
/-- the OWN costs of node n from place k on, i of them read -/
def rd_o (c : Nat → Int32) (n : Nat) : Nat → Nat → Nat → (Nat → Int32) → Option (Nat × Nat × (Nat → Int32))
  | 0, _, _, _ => none
  | f + 1, k, i, row => if c k = nI 44 then (if i = 4 then none else match rd_n c (k + 1) with
      | none => none
      | some (w, k1) => rd_o c n f k1 (i + 1) (upd row (4 * n + i) (nI w))) else if c k = nI 59 ∧ 0 < i then some (k + 1, i, row) else none
abbrev rd_R : Type := Nat × Nat × (Nat → Nat) × (Nat → Int32)
def rd_node (c : Nat → Int32) (k n : Nat) (mm : Nat → Nat) (row : Nat → Int32) : Option rd_R := match rd_n c k with
  | none => none
  | some (w, k1) => if w ≤ 3 ∧ n < 8 then (match rd_o c n 6 k1 0 (upd row (32 + n) (nI w)) with
    | none => none
    | some (k', q, row') => some (k', n + 1, mmU mm n q, row')) else none
/-- the table's figures from the q-th on -/
def rd_tb (c : Nat → Int32) (mm : Nat → Nat) (u v : Nat) : Nat → Nat → Nat → (Nat → Int32) → Option (Nat × (Nat → Int32))
  | 0, _, _, _ => none
  | f + 1, k, q, row => if q < mm u * mm v then (match rd_d c k with
      | none => none
      | some a => rd_tb c mm u v f (k + 1) (q + 1) (upd row (eA u v (q / mm v) (q % mm v)) (nI (1 + a)))) else if c k = nI 59 then some (k + 1, row) else none
def tsN (row : Nat → Int32) : Nat → Nat
  | 0 => 0
  | p + 1 => tsN row p + (if 0 < row (52 + 16 * p) then 1 else 0)
def rd_tie (c : Nat → Int32) (k n : Nat) (mm : Nat → Nat) (row : Nat → Int32) : Option rd_R := match rd_n c k with
  | none => none
  | some (u, k1) => if c k1 = nI 44 then (match rd_n c (k1 + 1) with
    | none => none
    | some (v, k2) => if c k2 = nI 44 ∧ u < v ∧ v < n ∧ ¬ 0 < row (eA u v 0 0) ∧ tsN row 28 ≠ 12 then (match rd_tb c mm u v 17 (k2 + 1) 0 row with
      | none => none
      | some (k', row') => some (k', n, mm, row')) else none) else none
def rd_item (c : Nat → Int32) (k n : Nat) (mm : Nat → Nat) (row : Nat → Int32) : Option rd_R := if c k = nI 110 then rd_node c (k + 1) n mm row else if c k = nI 101 then rd_tie c (k + 1) n mm row else none
/-- the whole text from k on: where the first fault is, or what is read -/
def rd_all (c : Nat → Int32) (L : Nat) : Nat → Nat → Nat → (Nat → Nat) → (Nat → Int32) → Nat ⊕ (Nat × (Nat → Nat) × (Nat → Int32))
  | 0, k, _, _, _ => .inl k
  | f + 1, k, n, mm, row => if k < L then (match rd_item c k n mm row with
      | none => .inl k
      | some (k', n', mm', row') => rd_all c L f k' n' mm' row') else .inr (n, mm, row)
/-- what a text says -/
def rd_text (c : Nat → Int32) (L : Nat) : Nat ⊕ (Nat × (Nat → Nat) × (Nat → Int32)) := rd_all c L 201 0 0 (fun _ => 0) (fun _ => 0)
/-! who is tied to whom, of a row -/
def tdd (row : Nat → Int32) (u v : Nat) : Nat := if u ≠ v ∧ 0 < row (eA u v 0 0) then 1 else 0
def mkB (row : Nat → Int32) (u : Nat) : Nat := tdd row u 0 + 2 * tdd row u 1 + 4 * tdd row u 2 + 8 * tdd row u 3 + 16 * tdd row u 4 + 32 * tdd row u 5 + 64 * tdd row u 6 + 128 * tdd row u 7
theorem tdd_le (row : Nat → Int32) (u v : Nat) : tdd row u v ≤ 1 := by
  unfold tdd
  split <;> omega
theorem tdd_sym (row : Nat → Int32) (u v : Nat) : tdd row u v = tdd row v u := by
  unfold tdd
  by_cases h : u = v
  · rw [h]
  · rw [eA_sym 0 0 h]
    simp only [ne_eq, h, not_false_eq_true, true_and, show ¬ v = u from fun e => h e.symm]
theorem tdd_self (row : Nat → Int32) (u : Nat) : tdd row u u = 0 := if_neg (fun h => h.1 rfl)
theorem tdd_1 {row : Nat → Int32} {u v : Nat} (h : u ≠ v) (ht : 0 < row (eA u v 0 0)) : tdd row u v = 1 := if_pos ⟨h, ht⟩
theorem tdd_0 {row : Nat → Int32} {u v : Nat} (ht : ¬ 0 < row (eA u v 0 0)) : tdd row u v = 0 := if_neg (fun h => ht h.2)
theorem mkB_lt (row : Nat → Int32) (u : Nat) : mkB row u < 256 := by
  unfold mkB
  have h0 := tdd_le row u 0
  have h1 := tdd_le row u 1
  have h2 := tdd_le row u 2
  have h3 := tdd_le row u 3
  have h4 := tdd_le row u 4
  have h5 := tdd_le row u 5
  have h6 := tdd_le row u 6
  have h7 := tdd_le row u 7
  omega
theorem mkB_bit (row : Nat → Int32) (u : Nat) {v : Nat} (hv : v < 8) : mkB row u / 2 ^ v % 2 = tdd row u v := by
  unfold mkB
  have h0 := tdd_le row u 0
  have h1 := tdd_le row u 1
  have h2 := tdd_le row u 2
  have h3 := tdd_le row u 3
  have h4 := tdd_le row u 4
  have h5 := tdd_le row u 5
  have h6 := tdd_le row u 6
  have h7 := tdd_le row u 7
  match v, hv with
  | 0, _ => omega
  | 1, _ => omega
  | 2, _ => omega
  | 3, _ => omega
  | 4, _ => omega
  | 5, _ => omega
  | 6, _ => omega
  | 7, _ => omega
  | k + 8, h => exact absurd h (by omega)
theorem mkB_congr {row row' : Nat → Int32} {u : Nat} (h : ∀ v, v < 8 → tdd row u v = tdd row' u v) : mkB row u = mkB row' u := by
  unfold mkB
  rw [h 0 (by omega), h 1 (by omega), h 2 (by omega), h 3 (by omega), h 4 (by omega), h 5 (by omega), h 6 (by omega), h 7 (by omega)]
theorem mkB_add {row row' : Nat → Int32} {u w : Nat} (hw : w < 8) (h : ∀ v, v < 8 → v ≠ w → tdd row' u v = tdd row u v) (h0 : tdd row u w = 0) (h1 : tdd row' u w = 1) : mkB row' u = mkB row u + 2 ^ w := by
  unfold mkB
  match w, hw with
  | 0, _ =>
    have e1 := h 1 (by omega) (by omega)
    have e2 := h 2 (by omega) (by omega)
    have e3 := h 3 (by omega) (by omega)
    have e4 := h 4 (by omega) (by omega)
    have e5 := h 5 (by omega) (by omega)
    have e6 := h 6 (by omega) (by omega)
    have e7 := h 7 (by omega) (by omega)
    omega
  | 1, _ =>
    have e0 := h 0 (by omega) (by omega)
    have e2 := h 2 (by omega) (by omega)
    have e3 := h 3 (by omega) (by omega)
    have e4 := h 4 (by omega) (by omega)
    have e5 := h 5 (by omega) (by omega)
    have e6 := h 6 (by omega) (by omega)
    have e7 := h 7 (by omega) (by omega)
    omega
  | 2, _ =>
    have e0 := h 0 (by omega) (by omega)
    have e1 := h 1 (by omega) (by omega)
    have e3 := h 3 (by omega) (by omega)
    have e4 := h 4 (by omega) (by omega)
    have e5 := h 5 (by omega) (by omega)
    have e6 := h 6 (by omega) (by omega)
    have e7 := h 7 (by omega) (by omega)
    omega
  | 3, _ =>
    have e0 := h 0 (by omega) (by omega)
    have e1 := h 1 (by omega) (by omega)
    have e2 := h 2 (by omega) (by omega)
    have e4 := h 4 (by omega) (by omega)
    have e5 := h 5 (by omega) (by omega)
    have e6 := h 6 (by omega) (by omega)
    have e7 := h 7 (by omega) (by omega)
    omega
  | 4, _ =>
    have e0 := h 0 (by omega) (by omega)
    have e1 := h 1 (by omega) (by omega)
    have e2 := h 2 (by omega) (by omega)
    have e3 := h 3 (by omega) (by omega)
    have e5 := h 5 (by omega) (by omega)
    have e6 := h 6 (by omega) (by omega)
    have e7 := h 7 (by omega) (by omega)
    omega
  | 5, _ =>
    have e0 := h 0 (by omega) (by omega)
    have e1 := h 1 (by omega) (by omega)
    have e2 := h 2 (by omega) (by omega)
    have e3 := h 3 (by omega) (by omega)
    have e4 := h 4 (by omega) (by omega)
    have e6 := h 6 (by omega) (by omega)
    have e7 := h 7 (by omega) (by omega)
    omega
  | 6, _ =>
    have e0 := h 0 (by omega) (by omega)
    have e1 := h 1 (by omega) (by omega)
    have e2 := h 2 (by omega) (by omega)
    have e3 := h 3 (by omega) (by omega)
    have e4 := h 4 (by omega) (by omega)
    have e5 := h 5 (by omega) (by omega)
    have e7 := h 7 (by omega) (by omega)
    omega
  | 7, _ =>
    have e0 := h 0 (by omega) (by omega)
    have e1 := h 1 (by omega) (by omega)
    have e2 := h 2 (by omega) (by omega)
    have e3 := h 3 (by omega) (by omega)
    have e4 := h 4 (by omega) (by omega)
    have e5 := h 5 (by omega) (by omega)
    have e6 := h 6 (by omega) (by omega)
    omega
  | k + 8, h => exact absurd h (by omega)
/-- how many a node is tied to -/
def deg (row : Nat → Int32) (u : Nat) : Nat := tdd row u 0 + tdd row u 1 + tdd row u 2 + tdd row u 3 + tdd row u 4 + tdd row u 5 + tdd row u 6 + tdd row u 7
def degN (row : Nat → Int32) : Nat → Nat
  | 0 => 0
  | n + 1 => degN row n + deg row n
theorem deg_z {row : Nat → Int32} {u : Nat} (h : ∀ v, v < 8 → tdd row u v = 0) : deg row u = 0 := by
  unfold deg
  rw [h 0 (by omega), h 1 (by omega), h 2 (by omega), h 3 (by omega), h 4 (by omega), h 5 (by omega), h 6 (by omega), h 7 (by omega)]
theorem degN_all {row : Nat → Int32} {n : Nat} (hn : n ≤ 8) (h : ∀ u, n ≤ u → u < 8 → deg row u = 0) : degN row n = degN row 8 := by
  match n, hn with
  | 8, _ => rfl
  | 7, _ => show _ = degN row 7 + deg row 7; rw [h 7 (by omega) (by omega)]; rfl
  | 6, _ => show _ = degN row 6 + deg row 6 + deg row 7; rw [h 6 (by omega) (by omega), h 7 (by omega) (by omega)]; rfl
  | 5, _ => show _ = degN row 5 + deg row 5 + deg row 6 + deg row 7; rw [h 5 (by omega) (by omega), h 6 (by omega) (by omega), h 7 (by omega) (by omega)]; rfl
  | 4, _ => show _ = degN row 4 + deg row 4 + deg row 5 + deg row 6 + deg row 7; rw [h 4 (by omega) (by omega), h 5 (by omega) (by omega), h 6 (by omega) (by omega), h 7 (by omega) (by omega)]; rfl
  | 3, _ => show _ = degN row 3 + deg row 3 + deg row 4 + deg row 5 + deg row 6 + deg row 7; rw [h 3 (by omega) (by omega), h 4 (by omega) (by omega), h 5 (by omega) (by omega), h 6 (by omega) (by omega), h 7 (by omega) (by omega)]; rfl
  | 2, _ => show _ = degN row 2 + deg row 2 + deg row 3 + deg row 4 + deg row 5 + deg row 6 + deg row 7; rw [h 2 (by omega) (by omega), h 3 (by omega) (by omega), h 4 (by omega) (by omega), h 5 (by omega) (by omega), h 6 (by omega) (by omega), h 7 (by omega) (by omega)]; rfl
  | 1, _ => show _ = degN row 1 + deg row 1 + deg row 2 + deg row 3 + deg row 4 + deg row 5 + deg row 6 + deg row 7; rw [h 1 (by omega) (by omega), h 2 (by omega) (by omega), h 3 (by omega) (by omega), h 4 (by omega) (by omega), h 5 (by omega) (by omega), h 6 (by omega) (by omega), h 7 (by omega) (by omega)]; rfl
  | 0, _ => show _ = 0 + deg row 0 + deg row 1 + deg row 2 + deg row 3 + deg row 4 + deg row 5 + deg row 6 + deg row 7; rw [h 0 (by omega) (by omega), h 1 (by omega) (by omega), h 2 (by omega) (by omega), h 3 (by omega) (by omega), h 4 (by omega) (by omega), h 5 (by omega) (by omega), h 6 (by omega) (by omega), h 7 (by omega) (by omega)]; rfl
theorem tdd_p {row : Nat → Int32} {u v p : Nat} (h : u ≠ v) (e : eA u v 0 0 = 52 + 16 * p) : tdd row u v = if 0 < row (52 + 16 * p) then 1 else 0 := by
  unfold tdd
  rw [e]
  simp only [ne_eq, h, not_false_eq_true, true_and]
set_option maxHeartbeats 4000000 in
theorem degN_ts (row : Nat → Int32) : degN row 8 = 2 * tsN row 28 := by
  have e0_1 : tdd row 0 1 = if 0 < row (52 + 16 * 0) then 1 else 0 := tdd_p (by decide) (by decide)
  have e1_0 : tdd row 1 0 = if 0 < row (52 + 16 * 0) then 1 else 0 := tdd_p (by decide) (by decide)
  have e0_2 : tdd row 0 2 = if 0 < row (52 + 16 * 1) then 1 else 0 := tdd_p (by decide) (by decide)
  have e2_0 : tdd row 2 0 = if 0 < row (52 + 16 * 1) then 1 else 0 := tdd_p (by decide) (by decide)
  have e1_2 : tdd row 1 2 = if 0 < row (52 + 16 * 2) then 1 else 0 := tdd_p (by decide) (by decide)
  have e2_1 : tdd row 2 1 = if 0 < row (52 + 16 * 2) then 1 else 0 := tdd_p (by decide) (by decide)
  have e0_3 : tdd row 0 3 = if 0 < row (52 + 16 * 3) then 1 else 0 := tdd_p (by decide) (by decide)
  have e3_0 : tdd row 3 0 = if 0 < row (52 + 16 * 3) then 1 else 0 := tdd_p (by decide) (by decide)
  have e1_3 : tdd row 1 3 = if 0 < row (52 + 16 * 4) then 1 else 0 := tdd_p (by decide) (by decide)
  have e3_1 : tdd row 3 1 = if 0 < row (52 + 16 * 4) then 1 else 0 := tdd_p (by decide) (by decide)
  have e2_3 : tdd row 2 3 = if 0 < row (52 + 16 * 5) then 1 else 0 := tdd_p (by decide) (by decide)
  have e3_2 : tdd row 3 2 = if 0 < row (52 + 16 * 5) then 1 else 0 := tdd_p (by decide) (by decide)
  have e0_4 : tdd row 0 4 = if 0 < row (52 + 16 * 6) then 1 else 0 := tdd_p (by decide) (by decide)
  have e4_0 : tdd row 4 0 = if 0 < row (52 + 16 * 6) then 1 else 0 := tdd_p (by decide) (by decide)
  have e1_4 : tdd row 1 4 = if 0 < row (52 + 16 * 7) then 1 else 0 := tdd_p (by decide) (by decide)
  have e4_1 : tdd row 4 1 = if 0 < row (52 + 16 * 7) then 1 else 0 := tdd_p (by decide) (by decide)
  have e2_4 : tdd row 2 4 = if 0 < row (52 + 16 * 8) then 1 else 0 := tdd_p (by decide) (by decide)
  have e4_2 : tdd row 4 2 = if 0 < row (52 + 16 * 8) then 1 else 0 := tdd_p (by decide) (by decide)
  have e3_4 : tdd row 3 4 = if 0 < row (52 + 16 * 9) then 1 else 0 := tdd_p (by decide) (by decide)
  have e4_3 : tdd row 4 3 = if 0 < row (52 + 16 * 9) then 1 else 0 := tdd_p (by decide) (by decide)
  have e0_5 : tdd row 0 5 = if 0 < row (52 + 16 * 10) then 1 else 0 := tdd_p (by decide) (by decide)
  have e5_0 : tdd row 5 0 = if 0 < row (52 + 16 * 10) then 1 else 0 := tdd_p (by decide) (by decide)
  have e1_5 : tdd row 1 5 = if 0 < row (52 + 16 * 11) then 1 else 0 := tdd_p (by decide) (by decide)
  have e5_1 : tdd row 5 1 = if 0 < row (52 + 16 * 11) then 1 else 0 := tdd_p (by decide) (by decide)
  have e2_5 : tdd row 2 5 = if 0 < row (52 + 16 * 12) then 1 else 0 := tdd_p (by decide) (by decide)
  have e5_2 : tdd row 5 2 = if 0 < row (52 + 16 * 12) then 1 else 0 := tdd_p (by decide) (by decide)
  have e3_5 : tdd row 3 5 = if 0 < row (52 + 16 * 13) then 1 else 0 := tdd_p (by decide) (by decide)
  have e5_3 : tdd row 5 3 = if 0 < row (52 + 16 * 13) then 1 else 0 := tdd_p (by decide) (by decide)
  have e4_5 : tdd row 4 5 = if 0 < row (52 + 16 * 14) then 1 else 0 := tdd_p (by decide) (by decide)
  have e5_4 : tdd row 5 4 = if 0 < row (52 + 16 * 14) then 1 else 0 := tdd_p (by decide) (by decide)
  have e0_6 : tdd row 0 6 = if 0 < row (52 + 16 * 15) then 1 else 0 := tdd_p (by decide) (by decide)
  have e6_0 : tdd row 6 0 = if 0 < row (52 + 16 * 15) then 1 else 0 := tdd_p (by decide) (by decide)
  have e1_6 : tdd row 1 6 = if 0 < row (52 + 16 * 16) then 1 else 0 := tdd_p (by decide) (by decide)
  have e6_1 : tdd row 6 1 = if 0 < row (52 + 16 * 16) then 1 else 0 := tdd_p (by decide) (by decide)
  have e2_6 : tdd row 2 6 = if 0 < row (52 + 16 * 17) then 1 else 0 := tdd_p (by decide) (by decide)
  have e6_2 : tdd row 6 2 = if 0 < row (52 + 16 * 17) then 1 else 0 := tdd_p (by decide) (by decide)
  have e3_6 : tdd row 3 6 = if 0 < row (52 + 16 * 18) then 1 else 0 := tdd_p (by decide) (by decide)
  have e6_3 : tdd row 6 3 = if 0 < row (52 + 16 * 18) then 1 else 0 := tdd_p (by decide) (by decide)
  have e4_6 : tdd row 4 6 = if 0 < row (52 + 16 * 19) then 1 else 0 := tdd_p (by decide) (by decide)
  have e6_4 : tdd row 6 4 = if 0 < row (52 + 16 * 19) then 1 else 0 := tdd_p (by decide) (by decide)
  have e5_6 : tdd row 5 6 = if 0 < row (52 + 16 * 20) then 1 else 0 := tdd_p (by decide) (by decide)
  have e6_5 : tdd row 6 5 = if 0 < row (52 + 16 * 20) then 1 else 0 := tdd_p (by decide) (by decide)
  have e0_7 : tdd row 0 7 = if 0 < row (52 + 16 * 21) then 1 else 0 := tdd_p (by decide) (by decide)
  have e7_0 : tdd row 7 0 = if 0 < row (52 + 16 * 21) then 1 else 0 := tdd_p (by decide) (by decide)
  have e1_7 : tdd row 1 7 = if 0 < row (52 + 16 * 22) then 1 else 0 := tdd_p (by decide) (by decide)
  have e7_1 : tdd row 7 1 = if 0 < row (52 + 16 * 22) then 1 else 0 := tdd_p (by decide) (by decide)
  have e2_7 : tdd row 2 7 = if 0 < row (52 + 16 * 23) then 1 else 0 := tdd_p (by decide) (by decide)
  have e7_2 : tdd row 7 2 = if 0 < row (52 + 16 * 23) then 1 else 0 := tdd_p (by decide) (by decide)
  have e3_7 : tdd row 3 7 = if 0 < row (52 + 16 * 24) then 1 else 0 := tdd_p (by decide) (by decide)
  have e7_3 : tdd row 7 3 = if 0 < row (52 + 16 * 24) then 1 else 0 := tdd_p (by decide) (by decide)
  have e4_7 : tdd row 4 7 = if 0 < row (52 + 16 * 25) then 1 else 0 := tdd_p (by decide) (by decide)
  have e7_4 : tdd row 7 4 = if 0 < row (52 + 16 * 25) then 1 else 0 := tdd_p (by decide) (by decide)
  have e5_7 : tdd row 5 7 = if 0 < row (52 + 16 * 26) then 1 else 0 := tdd_p (by decide) (by decide)
  have e7_5 : tdd row 7 5 = if 0 < row (52 + 16 * 26) then 1 else 0 := tdd_p (by decide) (by decide)
  have e6_7 : tdd row 6 7 = if 0 < row (52 + 16 * 27) then 1 else 0 := tdd_p (by decide) (by decide)
  have e7_6 : tdd row 7 6 = if 0 < row (52 + 16 * 27) then 1 else 0 := tdd_p (by decide) (by decide)
  have hd : degN row 8 = 0 + deg row 0 + deg row 1 + deg row 2 + deg row 3 + deg row 4 + deg row 5 + deg row 6 + deg row 7 := rfl
  have ht : tsN row 28 = 0 + (if 0 < row (52 + 16 * 0) then 1 else 0) + (if 0 < row (52 + 16 * 1) then 1 else 0) + (if 0 < row (52 + 16 * 2) then 1 else 0) + (if 0 < row (52 + 16 * 3) then 1 else 0) + (if 0 < row (52 + 16 * 4) then 1 else 0) + (if 0 < row (52 + 16 * 5) then 1 else 0) + (if 0 < row (52 + 16 * 6) then 1 else 0) + (if 0 < row (52 + 16 * 7) then 1 else 0) + (if 0 < row (52 + 16 * 8) then 1 else 0) + (if 0 < row (52 + 16 * 9) then 1 else 0) + (if 0 < row (52 + 16 * 10) then 1 else 0) + (if 0 < row (52 + 16 * 11) then 1 else 0) + (if 0 < row (52 + 16 * 12) then 1 else 0) + (if 0 < row (52 + 16 * 13) then 1 else 0) + (if 0 < row (52 + 16 * 14) then 1 else 0) + (if 0 < row (52 + 16 * 15) then 1 else 0) + (if 0 < row (52 + 16 * 16) then 1 else 0) + (if 0 < row (52 + 16 * 17) then 1 else 0) + (if 0 < row (52 + 16 * 18) then 1 else 0) + (if 0 < row (52 + 16 * 19) then 1 else 0) + (if 0 < row (52 + 16 * 20) then 1 else 0) + (if 0 < row (52 + 16 * 21) then 1 else 0) + (if 0 < row (52 + 16 * 22) then 1 else 0) + (if 0 < row (52 + 16 * 23) then 1 else 0) + (if 0 < row (52 + 16 * 24) then 1 else 0) + (if 0 < row (52 + 16 * 25) then 1 else 0) + (if 0 < row (52 + 16 * 26) then 1 else 0) + (if 0 < row (52 + 16 * 27) then 1 else 0) := rfl
  rw [hd, ht]
  simp only [deg, tdd_self, e0_1, e0_2, e0_3, e0_4, e0_5, e0_6, e0_7, e1_0, e1_2, e1_3, e1_4, e1_5, e1_6, e1_7, e2_0, e2_1, e2_3, e2_4, e2_5, e2_6, e2_7, e3_0, e3_1, e3_2, e3_4, e3_5, e3_6, e3_7, e4_0, e4_1, e4_2, e4_3, e4_5, e4_6, e4_7, e5_0, e5_1, e5_2, e5_3, e5_4, e5_6, e5_7, e6_0, e6_1, e6_2, e6_3, e6_4, e6_5, e6_7, e7_0, e7_1, e7_2, e7_3, e7_4, e7_5, e7_6]
  generalize (if 0 < row (52 + 16 * 0) then 1 else 0 : Nat) = b0
  generalize (if 0 < row (52 + 16 * 1) then 1 else 0 : Nat) = b1
  generalize (if 0 < row (52 + 16 * 2) then 1 else 0 : Nat) = b2
  generalize (if 0 < row (52 + 16 * 3) then 1 else 0 : Nat) = b3
  generalize (if 0 < row (52 + 16 * 4) then 1 else 0 : Nat) = b4
  generalize (if 0 < row (52 + 16 * 5) then 1 else 0 : Nat) = b5
  generalize (if 0 < row (52 + 16 * 6) then 1 else 0 : Nat) = b6
  generalize (if 0 < row (52 + 16 * 7) then 1 else 0 : Nat) = b7
  generalize (if 0 < row (52 + 16 * 8) then 1 else 0 : Nat) = b8
  generalize (if 0 < row (52 + 16 * 9) then 1 else 0 : Nat) = b9
  generalize (if 0 < row (52 + 16 * 10) then 1 else 0 : Nat) = b10
  generalize (if 0 < row (52 + 16 * 11) then 1 else 0 : Nat) = b11
  generalize (if 0 < row (52 + 16 * 12) then 1 else 0 : Nat) = b12
  generalize (if 0 < row (52 + 16 * 13) then 1 else 0 : Nat) = b13
  generalize (if 0 < row (52 + 16 * 14) then 1 else 0 : Nat) = b14
  generalize (if 0 < row (52 + 16 * 15) then 1 else 0 : Nat) = b15
  generalize (if 0 < row (52 + 16 * 16) then 1 else 0 : Nat) = b16
  generalize (if 0 < row (52 + 16 * 17) then 1 else 0 : Nat) = b17
  generalize (if 0 < row (52 + 16 * 18) then 1 else 0 : Nat) = b18
  generalize (if 0 < row (52 + 16 * 19) then 1 else 0 : Nat) = b19
  generalize (if 0 < row (52 + 16 * 20) then 1 else 0 : Nat) = b20
  generalize (if 0 < row (52 + 16 * 21) then 1 else 0 : Nat) = b21
  generalize (if 0 < row (52 + 16 * 22) then 1 else 0 : Nat) = b22
  generalize (if 0 < row (52 + 16 * 23) then 1 else 0 : Nat) = b23
  generalize (if 0 < row (52 + 16 * 24) then 1 else 0 : Nat) = b24
  generalize (if 0 < row (52 + 16 * 25) then 1 else 0 : Nat) = b25
  generalize (if 0 < row (52 + 16 * 26) then 1 else 0 : Nat) = b26
  generalize (if 0 < row (52 + 16 * 27) then 1 else 0 : Nat) = b27
  omega
end
section
/-! a graph of the class (object o) against a row -/
def GR0 (F A : mj_S) (o n : Nat) (mm : Nat → Nat) (row : Nat → Int32) : Prop := (F o 0 = nI n ∧ n ≤ 8) ∧ ∀ u, u < n → mm u ≤ 4 ∧ A (o + 1) u = nI (mm u) ∧ A (o + 2) u = row (32 + u) ∧ A (o + 3) u = row (40 + u) - 1 ∧ ∀ i, i < mm u → A (o + 5) (4 * u + i) = row (4 * u + i)
def GRm (A : mj_S) (o n : Nat) (row : Nat → Int32) : Prop := ∀ u, u < n → A (o + 4) u = nI (mkB row u)
def GRf (A : mj_S) (o n : Nat) (mm : Nat → Nat) (row : Nat → Int32) : Prop := ∀ u v i j, u < v → v < n → i < mm u → j < mm v → 0 < row (eA u v 0 0) → row (eA u v i j) = A (o + 6) (eP u v i j) + 1
def GR (F A : mj_S) (o n : Nat) (mm : Nat → Nat) (row : Nat → Int32) : Prop := GR0 F A o n mm row ∧ GRm A o n row ∧ GRf A o n mm row
/-- a row that tells a graph -/
def wr (n : Nat) (mm : Nat → Nat) (row : Nat → Int32) : Prop := (n ≤ 8 ∧ ∀ u, u < n → 1 ≤ mm u ∧ mm u ≤ 4) ∧ (∀ u, u < n → (∃ t, t ≤ 3 ∧ row (32 + u) = nI t) ∧ (∃ t, t ≤ mm u ∧ row (40 + u) = nI t) ∧ ∀ i, i < mm u → ∃ t, t ≤ 99 ∧ row (4 * u + i) = nI t) ∧ (∀ u v, u < v → v < 8 → n ≤ v → ¬ 0 < row (eA u v 0 0)) ∧ (∀ u v i j, u < v → v < n → i < mm u → j < mm v → 0 < row (eA u v 0 0) → ∃ t, t ≤ 9 ∧ row (eA u v i j) = nI (t + 1)) ∧ tsN row 28 ≤ 12
/-- one that is read: none is pinned -/
def wd (n : Nat) (mm : Nat → Nat) (row : Nat → Int32) : Prop := wr n mm row ∧ ∀ u, u < 8 → row (40 + u) = 0
theorem tsN_congr {row row' : Nat → Int32} : ∀ {p : Nat}, (∀ q, q < p → row (52 + 16 * q) = row' (52 + 16 * q)) → tsN row p = tsN row' p
  | 0, _ => rfl
  | p + 1, h => by
    show tsN row p + _ = tsN row' p + _
    rw [tsN_congr (fun q hq => h q (by omega)), h p (by omega)]
theorem tsN_low {row : Nat → Int32} {k : Nat} {x : Int32} (hk : k < 52) (p : Nat) : tsN (upd row k x) p = tsN row p := tsN_congr (fun q _ => pk_un (by omega))
theorem tdd_low {row : Nat → Int32} {k : Nat} {x : Int32} (hk : k < 52) (u v : Nat) : tdd (upd row k x) u v = tdd row u v := by
  unfold tdd
  rw [pk_un (show eA u v 0 0 ≠ k from fun e => by have := eA_ge u v 0 0; omega)]
theorem mkB_low {row : Nat → Int32} {k : Nat} {x : Int32} (hk : k < 52) (u : Nat) : mkB (upd row k x) u = mkB row u := mkB_congr (fun v _ => tdd_low hk u v)
theorem eA_low {row : Nat → Int32} {k : Nat} {x : Int32} (hk : k < 52) (u v i j : Nat) : upd row k x (eA u v i j) = row (eA u v i j) := pk_un (fun e => by have := eA_ge u v i j; omega)
theorem GRm.low {A : mj_S} {o n : Nat} {row : Nat → Int32} (h : GRm A o n row) {k : Nat} (hk : k < 52) (x : Int32) : GRm A o n (upd row k x) := fun u hu => by rw [mkB_low hk]; exact h u hu
theorem GRf.low {A : mj_S} {o n : Nat} {mm : Nat → Nat} {row : Nat → Int32} (h : GRf A o n mm row) {k : Nat} (hk : k < 52) (x : Int32) : GRf A o n mm (upd row k x) := fun u v i j h1 h2 h3 h4 h5 => by
  rw [eA_low hk] at h5 ⊢
  exact h u v i j h1 h2 h3 h4 h5
/-- another array's cell -/
theorem GR.off {F A : mj_S} {o n : Nat} {mm : Nat → Nat} {row : Nat → Int32} (h : GR F A o n mm row) {F' A' : mj_S} (hF : F' o 0 = F o 0) (hA : ∀ i, 1 ≤ i → i ≤ 6 → A' (o + i) = A (o + i)) : GR F' A' o n mm row := by
  refine ⟨⟨⟨hF.trans h.1.1.1, h.1.1.2⟩, fun u hu => ?_⟩, fun u hu => ?_, fun u v i j h1 h2 h3 h4 h5 => ?_⟩
  · rw [hA 1 (by omega) (by omega), hA 2 (by omega) (by omega), hA 3 (by omega) (by omega), hA 5 (by omega) (by omega)]; exact h.1.2 u hu
  · rw [hA 4 (by omega) (by omega)]; exact h.2.1 u hu
  · rw [hA 6 (by omega) (by omega)]; exact h.2.2 u v i j h1 h2 h3 h4 h5
/-- the row alone matters up to 500 -/
theorem GR.congr {F A : mj_S} {o n : Nat} {mm : Nat → Nat} {row row' : Nat → Int32} (h : GR F A o n mm row) (e : ∀ k, k < 500 → row' k = row k) : GR F A o n mm row' := by
  have h8 := h.1.1.2
  refine ⟨⟨h.1.1, fun u hu => ?_⟩, fun u hu => ?_, fun u v i j h1 h2 h3 h4 h5 => ?_⟩
  · obtain ⟨g0, g1, g2, g3, g4⟩ := h.1.2 u hu
    refine ⟨g0, g1, by rw [e _ (by omega)]; exact g2, by rw [e _ (by omega)]; exact g3, fun i hi => by rw [e _ (by omega)]; exact g4 i hi⟩
  · rw [mkB_congr (row := row') (row' := row) (fun v hv => ?_)]
    · exact h.2.1 u hu
    · unfold tdd
      by_cases hh : u = v
      · rw [if_neg (fun q => q.1 hh), if_neg (fun q => q.1 hh)]
      · rw [e _ (eA_lt (by omega) hv hh (by omega) (by omega))]
  · have b1 := (h.1.2 u (by omega)).1
    have b2 := (h.1.2 v h2).1
    rw [e _ (eA_lt (by omega) (by omega) (by omega) (by omega) (by omega))] at h5 ⊢
    exact h.2.2 u v i j h1 h2 h3 h4 h5
theorem GR.own {F A : mj_S} {o n : Nat} {mm : Nat → Nat} {row : Nat → Int32} (h : GR F A o n mm row) {k : Nat} (hk : k < 32) (x : Int32) : GR F (mj_u A (o + 5) k x) o n mm (upd row k x) := by
  refine ⟨⟨h.1.1, fun u hu => ?_⟩, fun u hu => ?_, fun u v i j h1 h2 h3 h4 h5 => ?_⟩
  · rw [mj_u_ne A x (show o + 1 ≠ o + 5 by omega), mj_u_ne A x (show o + 2 ≠ o + 5 by omega), mj_u_ne A x (show o + 3 ≠ o + 5 by omega), mj_u_at, pk_un (show 32 + u ≠ k by omega), pk_un (show 40 + u ≠ k by omega)]
    obtain ⟨h0, h1, h2, h3, h4⟩ := h.1.2 u hu
    refine ⟨h0, h1, h2, h3, fun i hi => ?_⟩
    by_cases e : 4 * u + i = k
    · rw [e, pk_us, pk_us]
    · rw [pk_un e, pk_un e]; exact h4 i hi
  · rw [mj_u_ne A x (show o + 4 ≠ o + 5 by omega)]; exact h.2.1.low (by omega) x u hu
  · rw [mj_u_ne A x (show o + 6 ≠ o + 5 by omega)]; exact h.2.2.low (by omega) x u v i j h1 h2 h3 h4 h5
theorem GR.kind {F A : mj_S} {o n : Nat} {mm : Nat → Nat} {row : Nat → Int32} (h : GR F A o n mm row) {u0 : Nat} (hk : u0 < 8) (x : Int32) : GR F (mj_u A (o + 2) u0 x) o n mm (upd row (32 + u0) x) := by
  have h8 := h.1.1.2
  refine ⟨⟨h.1.1, fun u hu => ?_⟩, fun u hu => ?_, fun u v i j h1 h2 h3 h4 h5 => ?_⟩
  · rw [mj_u_ne A x (show o + 1 ≠ o + 2 by omega), mj_u_at, mj_u_ne A x (show o + 3 ≠ o + 2 by omega), mj_u_ne A x (show o + 5 ≠ o + 2 by omega), pk_un (show 40 + u ≠ 32 + u0 by omega)]
    obtain ⟨h0, h1, h2, h3, h4⟩ := h.1.2 u hu
    refine ⟨h0, h1, ?_, h3, fun i hi => ?_⟩
    · by_cases e : u = u0
      · rw [e, pk_us, pk_us]
      · rw [pk_un e, pk_un (show 32 + u ≠ 32 + u0 by omega)]; exact h2
    · rw [pk_un (by omega)]; exact h4 i hi
  · rw [mj_u_ne A x (show o + 4 ≠ o + 2 by omega)]; exact h.2.1.low (by omega) x u hu
  · rw [mj_u_ne A x (show o + 6 ≠ o + 2 by omega)]; exact h.2.2.low (by omega) x u v i j h1 h2 h3 h4 h5
theorem GR.pin {F A : mj_S} {o n : Nat} {mm : Nat → Nat} {row : Nat → Int32} (h : GR F A o n mm row) {u0 : Nat} (hk : u0 < 8) {x y : Int32} (hy : y = x - 1) : GR F (mj_u A (o + 3) u0 y) o n mm (upd row (40 + u0) x) := by
  have h8 := h.1.1.2
  refine ⟨⟨h.1.1, fun u hu => ?_⟩, fun u hu => ?_, fun u v i j h1 h2 h3 h4 h5 => ?_⟩
  · rw [mj_u_ne A y (show o + 1 ≠ o + 3 by omega), mj_u_at, mj_u_ne A y (show o + 2 ≠ o + 3 by omega), mj_u_ne A y (show o + 5 ≠ o + 3 by omega), pk_un (show 32 + u ≠ 40 + u0 by omega)]
    obtain ⟨h0, h1, h2, h3, h4⟩ := h.1.2 u hu
    refine ⟨h0, h1, h2, ?_, fun i hi => ?_⟩
    · by_cases e : u = u0
      · rw [e, pk_us, pk_us]; exact hy
      · rw [pk_un e, pk_un (show 40 + u ≠ 40 + u0 by omega)]; exact h3
    · rw [pk_un (by omega)]; exact h4 i hi
  · rw [mj_u_ne A y (show o + 4 ≠ o + 3 by omega)]; exact h.2.1.low (by omega) x u hu
  · rw [mj_u_ne A y (show o + 6 ≠ o + 3 by omega)]; exact h.2.2.low (by omega) x u v i j h1 h2 h3 h4 h5
/-- the kind of a node that is not told yet -/
theorem GR.rowk {F A : mj_S} {o n : Nat} {mm : Nat → Nat} {row : Nat → Int32} (h : GR F A o n mm row) (hn : n < 8) (x : Int32) : GR F A o n mm (upd row (32 + n) x) := by
  refine ⟨⟨h.1.1, fun u hu => ?_⟩, fun u hu => h.2.1.low (by omega) x u hu, fun u v i j h1 h2 h3 h4 h5 => h.2.2.low (by omega) x u v i j h1 h2 h3 h4 h5⟩
  obtain ⟨h0, h1, h2, h3, h4⟩ := h.1.2 u hu
  exact ⟨h0, h1, by rw [pk_un (by omega)]; exact h2, by rw [pk_un (by omega)]; exact h3, fun i hi => by rw [pk_un (by omega)]; exact h4 i hi⟩
theorem mmU_at (mm : Nat → Nat) (n q : Nat) : mmU mm n q n = q := if_pos rfl
theorem mmU_ne {mm : Nat → Nat} {n q j : Nat} (h : j ≠ n) : mmU mm n q j = mm j := if_neg h
theorem mkB_z {row : Nat → Int32} {u : Nat} (h : ∀ v, v < 8 → tdd row u v = 0) : mkB row u = 0 := by
  unfold mkB
  rw [h 0 (by omega), h 1 (by omega), h 2 (by omega), h 3 (by omega), h 4 (by omega), h 5 (by omega), h 6 (by omega), h 7 (by omega)]
theorem wr.off {n : Nat} {mm : Nat → Nat} {row : Nat → Int32} (h : wr n mm row) {u v : Nat} (hu : u < 8) (hv : v < 8) (hn : n ≤ u ∨ n ≤ v) : tdd row u v = 0 := by
  by_cases e : u = v
  · rw [e]; exact tdd_self row v
  · by_cases hl : u < v
    · exact tdd_0 (h.2.2.1 u v hl hv (by omega))
    · rw [tdd_sym]; exact tdd_0 (h.2.2.1 v u (by omega) hu (by omega))
/-- a node comes behind -/
theorem GR.node {F A : mj_S} {o n : Nat} {mm : Nat → Nat} {row : Nat → Int32} (h : GR F A o n mm row) (hn : n < 8) {q : Nat} (hq : q ≤ 4) {F' A' : mj_S} (hF : F' o 0 = nI (n + 1)) (h1 : A' (o + 1) = upd (A (o + 1)) n (nI q)) (h2 : A' (o + 2) = upd (A (o + 2)) n (row (32 + n))) (h3 : A' (o + 3) = upd (A (o + 3)) n (row (40 + n) - 1)) (h4 : A' (o + 4) = upd (A (o + 4)) n (nI 0)) (h5 : A' (o + 5) = A (o + 5)) (h6 : A' (o + 6) = A (o + 6)) (ho : ∀ i, i < q → A (o + 5) (4 * n + i) = row (4 * n + i)) (hz : ∀ u v, u < 8 → v < 8 → n ≤ u ∨ n ≤ v → tdd row u v = 0) : GR F' A' o (n + 1) (mmU mm n q) row := by
  refine ⟨⟨⟨hF, by omega⟩, fun u hu => ?_⟩, fun u hu => ?_, fun u v i j g1 g2 g3 g4 g5 => ?_⟩
  · rw [h1, h2, h3, h5]
    by_cases e : u = n
    · subst e
      rw [pk_us, pk_us, pk_us, mmU_at]
      exact ⟨hq, rfl, rfl, rfl, ho⟩
    · rw [pk_un e, pk_un e, pk_un e, mmU_ne e]
      exact h.1.2 u (by omega)
  · rw [h4]
    by_cases e : u = n
    · subst e
      rw [pk_us, mkB_z (fun v hv => hz u v hn hv (Or.inl (Nat.le_refl _)))]
    · rw [pk_un e]; exact h.2.1 u (by omega)
  · rw [h6]
    by_cases e : v = n
    · subst e
      have := hz u v (by omega) hn (Or.inr (Nat.le_refl _))
      rw [tdd_1 (by omega) g5] at this
      exact absurd this (by omega)
    · rw [mmU_ne (show u ≠ n by omega)] at g3
      rw [mmU_ne e] at g4
      exact h.2.2 u v i j g1 (by omega) g3 g4 g5
/-- a table that is being read, up to its q-th figure -/
def GT (F A : mj_S) (o n : Nat) (mm : Nat → Nat) (row : Nat → Int32) (u v q : Nat) : Prop := GR0 F A o n mm row ∧ (∀ u' v' i j, u' < v' → v' < n → i < mm u' → j < mm v' → (u' ≠ u ∨ v' ≠ v) → 0 < row (eA u' v' 0 0) → row (eA u' v' i j) = A (o + 6) (eP u' v' i j) + 1) ∧ ∀ i j, i < mm u → j < mm v → i * mm v + j < q → row (eA u v i j) = A (o + 6) (eP u v i j) + 1
theorem GR0.high {F A : mj_S} {o n : Nat} {mm : Nat → Nat} {row : Nat → Int32} (h : GR0 F A o n mm row) {k : Nat} (hk : 52 ≤ k) (x : Int32) {A' : mj_S} (hA : ∀ i, 1 ≤ i → i ≤ 5 → i ≠ 4 → A' (o + i) = A (o + i)) : GR0 F A' o n mm (upd row k x) := by
  have h8 := h.1.2
  refine ⟨h.1, fun u hu => ?_⟩
  rw [hA 1 (by omega) (by omega) (by omega), hA 2 (by omega) (by omega) (by omega), hA 3 (by omega) (by omega) (by omega), hA 5 (by omega) (by omega) (by omega), pk_un (by omega), pk_un (by omega)]
  obtain ⟨h0, h1, h2, h3, h4⟩ := h.2 u hu
  exact ⟨h0, h1, h2, h3, fun i hi => by rw [pk_un (by omega)]; exact h4 i hi⟩
theorem GR0.same {F A : mj_S} {o n : Nat} {mm : Nat → Nat} {row : Nat → Int32} (h : GR0 F A o n mm row) {F' A' : mj_S} (hF : F' o 0 = F o 0) (hA : ∀ i, 1 ≤ i → i ≤ 5 → i ≠ 4 → A' (o + i) = A (o + i)) : GR0 F' A' o n mm row := by
  refine ⟨⟨hF.trans h.1.1, h.1.2⟩, fun u hu => ?_⟩
  rw [hA 1 (by omega) (by omega) (by omega), hA 2 (by omega) (by omega) (by omega), hA 3 (by omega) (by omega) (by omega), hA 5 (by omega) (by omega) (by omega)]
  exact h.2 u hu
theorem GT.step {F A : mj_S} {o n : Nat} {mm : Nat → Nat} {row : Nat → Int32} {u v i0 j0 q : Nat} (h : GT F A o n mm row u v q) (huv : u < v) (hv : v < n) (hi : i0 < mm u) (hj : j0 < mm v) (hq : q = i0 * mm v + j0) (a : Nat) : GT F (mj_u A (o + 6) (eP u v i0 j0) (nI a)) o n mm (upd row (eA u v i0 j0) (nI (1 + a))) u v (q + 1) := by
  have h8 := h.1.1.2
  have bu := (h.1.2 u (by omega)).1
  have bv := (h.1.2 v hv).1
  refine ⟨h.1.high (eA_ge _ _ _ _) _ (fun i g1 g2 g3 => mj_u_ne A _ (by omega)), fun u' v' i j g1 g2 g3 g4 g5 g6 => ?_, fun i j g1 g2 g3 => ?_⟩
  · have bu' := (h.1.2 u' (by omega)).1
    have bv' := (h.1.2 v' g2).1
    have e1 : ∀ i j, i < 4 → j < 4 → eA u' v' i j ≠ eA u v i0 j0 := fun i j h1 h2 e => by
      have := eA_inj g1 (by omega) huv (by omega) h1 h2 (by omega) (by omega) e
      omega
    rw [pk_un (e1 0 0 (by omega) (by omega))] at g6
    rw [pk_un (e1 i j (by omega) (by omega)), mj_u_at, pk_un (fun e => e1 i j (by omega) (by omega) (by rw [eA_eP, eA_eP, e]))]
    exact h.2.1 u' v' i j g1 g2 g3 g4 g5 g6
  · by_cases e : i = i0 ∧ j = j0
    · obtain ⟨rfl, rfl⟩ := e
      rw [pk_us, mj_u_at, pk_us, nI_1, Nat.add_comm]
    · have e1 : eP u v i j ≠ eP u v i0 j0 := fun e2 => e (eP_inj huv (by omega) huv (by omega) (by omega) (by omega) (by omega) (by omega) e2).2.2
      rw [mj_u_at, pk_un e1, pk_un (fun e => e1 (by rw [eA_eP, eA_eP] at e; omega))]
      refine h.2.2 i j g1 g2 ?_
      rcases (show i < i0 ∨ i0 < i ∨ i = i0 by omega) with hl | hl | hl
      · have : (i + 1) * mm v ≤ i0 * mm v := Nat.mul_le_mul_right _ hl
        rw [Nat.add_mul] at this
        omega
      · have : (i0 + 1) * mm v ≤ i * mm v := Nat.mul_le_mul_right _ hl
        rw [Nat.add_mul] at this
        omega
      · subst hl
        omega
theorem tdd_hs {row row0 : Nat → Int32} {u v : Nat} (hs : ∀ u' v', u' < v' → v' < 8 → (u' ≠ u ∨ v' ≠ v) → row (eA u' v' 0 0) = row0 (eA u' v' 0 0)) {a b : Nat} (ha : a < 8) (hb : b < 8) (h1 : a ≠ u ∨ b ≠ v) (h2 : a ≠ v ∨ b ≠ u) : tdd row a b = tdd row0 a b := by
  rcases (show a < b ∨ a = b ∨ b < a by omega) with h | h | h
  · unfold tdd; rw [hs a b h hb h1]
  · rw [h, tdd_self, tdd_self]
  · rw [tdd_sym row, tdd_sym row0]; unfold tdd; rw [hs b a h ha (by omega)]
theorem GT.fin {F A : mj_S} {o n : Nat} {mm : Nat → Nat} {row row0 : Nat → Int32} {u v : Nat} (h : GT F A o n mm row u v (mm u * mm v)) (huv : u < v) (hv : v < n) (hp : 0 < row (eA u v 0 0)) (h0 : tdd row0 u v = 0) (hs : ∀ u' v', u' < v' → v' < 8 → (u' ≠ u ∨ v' ≠ v) → row (eA u' v' 0 0) = row0 (eA u' v' 0 0)) (hm : ∀ w, w < n → A (o + 4) w = nI (mkB row0 w + (if w = u then 2 ^ v else if w = v then 2 ^ u else 0))) : GR F A o n mm row := by
  have h8 := h.1.1.2
  refine ⟨h.1, fun w hw => ?_, fun u' v' i j g1 g2 g3 g4 g5 => ?_⟩
  · rw [hm w hw]
    by_cases e : w = u
    · subst e
      rw [if_pos rfl, mkB_add (row := row0) (row' := row) (w := v) (by omega) (fun b hb hne => tdd_hs hs (by omega) hb (Or.inr hne) (by omega)) h0 (tdd_1 (by omega) hp)]
    · rw [if_neg e]
      by_cases e2 : w = v
      · subst e2
        rw [if_pos rfl, mkB_add (row := row0) (row' := row) (w := u) (by omega) (fun b hb hne => tdd_hs hs (by omega) hb (by omega) (Or.inr hne)) (by rw [tdd_sym]; exact h0) (by rw [tdd_sym]; exact tdd_1 (by omega) hp)]
      · rw [if_neg e2, Nat.add_zero, mkB_congr (row := row) (row' := row0) (fun b hb => tdd_hs hs (by omega) hb (Or.inl e) (Or.inl e2))]
  · by_cases e : u' = u ∧ v' = v
    · obtain ⟨rfl, rfl⟩ := e
      refine h.2.2 i j g3 g4 ?_
      have : (i + 1) * mm v' ≤ mm u' * mm v' := Nat.mul_le_mul_right _ g3
      rw [Nat.add_mul] at this
      omega
    · exact h.2.1 u' v' i j g1 g2 g3 g4 (by omega) g5
/-! what the reading keeps -/
theorem rd_o_s (c : Nat → Int32) (n f k i : Nat) (row : Nat → Int32) : rd_o c n (f + 1) k i row = if c k = nI 44 then (if i = 4 then none else match rd_n c (k + 1) with
      | none => none
      | some (w, k1) => rd_o c n f k1 (i + 1) (upd row (4 * n + i) (nI w))) else if c k = nI 59 ∧ 0 < i then some (k + 1, i, row) else none := rfl
theorem rd_o_wd {c : Nat → Int32} {n : Nat} : ∀ {f k i : Nat} {row : Nat → Int32} {k' q : Nat} {row' : Nat → Int32}, rd_o c n f k i row = some (k', q, row') → i ≤ 4 → i ≤ q ∧ q ≤ 4 ∧ 0 < q ∧ k < k' ∧ c (k' - 1) = nI 59 ∧ (∀ j, ¬ (4 * n + i ≤ j ∧ j < 4 * n + q) → row' j = row j) ∧ ∀ i', i ≤ i' → i' < q → ∃ t, t ≤ 99 ∧ row' (4 * n + i') = nI t
  | 0, _, _, _, _, _, _, h, _ => by cases h
  | f + 1, k, i, row, k', q, row', h, hi => by
    rw [rd_o_s] at h
    by_cases h1 : c k = nI 44
    · rw [if_pos h1] at h
      by_cases h2 : i = 4
      · rw [if_pos h2] at h; cases h
      · rw [if_neg h2] at h
        cases h3 : rd_n c (k + 1) with
        | none => rw [h3] at h; cases h
        | some p =>
          obtain ⟨w, k1⟩ := p
          rw [h3] at h
          obtain ⟨b1, b2, b3, -⟩ := rd_n_some h3
          obtain ⟨a1, a2, a3, a4, a5, a6, a7⟩ := rd_o_wd h (by omega)
          refine ⟨by omega, a2, a3, by omega, a5, fun j hj => ?_, fun i' g1 g2 => ?_⟩
          · rw [a6 j (by omega), pk_un (by omega)]
          · by_cases e : i' = i
            · subst e
              refine ⟨w, b1, ?_⟩
              rw [a6 _ (by omega), pk_us]
            · exact a7 i' (by omega) g2
    · rw [if_neg h1] at h
      by_cases h2 : c k = nI 59 ∧ 0 < i
      · rw [if_pos h2] at h
        cases h
        exact ⟨Nat.le_refl _, hi, h2.2, by omega, h2.1, fun j _ => rfl, fun i' g1 g2 => absurd g1 (by omega)⟩
      · rw [if_neg h2] at h; cases h
theorem wr.low {n : Nat} {mm : Nat → Nat} {row row' : Nat → Int32} (h : wr n mm row) (e : ∀ k, 52 ≤ k → row' k = row k) (e1 : ∀ u, u < n → row' (32 + u) = row (32 + u) ∧ row' (40 + u) = row (40 + u) ∧ ∀ i, i < mm u → row' (4 * u + i) = row (4 * u + i)) : wr n mm row' := by
  refine ⟨h.1, fun u hu => ?_, fun u v h1 h2 h3 => ?_, fun u v i j h1 h2 h3 h4 h5 => ?_, ?_⟩
  · obtain ⟨a1, a2, a3⟩ := e1 u hu
    obtain ⟨b1, b2, b3⟩ := h.2.1 u hu
    exact ⟨by rw [a1]; exact b1, by rw [a2]; exact b2, fun i hi => by rw [a3 i hi]; exact b3 i hi⟩
  · rw [e _ (eA_ge _ _ _ _)]; exact h.2.2.1 u v h1 h2 h3
  · rw [e _ (eA_ge _ _ _ _)] at h5 ⊢; exact h.2.2.2.1 u v i j h1 h2 h3 h4 h5
  · rw [tsN_congr (row' := row) (fun q _ => e _ (by omega))]; exact h.2.2.2.2
theorem wr.node {n : Nat} {mm : Nat → Nat} {row : Nat → Int32} (h : wr n mm row) (hn : n < 8) {q : Nat} (h1 : 1 ≤ q) (h4 : q ≤ 4) (hk : ∃ t, t ≤ 3 ∧ row (32 + n) = nI t) (hp : row (40 + n) = 0) (ho : ∀ i, i < q → ∃ t, t ≤ 99 ∧ row (4 * n + i) = nI t) : wr (n + 1) (mmU mm n q) row := by
  refine ⟨⟨by omega, fun u hu => ?_⟩, fun u hu => ?_, fun u v g1 g2 g3 => h.2.2.1 u v g1 g2 (by omega), fun u v i j g1 g2 g3 g4 g5 => ?_, h.2.2.2.2⟩
  · by_cases e : u = n
    · rw [e, mmU_at]; exact ⟨h1, h4⟩
    · rw [mmU_ne e]; exact h.1.2 u (by omega)
  · by_cases e : u = n
    · subst e
      rw [mmU_at]
      exact ⟨hk, ⟨0, by omega, by rw [hp, nI_0]⟩, ho⟩
    · rw [mmU_ne e]; exact h.2.1 u (by omega)
  · by_cases e : v = n
    · subst e
      exact absurd g5 (h.2.2.1 u v g1 hn (Nat.le_refl _))
    · rw [mmU_ne (show u ≠ n by omega)] at g3
      rw [mmU_ne e] at g4
      exact h.2.2.2.1 u v i j g1 (by omega) g3 g4 g5
theorem rd_node_wd {c : Nat → Int32} {k n : Nat} {mm : Nat → Nat} {row : Nat → Int32} {r : rd_R} (h : rd_node c k n mm row = some r) (hw : wd n mm row) : r.2.1 = n + 1 ∧ n < 8 ∧ wd r.2.1 r.2.2.1 r.2.2.2 ∧ k < r.1 ∧ c (r.1 - 1) = nI 59 := by
  unfold rd_node at h
  cases h1 : rd_n c k with
  | none => rw [h1] at h; cases h
  | some p =>
    obtain ⟨w, k1⟩ := p
    rw [h1] at h
    obtain ⟨b1, b2, b3, -⟩ := rd_n_some h1
    by_cases h2 : w ≤ 3 ∧ n < 8
    · have h : (match rd_o c n 6 k1 0 (upd row (32 + n) (nI w)) with
        | none => none
        | some (k', q, row') => some (k', n + 1, mmU mm n q, row')) = some r := by
        have h0 := h
        simp only [if_pos h2] at h0
        exact h0
      cases h3 : rd_o c n 6 k1 0 (upd row (32 + n) (nI w)) with
      | none => rw [h3] at h; cases h
      | some p =>
        obtain ⟨k', q, row'⟩ := p
        rw [h3] at h
        cases h
        obtain ⟨a1, a2, a3, a4, a5, a6, a7⟩ := rd_o_wd h3 (by omega)
        have hw1 : wr n mm row' := hw.1.low (fun k hk => by rw [a6 k (by omega), pk_un (by omega)]) (fun u hu => by
          refine ⟨by rw [a6 _ (by omega), pk_un (by omega)], by rw [a6 _ (by omega), pk_un (by omega)], fun i hi => ?_⟩
          have := (hw.1.1.2 u hu).2
          rw [a6 _ (by omega), pk_un (by omega)])
        refine ⟨rfl, h2.2, ⟨hw1.node h2.2 (by omega) a2 ⟨w, h2.1, by rw [a6 _ (by omega), pk_us]⟩ (by rw [a6 _ (by omega), pk_un (by omega)]; exact hw.2 n h2.2) (fun i hi => a7 i (by omega) hi), fun u hu => ?_⟩, by omega, a5⟩
        show row' (40 + u) = 0
        rw [a6 _ (by omega), pk_un (by omega)]
        exact hw.2 u hu
    · have h0 := h
      simp only [if_neg h2] at h0
      cases h0
theorem rd_tb_s (c : Nat → Int32) (mm : Nat → Nat) (u v f k q : Nat) (row : Nat → Int32) : rd_tb c mm u v (f + 1) k q row = if q < mm u * mm v then (match rd_d c k with
      | none => none
      | some a => rd_tb c mm u v f (k + 1) (q + 1) (upd row (eA u v (q / mm v) (q % mm v)) (nI (1 + a)))) else if c k = nI 59 then some (k + 1, row) else none := rfl
theorem dm_lt {a b q : Nat} (hb : 0 < b) (h : q < a * b) : q / b < a ∧ q % b < b := ⟨Nat.div_lt_of_lt_mul (by rw [Nat.mul_comm]; exact h), Nat.mod_lt _ hb⟩
theorem dm_inj {b q q' : Nat} (h1 : q / b = q' / b) (h2 : q % b = q' % b) : q = q' := by
  have a1 := Nat.div_add_mod q b
  have a2 := Nat.div_add_mod q' b
  rw [h1, h2] at a1
  omega
theorem rd_tb_wd {c : Nat → Int32} {mm : Nat → Nat} {u v : Nat} (huv : u < v) (hv : v < 8) (hu4 : mm u ≤ 4) (hv4 : mm v ≤ 4) (hv1 : 1 ≤ mm v) : ∀ {f k q : Nat} {row : Nat → Int32} {k' : Nat} {row' : Nat → Int32}, rd_tb c mm u v f k q row = some (k', row') → k < k' ∧ c (k' - 1) = nI 59 ∧ (∀ x, (∀ q', q ≤ q' → q' < mm u * mm v → x ≠ eA u v (q' / mm v) (q' % mm v)) → row' x = row x) ∧ ∀ q', q ≤ q' → q' < mm u * mm v → ∃ a, a ≤ 9 ∧ row' (eA u v (q' / mm v) (q' % mm v)) = nI (a + 1)
  | 0, _, _, _, _, _, h => by cases h
  | f + 1, k, q, row, k', row', h => by
    rw [rd_tb_s] at h
    by_cases h1 : q < mm u * mm v
    · rw [if_pos h1] at h
      cases h2 : rd_d c k with
      | none => rw [h2] at h; cases h
      | some a =>
        rw [h2] at h
        have ha := rd_d_some h2
        obtain ⟨a1, a2, a3, a4⟩ := rd_tb_wd huv hv hu4 hv4 hv1 h
        refine ⟨by omega, a2, fun x hx => ?_, fun q' g1 g2 => ?_⟩
        · rw [a3 x (fun q' g1 g2 => hx q' (by omega) g2), pk_un (hx q (Nat.le_refl _) h1)]
        · by_cases e : q' = q
          · subst e
            refine ⟨a, ha.1, ?_⟩
            rw [a3 _ (fun q'' g3 g4 e => ?_), pk_us, Nat.add_comm]
            have m1 := dm_lt hv1 h1
            have m2 := dm_lt hv1 g4
            have := eA_inj huv hv huv hv (by omega) (by omega) (by omega) (by omega) e
            have := dm_inj this.2.2.1 this.2.2.2
            omega
          · exact a4 q' (by omega) g2
    · rw [if_neg h1] at h
      by_cases h2 : c k = nI 59
      · rw [if_pos h2] at h
        cases h
        exact ⟨by omega, h2, fun x _ => rfl, fun q' g1 g2 => absurd g2 (by omega)⟩
      · rw [if_neg h2] at h; cases h
theorem tsN_one {row row' : Nat → Int32} {p0 : Nat} (h : ∀ p, p ≠ p0 → row' (52 + 16 * p) = row (52 + 16 * p)) : ∀ p, tsN row' p ≤ tsN row p + (if p0 < p then 1 else 0)
  | 0 => Nat.zero_le _
  | p + 1 => by
    have ih := tsN_one h p
    show tsN row' p + (if 0 < row' (52 + 16 * p) then 1 else 0) ≤ tsN row p + (if 0 < row (52 + 16 * p) then 1 else 0) + _
    by_cases e : p = p0
    · subst e
      rw [if_neg (Nat.lt_irrefl _)] at ih
      rw [if_pos (show p < p + 1 by omega)]
      have : (if 0 < row' (52 + 16 * p) then 1 else 0) ≤ 1 := by split <;> omega
      omega
    · rw [h p e]
      by_cases hl : p0 < p
      · rw [if_pos hl] at ih; rw [if_pos (show p0 < p + 1 by omega)]; omega
      · rw [if_neg hl] at ih; rw [if_neg (show ¬ p0 < p + 1 by omega)]; omega
theorem eA_pair {u v i j p : Nat} (huv : u < v) (hi : i < 4) (hj : j < 4) (h : p ≠ v * (v - 1) / 2 + u ∨ 0 < i ∨ 0 < j) : 52 + 16 * p ≠ eA u v i j := by
  unfold eA
  rw [if_pos huv]
  omega
theorem rd_tb_row {c : Nat → Int32} {mm : Nat → Nat} {u v : Nat} (huv : u < v) (hv : v < 8) (hu4 : mm u ≤ 4) (hv4 : mm v ≤ 4) (hu1 : 1 ≤ mm u) (hv1 : 1 ≤ mm v) {f k : Nat} {row : Nat → Int32} {k' : Nat} {row' : Nat → Int32} (h : rd_tb c mm u v f k 0 row = some (k', row')) : (∀ x, (∀ i j, i < 4 → j < 4 → x ≠ eA u v i j) → row' x = row x) ∧ (∀ i j, i < mm u → j < mm v → ∃ a, a ≤ 9 ∧ row' (eA u v i j) = nI (a + 1)) ∧ ∀ u' v', u' < v' → v' < 8 → (u' ≠ u ∨ v' ≠ v) → ∀ i j, i < 4 → j < 4 → row' (eA u' v' i j) = row (eA u' v' i j) := by
  obtain ⟨-, -, a3, a4⟩ := rd_tb_wd huv hv hu4 hv4 hv1 h
  have hA : ∀ x, (∀ i j, i < 4 → j < 4 → x ≠ eA u v i j) → row' x = row x := fun x hx => a3 x (fun q' _ g2 => by
    have m := dm_lt hv1 g2
    exact hx _ _ (by omega) (by omega))
  refine ⟨hA, fun i j h1 h2 => ?_, fun u' v' g1 g2 g3 i j g4 g5 => hA _ (fun i' j' g6 g7 e => ?_)⟩
  · have hq : i * mm v + j < mm u * mm v := by
      have : (i + 1) * mm v ≤ mm u * mm v := Nat.mul_le_mul_right _ h1
      rw [Nat.add_mul] at this
      omega
    obtain ⟨a, ha, e⟩ := a4 (i * mm v + j) (Nat.zero_le _) hq
    have e1 : (i * mm v + j) / mm v = i := by
      rw [Nat.mul_comm, Nat.mul_add_div (by omega), Nat.div_eq_of_lt h2, Nat.add_zero]
    have e2 : (i * mm v + j) % mm v = j := by
      rw [Nat.mul_comm, Nat.mul_add_mod, Nat.mod_eq_of_lt h2]
    rw [e1, e2] at e
    exact ⟨a, ha, e⟩
  · have := eA_inj g1 g2 huv hv g4 g5 g6 g7 e
    omega
theorem wr.tie {n : Nat} {mm : Nat → Nat} {row row' : Nat → Int32} (hw : wr n mm row) {u v : Nat} (huv : u < v) (hv : v < n) (h12 : tsN row 28 ≠ 12 ∨ 0 < row (eA u v 0 0)) (h1 : ∀ x, (∀ i j, i < 4 → j < 4 → x ≠ eA u v i j) → row' x = row x) (h2 : ∀ i j, i < mm u → j < mm v → ∃ a, a ≤ 9 ∧ row' (eA u v i j) = nI (a + 1)) : wr n mm row' := by
  have h8 := hw.1.1
  have hA : ∀ u' v', u' < v' → v' < 8 → (u' ≠ u ∨ v' ≠ v) → ∀ i j, i < 4 → j < 4 → row' (eA u' v' i j) = row (eA u' v' i j) := fun u' v' g1 g2 g3 i j g4 g5 => h1 _ (fun i' j' g6 g7 e => by
    have := eA_inj g1 g2 huv (by omega) g4 g5 g6 g7 e
    omega)
  have hlow : ∀ k, k < 52 → row' k = row k := fun k hk => h1 k (fun i j _ _ e => by have := eA_ge u v i j; omega)
  refine ⟨hw.1, fun w hw' => ?_, fun u' v' g1 g2 g3 => ?_, fun u' v' i j g1 g2 g3 g4 g5 => ?_, ?_⟩
  · have := (hw.1.2 w hw').2
    obtain ⟨b1, b2, b3⟩ := hw.2.1 w hw'
    exact ⟨by rw [hlow _ (by omega)]; exact b1, by rw [hlow _ (by omega)]; exact b2, fun i hi => by rw [hlow _ (by omega)]; exact b3 i hi⟩
  · rw [hA u' v' g1 g2 (by omega) 0 0 (by omega) (by omega)]; exact hw.2.2.1 u' v' g1 g2 g3
  · have b1 := (hw.1.2 u' (by omega)).2
    have b2 := (hw.1.2 v' g2).2
    by_cases e : u' = u ∧ v' = v
    · obtain ⟨rfl, rfl⟩ := e
      exact h2 i j g3 g4
    · rw [hA u' v' g1 (by omega) (by omega) 0 0 (by omega) (by omega)] at g5
      rw [hA u' v' g1 (by omega) (by omega) i j (by omega) (by omega)]
      exact hw.2.2.2.1 u' v' i j g1 g2 g3 g4 g5
  · have hp : ∀ p, p ≠ v * (v - 1) / 2 + u → row' (52 + 16 * p) = row (52 + 16 * p) := fun p hp => h1 _ (fun i j g1 g2 => eA_pair huv g1 g2 (Or.inl hp))
    rcases h12 with h | h
    · have := tsN_one hp 28
      have := hw.2.2.2.2
      split at * <;> omega
    · have e0 : eA u v 0 0 = 52 + 16 * (v * (v - 1) / 2 + u) := by unfold eA; rw [if_pos huv]; rfl
      obtain ⟨a, ha, e⟩ := h2 0 0 (by have := (hw.1.2 u (by omega)).1; omega) (by have := (hw.1.2 v hv).1; omega)
      have hpos : 0 < row' (eA u v 0 0) := by rw [e, ← nI_0]; exact nI_lt (by omega) (by omega)
      have : ∀ p, tsN row' p = tsN row p := by
        intro p
        induction p with
        | zero => rfl
        | succ p ih =>
          show tsN row' p + (if 0 < row' (52 + 16 * p) then 1 else 0) = tsN row p + (if 0 < row (52 + 16 * p) then 1 else 0)
          rw [ih]
          by_cases ep : p = v * (v - 1) / 2 + u
          · subst ep
            rw [← e0, if_pos h, if_pos hpos]
          · rw [hp p ep]
      rw [this]; exact hw.2.2.2.2
theorem rd_tie_wd {c : Nat → Int32} {k n : Nat} {mm : Nat → Nat} {row : Nat → Int32} {r : rd_R} (h : rd_tie c k n mm row = some r) (hw : wd n mm row) : r.2.1 = n ∧ r.2.2.1 = mm ∧ wd n mm r.2.2.2 ∧ k < r.1 ∧ c (r.1 - 1) = nI 59 := by
  unfold rd_tie at h
  cases h1 : rd_n c k with
  | none => rw [h1] at h; cases h
  | some p =>
    obtain ⟨u, k1⟩ := p
    rw [h1] at h
    obtain ⟨-, b2, -⟩ := rd_n_some h1
    by_cases h2 : c k1 = nI 44
    · simp only [if_pos h2] at h
      cases h3 : rd_n c (k1 + 1) with
      | none => rw [h3] at h; cases h
      | some p =>
        obtain ⟨v, k2⟩ := p
        rw [h3] at h
        obtain ⟨-, b3, -⟩ := rd_n_some h3
        by_cases h4 : c k2 = nI 44 ∧ u < v ∧ v < n ∧ ¬ 0 < row (eA u v 0 0) ∧ tsN row 28 ≠ 12
        · simp only [if_pos h4] at h
          obtain ⟨-, huv, hv, hnt, h12⟩ := h4
          have bu := hw.1.1.2 u (by omega)
          have bv := hw.1.1.2 v hv
          have h8 := hw.1.1.1
          cases h5 : rd_tb c mm u v 17 (k2 + 1) 0 row with
          | none => rw [h5] at h; cases h
          | some p =>
            obtain ⟨k', row'⟩ := p
            rw [h5] at h
            cases h
            obtain ⟨a1, a2, -⟩ := rd_tb_wd huv (by omega) bu.2 bv.2 bv.1 h5
            obtain ⟨a3, a4, -⟩ := rd_tb_row huv (by omega) bu.2 bv.2 bu.1 bv.1 h5
            exact ⟨rfl, rfl, ⟨hw.1.tie huv hv (Or.inl h12) a3 a4, fun w hw' => by show row' (40 + w) = 0; rw [a3 _ (fun i j _ _ e => by have := eA_ge u v i j; omega)]; exact hw.2 w hw'⟩, by omega, a2⟩
        · simp only [if_neg h4] at h; cases h
    · simp only [if_neg h2] at h; cases h
theorem rd_item_wd {c : Nat → Int32} {k n : Nat} {mm : Nat → Nat} {row : Nat → Int32} {r : rd_R} (h : rd_item c k n mm row = some r) (hw : wd n mm row) : wd r.2.1 r.2.2.1 r.2.2.2 ∧ k < r.1 ∧ c (r.1 - 1) = nI 59 := by
  unfold rd_item at h
  by_cases h1 : c k = nI 110
  · rw [if_pos h1] at h
    obtain ⟨-, -, a3, a4, a5⟩ := rd_node_wd h hw
    exact ⟨a3, by omega, a5⟩
  · rw [if_neg h1] at h
    by_cases h2 : c k = nI 101
    · rw [if_pos h2] at h
      obtain ⟨a1, a2, a3, a4, a5⟩ := rd_tie_wd h hw
      rw [a1, a2]
      exact ⟨a3, by omega, a5⟩
    · rw [if_neg h2] at h; cases h
theorem rd_c_lt {t : Nat → Int32} {L k : Nat} {x : Nat} (h : rd_c t L k = nI x) (h0 : 0 < x) (h1 : x < 2147483648) : k < L := by
  by_cases hl : k < L
  · exact hl
  · unfold rd_c at h
    rw [if_neg hl] at h
    exact absurd h.symm (nI_ne0 h0 h1)
theorem rd_d_lt {t : Nat → Int32} {L k a : Nat} (h : rd_d (rd_c t L) k = some a) : k < L := rd_c_lt (rd_d_some h).2 (by omega) (by have := (rd_d_some h).1; omega)
theorem wd0 : wd 0 (fun _ => 0) (fun _ => 0) := by
  refine ⟨⟨⟨by omega, fun u hu => absurd hu (by omega)⟩, fun u hu => absurd hu (by omega), fun u v _ _ _ h => absurd (show (0 : Int32) < 0 from h) (by decide), fun u v i j _ h => absurd h (by omega), by decide⟩, fun u _ => rfl⟩
end
section
/-! the reading's words, case by case -/
/-- no number, or one of three figures and more -/
def nmF (c : Nat → Int32) (k : Nat) : Prop := rd_n c k = none ∨ ∃ w k', rd_n c k = some (w, k') ∧ ∃ a, rd_d c k' = some a
theorem rd_o_d {c : Nat → Int32} {n k i a : Nat} {row : Nat → Int32} (h : rd_d c k = some a) : ∀ f, rd_o c n f k i row = none
  | 0 => rfl
  | f + 1 => by rw [rd_o_s, if_neg (rd_d_ne h (by omega)), if_neg (fun q => rd_d_ne h (by omega) q.1)]
theorem rd_o_F {c : Nat → Int32} {n k i : Nat} {row : Nat → Int32} (h1 : c k = nI 44) (h : nmF c (k + 1)) : ∀ f, rd_o c n f k i row = none
  | 0 => rfl
  | f + 1 => by
    rw [rd_o_s, if_pos h1]
    by_cases h2 : i = 4
    · rw [if_pos h2]
    · rw [if_neg h2]
      rcases h with h | ⟨w, k', h, a, ha⟩
      · rw [h]
      · rw [h]; exact rd_o_d ha f
theorem rd_o_4 {c : Nat → Int32} {n k : Nat} {row : Nat → Int32} (h1 : c k = nI 44) : ∀ f, rd_o c n f k 4 row = none
  | 0 => rfl
  | f + 1 => by rw [rd_o_s, if_pos h1, if_pos rfl]
theorem rd_o_44 {c : Nat → Int32} {n k i w k1 : Nat} {row : Nat → Int32} (f : Nat) (h1 : c k = nI 44) (h2 : i ≠ 4) (h : rd_n c (k + 1) = some (w, k1)) : rd_o c n (f + 1) k i row = rd_o c n f k1 (i + 1) (upd row (4 * n + i) (nI w)) := by rw [rd_o_s, if_pos h1, if_neg h2, h]
theorem rd_o_59 {c : Nat → Int32} {n k i : Nat} {row : Nat → Int32} (f : Nat) (h1 : c k = nI 59) (h2 : 0 < i) : rd_o c n (f + 1) k i row = some (k + 1, i, row) := by rw [rd_o_s, if_neg (by rw [h1]; decide +kernel), if_pos ⟨h1, h2⟩]
theorem rd_o_no {c : Nat → Int32} {n k i : Nat} {row : Nat → Int32} (h1 : c k ≠ nI 44) (h2 : ¬ (c k = nI 59 ∧ 0 < i)) : ∀ f, rd_o c n f k i row = none
  | 0 => rfl
  | f + 1 => by rw [rd_o_s, if_neg h1, if_neg h2]
def rd_nM (n : Nat) (mm : Nat → Nat) (x : Option (Nat × Nat × (Nat → Int32))) : Option rd_R := match x with
  | none => none
  | some p => some (p.1, n + 1, mmU mm n p.2.1, p.2.2)
def rd_tM (n : Nat) (mm : Nat → Nat) (x : Option (Nat × (Nat → Int32))) : Option rd_R := match x with
  | none => none
  | some p => some (p.1, n, mm, p.2)
section RDN
variable {c : Nat → Int32} {k n : Nat} {mm : Nat → Nat} {row : Nat → Int32}
theorem rd_node_eq {w k1 : Nat} (h : rd_n c k = some (w, k1)) (h3 : w ≤ 3) (h8 : n < 8) : rd_node c k n mm row = rd_nM n mm (rd_o c n 6 k1 0 (upd row (32 + n) (nI w))) := by
  unfold rd_node
  rw [h]
  simp only [if_pos (show w ≤ 3 ∧ n < 8 from ⟨h3, h8⟩)]
  generalize rd_o c n 6 k1 0 (upd row (32 + n) (nI w)) = x
  rcases x with _ | ⟨a, b, d⟩ <;> rfl
theorem rd_node_no {w k1 : Nat} (h : rd_n c k = some (w, k1)) (h3 : ¬ (w ≤ 3 ∧ n < 8)) : rd_node c k n mm row = none := by
  unfold rd_node
  rw [h]
  simp only [if_neg h3]
theorem rd_node_z {w k1 : Nat} (h : rd_n c k = some (w, k1)) (h2 : ∀ r, rd_o c n 6 k1 0 r = none) : rd_node c k n mm row = none := by
  by_cases h3 : w ≤ 3 ∧ n < 8
  · rw [rd_node_eq h h3.1 h3.2, h2]; rfl
  · exact rd_node_no h h3
theorem rd_node_n (h : rd_n c k = none) : rd_node c k n mm row = none := by
  unfold rd_node
  rw [h]
theorem rd_node_F (h : nmF c k) : rd_node c k n mm row = none := by
  rcases h with h | ⟨w, k', h, a, ha⟩
  · exact rd_node_n h
  · exact rd_node_z h (fun r => rd_o_d ha 6)
theorem rd_node_c {w k1 : Nat} (h : rd_n c k = some (w, k1)) (h1 : c k1 ≠ nI 44) : rd_node c k n mm row = none := rd_node_z h (fun r => rd_o_no h1 (fun q => absurd q.2 (by omega)) 6)
theorem rd_tie_n (h : rd_n c k = none) : rd_tie c k n mm row = none := by
  unfold rd_tie
  rw [h]
theorem rd_tie_c {u k1 : Nat} (h : rd_n c k = some (u, k1)) (h1 : c k1 ≠ nI 44) : rd_tie c k n mm row = none := by
  unfold rd_tie
  rw [h]
  simp only [if_neg h1]
theorem rd_tie_n2 {u k1 : Nat} (h : rd_n c k = some (u, k1)) (h2 : rd_n c (k1 + 1) = none) : rd_tie c k n mm row = none := by
  by_cases h1 : c k1 = nI 44
  · unfold rd_tie
    rw [h]
    simp only [if_pos h1, h2]
  · exact rd_tie_c h h1
theorem rd_tie_no {u k1 v k2 : Nat} (h : rd_n c k = some (u, k1)) (h2 : rd_n c (k1 + 1) = some (v, k2)) (h3 : ¬ (c k2 = nI 44 ∧ u < v ∧ v < n ∧ ¬ 0 < row (eA u v 0 0) ∧ tsN row 28 ≠ 12)) : rd_tie c k n mm row = none := by
  by_cases h1 : c k1 = nI 44
  · unfold rd_tie
    rw [h]
    simp only [if_pos h1, h2, if_neg h3]
  · exact rd_tie_c h h1
theorem rd_tie_eq {u k1 v k2 : Nat} (h : rd_n c k = some (u, k1)) (h1 : c k1 = nI 44) (h2 : rd_n c (k1 + 1) = some (v, k2)) (h3 : c k2 = nI 44 ∧ u < v ∧ v < n ∧ ¬ 0 < row (eA u v 0 0) ∧ tsN row 28 ≠ 12) : rd_tie c k n mm row = rd_tM n mm (rd_tb c mm u v 17 (k2 + 1) 0 row) := by
  unfold rd_tie
  rw [h]
  simp only [if_pos h1, h2, if_pos h3]
  generalize rd_tb c mm u v 17 (k2 + 1) 0 row = x
  rcases x with _ | ⟨a, b⟩ <;> rfl
theorem rd_d_44 {a : Nat} (h : rd_d c k = some a) : c k ≠ nI 44 := rd_d_ne h (by omega)
theorem rd_tie_F (h : nmF c k) : rd_tie c k n mm row = none := by
  rcases h with h | ⟨w, k', h, a, ha⟩
  · exact rd_tie_n h
  · exact rd_tie_c h (rd_d_44 ha)
theorem rd_tie_F2 {u k1 : Nat} (h : rd_n c k = some (u, k1)) (h2 : nmF c (k1 + 1)) : rd_tie c k n mm row = none := by
  rcases h2 with h2 | ⟨v, k2, h2, a, ha⟩
  · exact rd_tie_n2 h h2
  · exact rd_tie_no h h2 (fun q => rd_d_44 ha q.1)
theorem rd_item_n (h : c k = nI 110) : rd_item c k n mm row = rd_node c (k + 1) n mm row := if_pos h
theorem rd_item_e (h : c k = nI 101) : rd_item c k n mm row = rd_tie c (k + 1) n mm row := by
  unfold rd_item
  rw [if_neg (by rw [h]; decide +kernel), if_pos h]
theorem rd_item_no (h : c k ≠ nI 110) (h2 : c k ≠ nI 101) : rd_item c k n mm row = none := by
  unfold rd_item
  rw [if_neg h, if_neg h2]
theorem rd_all_end {L : Nat} (f : Nat) (h : ¬ k < L) : rd_all c L (f + 1) k n mm row = .inr (n, mm, row) := if_neg h
theorem rd_all_no {L : Nat} (f : Nat) (h : k < L) (h2 : rd_item c k n mm row = none) : rd_all c L (f + 1) k n mm row = .inl k := by
  show (if k < L then _ else _) = _
  rw [if_pos h, h2]
theorem rd_all_s {L : Nat} (f : Nat) (h : k < L) {k' n' : Nat} {mm' : Nat → Nat} {row' : Nat → Int32} (h2 : rd_item c k n mm row = some (k', n', mm', row')) : rd_all c L (f + 1) k n mm row = rd_all c L f k' n' mm' row' := by
  show (if k < L then _ else _) = _
  rw [if_pos h, h2]
end RDN
theorem rd_tb_no {c : Nat → Int32} {mm : Nat → Nat} {u v k q : Nat} {row : Nat → Int32} (h : q < mm u * mm v) (h2 : rd_d c k = none) : ∀ f, rd_tb c mm u v f k q row = none
  | 0 => rfl
  | f + 1 => by rw [rd_tb_s, if_pos h, h2]
theorem rd_tb_d {c : Nat → Int32} {mm : Nat → Nat} {u v k q a : Nat} {row : Nat → Int32} (f : Nat) (h : q < mm u * mm v) (h2 : rd_d c k = some a) : rd_tb c mm u v (f + 1) k q row = rd_tb c mm u v f (k + 1) (q + 1) (upd row (eA u v (q / mm v) (q % mm v)) (nI (1 + a))) := by rw [rd_tb_s, if_pos h, h2]
theorem rd_tb_e {c : Nat → Int32} {mm : Nat → Nat} {u v k q : Nat} {row : Nat → Int32} (f : Nat) (h : ¬ q < mm u * mm v) (h2 : c k = nI 59) : rd_tb c mm u v (f + 1) k q row = some (k + 1, row) := by rw [rd_tb_s, if_neg h, if_pos h2]
theorem rd_tb_x {c : Nat → Int32} {mm : Nat → Nat} {u v k q : Nat} {row : Nat → Int32} (h : ¬ q < mm u * mm v) (h2 : c k ≠ nI 59) : ∀ f, rd_tb c mm u v f k q row = none
  | 0 => rfl
  | f + 1 => by rw [rd_tb_s, if_neg h, if_neg h2]
/-- a number that is being read, f figures of it -/
def nmI (c : Nat → Int32) (k f v : Nat) : Prop := (f = 0 ∧ v = 0) ∨ (f = 1 ∧ rd_d c k = some v) ∨ (f = 2 ∧ ∃ a b, rd_d c k = some a ∧ rd_d c (k + 1) = some b ∧ v = 10 * a + b) ∨ (f = 3 ∧ ∃ a b e, rd_d c k = some a ∧ rd_d c (k + 1) = some b ∧ rd_d c (k + 2) = some e)
theorem nmI.s {c : Nat → Int32} {k f v w : Nat} (h : nmI c k f v) (hf : f < 3) (h1 : c (k + f) = nI w) (h2 : 48 ≤ w) (h3 : w ≤ 57) : nmI c k (f + 1) (10 * v + w - 48) := by
  have hd : rd_d c (k + f) = some (w - 48) := rd_d_of (by rw [h1, show 48 + (w - 48) = w by omega]) (by omega)
  rcases h with ⟨rfl, rfl⟩ | ⟨rfl, h⟩ | ⟨rfl, a, b, h, h', e⟩ | ⟨rfl, -⟩
  · exact Or.inr (Or.inl ⟨rfl, by rw [show 10 * 0 + w - 48 = w - 48 by omega]; exact hd⟩)
  · exact Or.inr (Or.inr (Or.inl ⟨rfl, v, w - 48, h, hd, by omega⟩))
  · exact Or.inr (Or.inr (Or.inr ⟨rfl, a, b, w - 48, h, h', hd⟩))
  · exact absurd hf (by omega)
theorem rd_n1 {c : Nat → Int32} {k a : Nat} (h : rd_d c k = some a) (h2 : rd_d c (k + 1) = none) : rd_n c k = some (a, k + 1) := by
  unfold rd_n
  rw [h]
  simp only [h2]
theorem rd_n2 {c : Nat → Int32} {k a b : Nat} (h : rd_d c k = some a) (h2 : rd_d c (k + 1) = some b) : rd_n c k = some (10 * a + b, k + 2) := by
  unfold rd_n
  rw [h]
  simp only [h2]
theorem rd_n0 {c : Nat → Int32} {k : Nat} (h : rd_d c k = none) : rd_n c k = none := by
  unfold rd_n
  rw [h]
theorem nmI.e {c : Nat → Int32} {k f v : Nat} (h : nmI c k f v) (hx : rd_d c (k + f) = none ∨ f = 3) : ((1 ≤ f ∧ f ≤ 2) ∧ rd_n c k = some (v, k + f) ∧ rd_d c (k + f) = none) ∨ (¬ (1 ≤ f ∧ f ≤ 2) ∧ nmF c k) := by
  rcases h with ⟨rfl, rfl⟩ | ⟨rfl, h⟩ | ⟨rfl, a, b, h, h', e⟩ | ⟨rfl, a, b, e, h, h', h''⟩
  · exact Or.inr ⟨by omega, Or.inl (rd_n0 (hx.resolve_right (by omega)))⟩
  · have h2 := hx.resolve_right (by omega)
    exact Or.inl ⟨by omega, rd_n1 h h2, h2⟩
  · have h2 := hx.resolve_right (by omega)
    exact Or.inl ⟨by omega, by rw [e]; exact rd_n2 h h', h2⟩
  · exact Or.inr ⟨by omega, Or.inr ⟨_, _, rd_n2 h h', e, h''⟩⟩
theorem in_dg {x : Int32} : ((48 : Int64) ≤ x.toInt64 ∧ x.toInt64 ≤ 57) ↔ (nI 48 ≤ x ∧ x ≤ nI 57) := by
  rw [← wide_le, ← wide_le, show (nI 48).toInt64 = 48 from by decide +kernel, show (nI 57).toInt64 = 57 from by decide +kernel]
theorem row_u {A : mj_S} {b : Nat} {row : Nat → Int32} (h : ∀ j, j < 500 → A b j = row j) (k : Nat) (x : Int32) : ∀ j, j < 500 → mj_u A b k x b j = upd row k x j := fun j hj => by
  rw [mj_u_at]
  by_cases e : j = k
  · rw [e, pk_us, pk_us]
  · rw [pk_un e, pk_un e]; exact h j hj
theorem in_natI {k : Nat} (hk : k < 2147483648) {a b : Int64} (lo hi : Nat) (ha : a.toInt = lo) (hb : b.toInt = hi) : (a ≤ (nI k).toInt64 ∧ (nI k).toInt64 ≤ b) ↔ lo ≤ k ∧ k ≤ hi := by
  rw [Int64.le_iff_toInt_le, Int32.toInt_toInt64, ha, nI_toInt hk, Int64.le_iff_toInt_le, Int32.toInt_toInt64, hb, nI_toInt hk]
  omega
theorem mmU_eq {rm mm : Nat → Nat} {n q : Nat} (h : ∀ j, j < n → rm j = mm j) : ∀ j, j < n + 1 → (if j = n then q else rm j) = mmU mm n q j := fun j hj => by
  unfold mmU
  by_cases e : j = n
  · rw [if_pos e, if_pos e]
  · rw [if_neg e, if_neg e]; exact h j (by omega)
end
section
/-! the reference: its state's words, and its small methods -/
/-- the reference's state: length L, nodes n, choices mm, what is read (rn, rm), undo and kept -/
def MI (L : Lg) (n : Nat) (mm : Nat → Nat) (rn : Nat) (rm : Nat → Nat) (un kn : Nat) (F A : mj_S) : Prop :=
  (F 0 0 = nI L.1 ∧ L.1 ≤ 200 ∧ A 1 = L.2 1 ∧ A 5 = L.2 5 ∧ A 6 = L.2 6 ∧ A 7 = L.2 7) ∧ (F 0 2 = nI n ∧ n ≤ 8 ∧ (∀ j, j < 8 → A 2 j = nI (mm j)) ∧ (∀ j, mm j ≤ 4) ∧ ∀ j, j < n → 1 ≤ mm j) ∧
  (F 0 4 = nI rn ∧ rn ≤ 8 ∧ (∀ j, j < 8 → A 3 j = nI (rm j)) ∧ (∀ j, rm j ≤ 4) ∧ ∀ j, j < rn → 1 ≤ rm j) ∧ (F 0 9 = nI un ∧ un ≤ 8) ∧ (F 0 11 = nI kn ∧ kn ≤ 2) ∧ rg (A 14) 8 3 ∧ rg (A 16) 8 15 ∧ rg (A 10) 8 255 ∧ rg (A 11) 8 7 ∧ rg (A 13) 8 255

set_option maxHeartbeats 400000 in
set_option maxRecDepth 100000 in
theorem m_in (z : mj_B) (d : Nat) (a b c : Int64) (F A : mj_S) : J (gM z) mX6_in d 0 [(0, .long a), (2, .long b), (4, .long c)] [] F A (qN F A fun r => (r = 1 ∧ b ≤ a ∧ a ≤ c) ∨ (r = 0 ∧ ¬ (b ≤ a ∧ a ≤ c))) := by
  refine j_lload_n dX6_in_0 rfl ?_
  refine j_lload_n dX6_in_1 rfl ?_
  refine j_lcmp dX6_in_2 ?_
  refine j_if_lt (tgt := 17) dX6_in_3 (by decide) (fun c3 => ?_) (fun c3 => ?_)
  · refine j_iconst (v := nI 0) dX6_in_17 (by decide +kernel) ?_
    exact j_iret dX6_in_18 rfl (by decide +kernel) ⟨rfl, rfl, _, rfl, by first | exact Or.inl ⟨rfl, lg_ge.mp c3, lg_le.mp c10⟩ | exact Or.inr ⟨rfl, fun h => lg_ge.mpr h.1 c3⟩ | exact Or.inr ⟨rfl, fun h => lg_le.mpr h.2 c10⟩⟩
  · refine j_lload_n dX6_in_6 rfl ?_
    refine j_lload dX6_in_7 rfl ?_
    refine j_lcmp dX6_in_9 ?_
    refine j_if_gt (tgt := 17) dX6_in_10 (by decide) (fun c10 => ?_) (fun c10 => ?_)
    · refine j_iconst (v := nI 0) dX6_in_17 (by decide +kernel) ?_
      exact j_iret dX6_in_18 rfl (by decide +kernel) ⟨rfl, rfl, _, rfl, by first | exact Or.inl ⟨rfl, lg_ge.mp c3, lg_le.mp c10⟩ | exact Or.inr ⟨rfl, fun h => lg_ge.mpr h.1 c3⟩ | exact Or.inr ⟨rfl, fun h => lg_le.mpr h.2 c10⟩⟩
    · refine j_iconst (v := nI 1) dX6_in_13 (by decide +kernel) ?_
      refine j_goto (tgt := 18) dX6_in_14 (by decide) ?_
      exact j_iret dX6_in_18 rfl (by decide +kernel) ⟨rfl, rfl, _, rfl, by first | exact Or.inl ⟨rfl, lg_ge.mp c3, lg_le.mp c10⟩ | exact Or.inr ⟨rfl, fun h => lg_ge.mpr h.1 c3⟩ | exact Or.inr ⟨rfl, fun h => lg_le.mpr h.2 c10⟩⟩

set_option maxHeartbeats 400000 in
set_option maxRecDepth 100000 in
theorem m_write (z : mj_B) (d : Nat) (L : Lg) (n : Nat) (mm : Nat → Nat) (rn : Nat) (rm : Nat → Nat) (un kn : Nat) (x : Int32) (F A : mj_S) (hM : MI L n mm rn rm un kn F A) : J (gM z) mX6_write (d + 1) 0 [(0, .ref 0), (1, .int x)] [] F A (fun v F' A' => (¬ ((32 : Int64) ≤ x.toInt64 ∧ x.toInt64 ≤ 126) ∧ v = some (.int (-1)) ∧ F' = F ∧ A' = A) ∨ (((32 : Int64) ≤ x.toInt64 ∧ x.toInt64 ≤ 126) ∧ L.1 = 200 ∧ v = some (.int (-3)) ∧ F' = F ∧ A' = A) ∨ (((32 : Int64) ≤ x.toInt64 ∧ x.toInt64 ≤ 126) ∧ L.1 < 200 ∧ v = some (.int (nI (L.1 + 1))) ∧ F' = mj_u F 0 0 (nI (L.1 + 1)) ∧ A' = mj_u A 1 L.1 x)) := by
  have hM0 := hM.1.2.1
  have hM1 := hM.2.1.2.1
  have hM2 := hM.2.2.1.2.1
  have hM3 := hM.2.2.2.1.2
  have hM4 := hM.2.2.2.2.1.2
  refine j_iload_n dX6_write_0 rfl ?_
  refine j_i2l dX6_write_1 rfl ?_
  refine j_ldc2 dX6_write_2 klX6_85 ?_
  refine j_ldc2 dX6_write_5 klX6_87 ?_
  refine j_callS (y' := mX6_in) (As := [.long (x.toInt64), .long ((32)), .long ((126))]) (st := []) dX6_write_8 lkX6_89 okX6_in stX6_in rfl (Nat.le_of_ble_eq_true rfl) (Nat.le_of_ble_eq_true rfl) (m_in z _ x.toInt64 (32) (126) F A) (fun v8 F8 A8 hq8 => ?_)
  obtain ⟨rfl, rfl, r8, rfl, hr8⟩ := hq8
  have hb8 : r8 ≤ 1 := by omega
  refine j_if_neN (tgt := 16) dX6_write_11 (by decide) (by omega) (fun c11 => ?_) (fun c11 => ?_)
  · have hp := (hr8.resolve_right (fun h => by omega)).2
    refine j_aload_n dX6_write_16 rfl ?_
    refine j_getI dX6_write_17 flX6_93 (Nat.le_of_ble_eq_true rfl) rfl rfl ?_
    refine j_top (y0 := nI (L.1)) hM.1.1 ?_
    refine j_sipush (v := nI 200) dX6_write_20 (by decide +kernel) ?_
    refine j_icmp_neN (tgt := 29) dX6_write_23 (by decide) (by omega) (by omega) (fun c23 => ?_) (fun c23 => ?_)
    · refine j_aload_n dX6_write_29 rfl ?_
      refine j_getR (r := 1) dX6_write_30 flX6_7 (Nat.le_of_ble_eq_true rfl) rfl rfl ?_
      refine j_aload_n dX6_write_33 rfl ?_
      refine j_getI dX6_write_34 flX6_93 (Nat.le_of_ble_eq_true rfl) rfl rfl ?_
      refine j_top (y0 := nI (L.1)) hM.1.1 ?_
      refine j_iload_n dX6_write_37 rfl ?_
      refine j_iastN dX6_write_38 (Nat.le_of_ble_eq_true rfl) rfl (by omega) (by decide) ?_
      refine j_aload_n dX6_write_39 rfl ?_
      refine j_dup dX6_write_40 rfl ?_
      refine j_getI dX6_write_41 flX6_93 (Nat.le_of_ble_eq_true rfl) rfl rfl ?_
      refine j_top (y0 := nI (L.1)) hM.1.1 ?_
      refine j_iconst (v := nI 1) dX6_write_44 (by decide +kernel) ?_
      refine j_iaddN dX6_write_45 ?_
      refine j_putI dX6_write_46 fpX6_93 (Nat.le_of_ble_eq_true rfl) rfl rfl ?_
      refine j_aload_n dX6_write_49 rfl ?_
      refine j_getI dX6_write_50 flX6_93 (Nat.le_of_ble_eq_true rfl) rfl rfl ?_
      refine j_top (y0 := nI (L.1 + 1)) rfl ?_
      exact j_iret dX6_write_53 rfl rfl (Or.inr (Or.inr ⟨hp, by omega, rfl, rfl, rfl⟩))
    · refine j_bipush (v := (-3)) dX6_write_26 (by decide +kernel) ?_
      exact j_iret dX6_write_28 rfl rfl (Or.inr (Or.inl ⟨hp, by omega, rfl, rfl, rfl⟩))
  · have hp := (hr8.resolve_left (fun h => by omega)).2
    refine j_iconst (v := (-1)) dX6_write_14 (by decide +kernel) ?_
    exact j_iret dX6_write_15 rfl rfl (Or.inl ⟨hp, rfl, rfl, rfl⟩)

set_option maxHeartbeats 400000 in
set_option maxRecDepth 100000 in
theorem m_wipe (z : mj_B) (d : Nat) (L : Lg) (n : Nat) (mm : Nat → Nat) (rn : Nat) (rm : Nat → Nat) (un kn : Nat) (F A : mj_S) (hM : MI L n mm rn rm un kn F A) : J (gM z) mX6_wipe d 0 [(0, .ref 0)] [] F A (fun v F' A' => v = some (.int (nI L.1)) ∧ F' = mj_u F 0 0 (nI 0) ∧ A' = A) := by
  have hM0 := hM.1.2.1
  have hM1 := hM.2.1.2.1
  have hM2 := hM.2.2.1.2.1
  have hM3 := hM.2.2.2.1.2
  have hM4 := hM.2.2.2.2.1.2
  refine j_aload_n dX6_wipe_0 rfl ?_
  refine j_getI dX6_wipe_1 flX6_93 (Nat.le_of_ble_eq_true rfl) rfl rfl ?_
  refine j_top (y0 := nI (L.1)) hM.1.1 ?_
  refine j_istore_n (lv' := [(0, .ref 0), (1, .int (nI (L.1)))]) dX6_wipe_4 (Nat.le_of_ble_eq_true rfl) rfl rfl ?_
  refine j_aload_n dX6_wipe_5 rfl ?_
  refine j_iconst (v := nI 0) dX6_wipe_6 (by decide +kernel) ?_
  refine j_putI dX6_wipe_7 fpX6_93 (Nat.le_of_ble_eq_true rfl) rfl rfl ?_
  refine j_iload_n dX6_wipe_10 rfl ?_
  exact j_iret dX6_wipe_11 rfl rfl ⟨rfl, rfl, rfl⟩

set_option maxHeartbeats 400000 in
set_option maxRecDepth 100000 in
theorem m_letterAt (z : mj_B) (d : Nat) (L : Lg) (n : Nat) (mm : Nat → Nat) (rn : Nat) (rm : Nat → Nat) (un kn : Nat) (k : Nat) (hk : k < 1000) (F A : mj_S) (hM : MI L n mm rn rm un kn F A) : J (gM z) mX6_letterAt d 0 [(0, .ref 0), (1, .int (nI k))] [] F A (qP F A fun r => r = cL L k) := by
  have hM0 := hM.1.2.1
  have hM1 := hM.2.1.2.1
  have hM2 := hM.2.2.1.2.1
  have hM3 := hM.2.2.2.1.2
  have hM4 := hM.2.2.2.2.1.2
  refine j_iload_n dX6_letterAt_0 rfl ?_
  refine j_aload_n dX6_letterAt_1 rfl ?_
  refine j_getI dX6_letterAt_2 flX6_93 (Nat.le_of_ble_eq_true rfl) rfl rfl ?_
  refine j_top (y0 := nI (L.1)) hM.1.1 ?_
  refine j_icmp_geN (tgt := 17) dX6_letterAt_5 (by decide) (by omega) (by omega) (fun c5 => ?_) (fun c5 => ?_)
  · refine j_iconst (v := nI 0) dX6_letterAt_17 (by decide +kernel) ?_
    exact j_iret dX6_letterAt_18 rfl rfl ⟨rfl, rfl, _, rfl, by unfold cL rd_c; first | rw [if_pos (by omega), hM.1.2.2.1] | (rw [if_neg (by omega)]; exact nI_0)⟩
  · refine j_aload_n dX6_letterAt_8 rfl ?_
    refine j_getR (r := 1) dX6_letterAt_9 flX6_7 (Nat.le_of_ble_eq_true rfl) rfl rfl ?_
    refine j_iload_n dX6_letterAt_12 rfl ?_
    refine j_ialdN dX6_letterAt_13 (Nat.le_of_ble_eq_true rfl) rfl (by omega) (by decide) ?_
    refine j_goto (tgt := 18) dX6_letterAt_14 (by decide) ?_
    exact j_iret dX6_letterAt_18 rfl rfl ⟨rfl, rfl, _, rfl, by unfold cL rd_c; first | rw [if_pos (by omega), hM.1.2.2.1] | (rw [if_neg (by omega)]; exact nI_0)⟩


theorem MI.rn0 {L : Lg} {n : Nat} {mm : Nat → Nat} {rn : Nat} {rm : Nat → Nat} {un kn : Nat} {F A : mj_S} (h : MI L n mm rn rm un kn F A) : MI L n mm 0 rm un kn (mj_u F 0 4 (nI 0)) A := ⟨h.1, h.2.1, ⟨rfl, by omega, h.2.2.1.2.2.1, h.2.2.1.2.2.2.1, fun j hj => absurd hj (by omega)⟩, h.2.2.2⟩
theorem MI.node {L : Lg} {n : Nat} {mm : Nat → Nat} {rn : Nat} {rm : Nat → Nat} {un kn : Nat} {F A : mj_S} (h : MI L n mm rn rm un kn F A) {c : Nat} (hr : rn < 8) (h1 : 1 ≤ c) (h4 : c ≤ 4) : MI L n mm (rn + 1) (fun j => if j = rn then c else rm j) un kn (mj_u F 0 4 (nI (rn + 1))) (mj_u A 3 rn (nI c)) := by
  refine ⟨h.1, h.2.1, ⟨rfl, by omega, fun j hj => ?_, fun j => ?_, fun j hj => ?_⟩, h.2.2.2⟩
  · show (mj_u A 3 rn (nI c)) 3 j = _
    rw [mj_u_at]
    by_cases e : j = rn
    · simp [upd, e]
    · simp [upd, e]; exact h.2.2.1.2.2.1 j hj
  · by_cases e : j = rn
    · simp [e]; exact h4
    · simp [e]; exact h.2.2.1.2.2.2.1 j
  · by_cases e : j = rn
    · simp [e]; exact h1
    · simp [e]; exact h.2.2.1.2.2.2.2 j (by omega)
theorem in_of {x : Int32} {a b : Int64} (h : a ≤ x.toInt64 ∧ x.toInt64 ≤ b) (lo hi : Nat) (ha : a.toInt = lo) (hb : b.toInt = hi) : ∃ w : Nat, x = nI w ∧ lo ≤ w ∧ w ≤ hi := by
  obtain ⟨h1, h2⟩ := h
  rw [Int64.le_iff_toInt_le, Int32.toInt_toInt64, ha] at h1
  rw [Int64.le_iff_toInt_le, Int32.toInt_toInt64, hb] at h2
  obtain ⟨j, hj, e⟩ := nI_of (x := x) (by rw [Int32.lt_iff_toInt_lt, Int32.toInt_zero]; omega)
  refine ⟨j, e, ?_⟩
  rw [e, nI_toInt hj] at h1 h2
  omega
theorem lt_let {L : Lg} {x : Int32} {k sp : Nat} (h : x = cL L sp) (e : x = nI k) (hk : 0 < k) (hk2 : k < 2147483648) : sp < L.1 := rd_c_lt (h.symm.trans e) hk hk2
theorem tsN_t {row : Nat → Int32} {p k : Nat} (hk : k = tsN row p) (h : 0 < row (52 + 16 * p)) : k + 1 = tsN row (p + 1) := by
  show k + 1 = tsN row p + _
  rw [if_pos h, hk]
theorem tsN_f {row : Nat → Int32} {p k : Nat} (hk : k = tsN row p) (h : ¬ 0 < row (52 + 16 * p)) : k + 0 = tsN row (p + 1) := by
  show k + 0 = tsN row p + _
  rw [if_neg h, hk]
theorem tsN_le (row : Nat → Int32) : ∀ p, tsN row p ≤ p
  | 0 => Nat.le_refl _
  | p + 1 => by
    have := tsN_le row p
    show tsN row p + _ ≤ p + 1
    split <;> omega

theorem mj_z {A : mj_S} {b k j : Nat} (h : ∀ j, j < k → A b j = 0) (hj : j < k + 1) : mj_u A b k (nI 0) b j = 0 := by
  rw [mj_u_at]
  by_cases e : j = k
  · simp [upd, e]; exact nI_0
  · simp [upd, e]; exact h j (by omega)

set_option maxHeartbeats 400000 in
set_option maxRecDepth 100000 in
theorem m_readNone (z : mj_B) (d : Nat) (L : Lg) (n : Nat) (mm : Nat → Nat) (rn : Nat) (rm : Nat → Nat) (un kn : Nat) (F A : mj_S) (hM : MI L n mm rn rm un kn F A) : J (gM z) mX6_readNone d 0 [(0, .ref 0)] [] F A (fun v F' A' => v = none ∧ MI L n mm 0 rm un kn F' A' ∧ ∀ j, j < 500 → A' 4 j = 0) := by
  have hM0 := hM.1.2.1
  have hM1 := hM.2.1.2.1
  have hM2 := hM.2.2.1.2.1
  have hM3 := hM.2.2.2.1.2
  have hM4 := hM.2.2.2.2.1.2
  have L7 : ∀ (fuel : Nat) (k : Nat) (F A : mj_S), (MI L n mm 0 rm un kn F A) → (k ≤ 500) → (∀ j, j < k → A 4 j = 0) → 500 - k < fuel → J (gM z) mX6_readNone d 7 [(0, .ref 0), (1, .int (nI k))] [] F A (fun v F' A' => v = none ∧ MI L n mm 0 rm un kn F' A' ∧ ∀ j, j < 500 → A' 4 j = 0) := by
    intro fuel
    induction fuel with
    | zero => intro k F A hM hk hz hf; exact absurd hf (by omega)
    | succ fuel ih7 =>
      intro k F A hM hk hz hf
      refine j_iload_n dX6_readNone_7 rfl ?_
      refine j_sipush (v := nI 500) dX6_readNone_8 (by decide +kernel) ?_
      refine j_icmp_geN (tgt := 27) dX6_readNone_11 (by decide) (by omega) (by omega) (fun c11 => ?_) (fun c11 => ?_)
      · exact j_vret dX6_readNone_27 rfl ⟨rfl, hM, fun j hj => hz j (by omega)⟩
      · refine j_aload_n dX6_readNone_14 rfl ?_
        refine j_getR (r := 4) dX6_readNone_15 flX6_19 (Nat.le_of_ble_eq_true rfl) rfl rfl ?_
        refine j_iload_n dX6_readNone_18 rfl ?_
        refine j_iconst (v := nI 0) dX6_readNone_19 (by decide +kernel) ?_
        refine j_iastN dX6_readNone_20 (Nat.le_of_ble_eq_true rfl) rfl (by omega) (by decide) ?_
        refine j_iinc (v := nI (k + 1)) (lv' := [(0, .ref 0), (1, .int (nI (k + 1)))]) dX6_readNone_21 rfl (nI_add _ 1) (Nat.le_of_ble_eq_true rfl) rfl rfl ?_
        refine j_goto (tgt := 7) dX6_readNone_24 (by decide) ?_
        exact ih7 (k + 1) F (mj_u A 4 k (nI 0)) (by first | exact hM | omega) (by first | exact hk | omega) (fun j hj => mj_z hz (by omega)) (by omega)
  refine j_aload_n dX6_readNone_0 rfl ?_
  refine j_iconst (v := nI 0) dX6_readNone_1 (by decide +kernel) ?_
  refine j_putI dX6_readNone_2 fpX6_77 (Nat.le_of_ble_eq_true rfl) rfl rfl ?_
  have hM := hM.rn0
  refine j_iconst (v := nI 0) dX6_readNone_5 (by decide +kernel) ?_
  refine j_istore_n (lv' := [(0, .ref 0), (1, .int (nI 0))]) dX6_readNone_6 (Nat.le_of_ble_eq_true rfl) rfl rfl ?_
  exact L7 _ 0 (mj_u F 0 4 (nI 0)) A (by first | exact hM | omega) (by first | exact hk | omega) (fun j hj => absurd hj (by omega)) (Nat.lt_succ_self _)

set_option maxHeartbeats 400000 in
set_option maxRecDepth 100000 in
theorem m_tiesIn (z : mj_B) (d rr : Nat) (hb : rr < 18) (hsh : SHM rr = .inl (0, 500, .inl (fun _ => 0))) (F A : mj_S) : J (gM z) mX6_tiesIn d 0 [(0, .ref rr)] [] F A (qN F A fun q => q = tsN (A rr) 28) := by
  have L4 : ∀ (fuel : Nat) (k : Nat) (p : Nat), (k = tsN (A rr) p) → (p ≤ 28) → 28 - p < fuel → J (gM z) mX6_tiesIn d 4 [(0, .ref rr), (1, .int (nI k)), (2, .int (nI p))] [] F A (qN F A fun q => q = tsN (A rr) 28) := by
    intro fuel
    induction fuel with
    | zero => intro k p hk hp hf; exact absurd hf (by omega)
    | succ fuel ih4 =>
      intro k p hk hp hf
      refine j_iload_n dX6_tiesIn_4 rfl ?_
      refine j_bipush (v := nI 28) dX6_tiesIn_5 (by decide +kernel) ?_
      refine j_icmp_geN (tgt := 36) dX6_tiesIn_7 (by decide) (by omega) (by omega) (fun c7 => ?_) (fun c7 => ?_)
      · refine j_iload_n dX6_tiesIn_36 rfl ?_
        exact j_iret dX6_tiesIn_37 rfl rfl ⟨rfl, rfl, _, rfl, by rw [hk, show p = 28 by omega]⟩
      · refine j_iload_n dX6_tiesIn_10 rfl ?_
        refine j_aload_n dX6_tiesIn_11 rfl ?_
        refine j_bipush (v := nI 52) dX6_tiesIn_12 (by decide +kernel) ?_
        refine j_bipush (v := nI 16) dX6_tiesIn_14 (by decide +kernel) ?_
        refine j_iload_n dX6_tiesIn_16 rfl ?_
        refine j_imulN dX6_tiesIn_17 ?_
        refine j_iaddN dX6_tiesIn_18 ?_
        refine j_ialdN dX6_tiesIn_19 hb hsh (by omega) (by decide) ?_
        refine j_if_le (tgt := 27) dX6_tiesIn_20 (by decide) (fun c20 => ?_) (fun c20 => ?_)
        · refine j_iconst (v := nI 0) dX6_tiesIn_27 (by decide +kernel) ?_
          refine j_iaddN dX6_tiesIn_28 ?_
          refine j_istore_n (lv' := [(0, .ref rr), (1, .int (nI (k + 0))), (2, .int (nI p))]) dX6_tiesIn_29 (Nat.le_of_ble_eq_true rfl) rfl rfl ?_
          refine j_iinc (v := nI (p + 1)) (lv' := [(0, .ref rr), (1, .int (nI (k + 0))), (2, .int (nI (p + 1)))]) dX6_tiesIn_30 rfl (nI_add _ 1) (Nat.le_of_ble_eq_true rfl) rfl rfl ?_
          refine j_goto (tgt := 4) dX6_tiesIn_33 (by decide) ?_
          exact ih4 (k + 0) (p + 1) (by first | exact tsN_t hk (Int32.not_le.mp c20) | exact tsN_f hk (Int32.not_lt.mpr c20)) (by first | exact hp | omega) (by omega)
        · refine j_iconst (v := nI 1) dX6_tiesIn_23 (by decide +kernel) ?_
          refine j_goto (tgt := 28) dX6_tiesIn_24 (by decide) ?_
          refine j_iaddN dX6_tiesIn_28 ?_
          refine j_istore_n (lv' := [(0, .ref rr), (1, .int (nI (k + 1))), (2, .int (nI p))]) dX6_tiesIn_29 (Nat.le_of_ble_eq_true rfl) rfl rfl ?_
          refine j_iinc (v := nI (p + 1)) (lv' := [(0, .ref rr), (1, .int (nI (k + 1))), (2, .int (nI (p + 1)))]) dX6_tiesIn_30 rfl (nI_add _ 1) (Nat.le_of_ble_eq_true rfl) rfl rfl ?_
          refine j_goto (tgt := 4) dX6_tiesIn_33 (by decide) ?_
          exact ih4 (k + 1) (p + 1) (by first | exact tsN_t hk (Int32.not_le.mp c20) | exact tsN_f hk (Int32.not_lt.mpr c20)) (by first | exact hp | omega) (by omega)
  refine j_iconst (v := nI 0) dX6_tiesIn_0 (by decide +kernel) ?_
  refine j_istore_n (lv' := [(0, .ref rr), (1, .int (nI 0))]) dX6_tiesIn_1 (Nat.le_of_ble_eq_true rfl) rfl rfl ?_
  refine j_iconst (v := nI 0) dX6_tiesIn_2 (by decide +kernel) ?_
  refine j_istore_n (lv' := [(0, .ref rr), (1, .int (nI 0)), (2, .int (nI 0))]) dX6_tiesIn_3 (Nat.le_of_ble_eq_true rfl) rfl rfl ?_
  exact L4 _ 0 0 rfl (by first | exact hp | omega) (Nat.lt_succ_self _)

set_option maxHeartbeats 400000 in
set_option maxRecDepth 100000 in
theorem m_entryAt (z : mj_B) (d u v i j : Nat) (hu : u < 8) (hv : v < 8) (huv : u ≠ v) (hi : i < 4) (hj : j < 4) (F A : mj_S) : J (gM z) mX6_entryAt d 0 [(0, .int (nI u)), (1, .int (nI v)), (2, .int (nI i)), (3, .int (nI j))] [] F A (qN F A fun q => q = eA u v i j) := by
  refine j_iload_n dX6_entryAt_0 rfl ?_
  refine j_iload_n dX6_entryAt_1 rfl ?_
  refine j_icmp_geN (tgt := 9) dX6_entryAt_2 (by decide) (by omega) (by omega) (fun c2 => ?_) (fun c2 => ?_)
  · have ht := tri_lt u hu v (by omega)
    refine j_iload_n dX6_entryAt_9 rfl ?_
    refine j_istore (lv' := [(0, .int (nI u)), (1, .int (nI v)), (2, .int (nI i)), (3, .int (nI j)), (4, .int (nI v))]) dX6_entryAt_10 (Nat.le_of_ble_eq_true rfl) rfl rfl ?_
    refine j_iload_n dX6_entryAt_12 rfl ?_
    refine j_iload_n dX6_entryAt_13 rfl ?_
    refine j_icmp_geN (tgt := 21) dX6_entryAt_14 (by decide) (by omega) (by omega) (fun c14 => ?_) (fun c14 => ?_)
    · refine j_iload_n dX6_entryAt_21 rfl ?_
      refine j_istore (lv' := [(0, .int (nI u)), (1, .int (nI v)), (2, .int (nI i)), (3, .int (nI j)), (4, .int (nI v)), (5, .int (nI u))]) dX6_entryAt_22 (Nat.le_of_ble_eq_true rfl) rfl rfl ?_
      refine j_iload dX6_entryAt_24 rfl ?_
      refine j_iload dX6_entryAt_26 rfl ?_
      refine j_iconst (v := nI 1) dX6_entryAt_28 (by decide +kernel) ?_
      refine j_isubN dX6_entryAt_29 (by omega) ?_
      refine j_imulN dX6_entryAt_30 ?_
      refine j_iconst (v := nI 2) dX6_entryAt_31 (by decide +kernel) ?_
      refine j_idivN dX6_entryAt_32 (by omega) (by omega) (by omega) ?_
      refine j_iload dX6_entryAt_33 rfl ?_
      refine j_iaddN dX6_entryAt_35 ?_
      refine j_istore (lv' := [(0, .int (nI u)), (1, .int (nI v)), (2, .int (nI i)), (3, .int (nI j)), (4, .int (nI v)), (5, .int (nI u)), (6, .int (nI ((u * (u - 1)) / 2 + v)))]) dX6_entryAt_36 (Nat.le_of_ble_eq_true rfl) rfl rfl ?_
      refine j_bipush (v := nI 52) dX6_entryAt_38 (by decide +kernel) ?_
      refine j_bipush (v := nI 16) dX6_entryAt_40 (by decide +kernel) ?_
      refine j_iload dX6_entryAt_42 rfl ?_
      refine j_imulN dX6_entryAt_44 ?_
      refine j_iaddN dX6_entryAt_45 ?_
      refine j_iconst (v := nI 4) dX6_entryAt_46 (by decide +kernel) ?_
      refine j_iload_n dX6_entryAt_47 rfl ?_
      refine j_iload_n dX6_entryAt_48 rfl ?_
      refine j_icmp_geN (tgt := 56) dX6_entryAt_49 (by decide) (by omega) (by omega) (fun c49 => ?_) (fun c49 => ?_)
      · refine j_iload_n dX6_entryAt_56 rfl ?_
        refine j_imulN dX6_entryAt_57 ?_
        refine j_iaddN dX6_entryAt_58 ?_
        refine j_iload_n dX6_entryAt_59 rfl ?_
        refine j_iload_n dX6_entryAt_60 rfl ?_
        refine j_icmp_geN (tgt := 68) dX6_entryAt_61 (by decide) (by omega) (by omega) (fun c61 => ?_) (fun c61 => ?_)
        · refine j_iload_n dX6_entryAt_68 rfl ?_
          refine j_iaddN dX6_entryAt_69 ?_
          exact j_iret dX6_entryAt_70 rfl rfl ⟨rfl, rfl, _, rfl, by unfold eA; first | (rw [if_pos (by omega)]) | (rw [if_neg (by omega)])⟩
        · exfalso; omega
      · exfalso; omega
    · exfalso; omega
  · have ht := tri_lt v hv u (by omega)
    refine j_iload_n dX6_entryAt_5 rfl ?_
    refine j_goto (tgt := 10) dX6_entryAt_6 (by decide) ?_
    refine j_istore (lv' := [(0, .int (nI u)), (1, .int (nI v)), (2, .int (nI i)), (3, .int (nI j)), (4, .int (nI u))]) dX6_entryAt_10 (Nat.le_of_ble_eq_true rfl) rfl rfl ?_
    refine j_iload_n dX6_entryAt_12 rfl ?_
    refine j_iload_n dX6_entryAt_13 rfl ?_
    refine j_icmp_geN (tgt := 21) dX6_entryAt_14 (by decide) (by omega) (by omega) (fun c14 => ?_) (fun c14 => ?_)
    · exfalso; omega
    · refine j_iload_n dX6_entryAt_17 rfl ?_
      refine j_goto (tgt := 22) dX6_entryAt_18 (by decide) ?_
      refine j_istore (lv' := [(0, .int (nI u)), (1, .int (nI v)), (2, .int (nI i)), (3, .int (nI j)), (4, .int (nI u)), (5, .int (nI v))]) dX6_entryAt_22 (Nat.le_of_ble_eq_true rfl) rfl rfl ?_
      refine j_iload dX6_entryAt_24 rfl ?_
      refine j_iload dX6_entryAt_26 rfl ?_
      refine j_iconst (v := nI 1) dX6_entryAt_28 (by decide +kernel) ?_
      refine j_isubN dX6_entryAt_29 (by omega) ?_
      refine j_imulN dX6_entryAt_30 ?_
      refine j_iconst (v := nI 2) dX6_entryAt_31 (by decide +kernel) ?_
      refine j_idivN dX6_entryAt_32 (by omega) (by omega) (by omega) ?_
      refine j_iload dX6_entryAt_33 rfl ?_
      refine j_iaddN dX6_entryAt_35 ?_
      refine j_istore (lv' := [(0, .int (nI u)), (1, .int (nI v)), (2, .int (nI i)), (3, .int (nI j)), (4, .int (nI u)), (5, .int (nI v)), (6, .int (nI ((v * (v - 1)) / 2 + u)))]) dX6_entryAt_36 (Nat.le_of_ble_eq_true rfl) rfl rfl ?_
      refine j_bipush (v := nI 52) dX6_entryAt_38 (by decide +kernel) ?_
      refine j_bipush (v := nI 16) dX6_entryAt_40 (by decide +kernel) ?_
      refine j_iload dX6_entryAt_42 rfl ?_
      refine j_imulN dX6_entryAt_44 ?_
      refine j_iaddN dX6_entryAt_45 ?_
      refine j_iconst (v := nI 4) dX6_entryAt_46 (by decide +kernel) ?_
      refine j_iload_n dX6_entryAt_47 rfl ?_
      refine j_iload_n dX6_entryAt_48 rfl ?_
      refine j_icmp_geN (tgt := 56) dX6_entryAt_49 (by decide) (by omega) (by omega) (fun c49 => ?_) (fun c49 => ?_)
      · exfalso; omega
      · refine j_iload_n dX6_entryAt_52 rfl ?_
        refine j_goto (tgt := 57) dX6_entryAt_53 (by decide) ?_
        refine j_imulN dX6_entryAt_57 ?_
        refine j_iaddN dX6_entryAt_58 ?_
        refine j_iload_n dX6_entryAt_59 rfl ?_
        refine j_iload_n dX6_entryAt_60 rfl ?_
        refine j_icmp_geN (tgt := 68) dX6_entryAt_61 (by decide) (by omega) (by omega) (fun c61 => ?_) (fun c61 => ?_)
        · exfalso; omega
        · refine j_iload_n dX6_entryAt_64 rfl ?_
          refine j_goto (tgt := 69) dX6_entryAt_65 (by decide) ?_
          refine j_iaddN dX6_entryAt_69 ?_
          exact j_iret dX6_entryAt_70 rfl rfl ⟨rfl, rfl, _, rfl, by unfold eA; first | (rw [if_pos (by omega)]) | (rw [if_neg (by omega)])⟩

set_option maxHeartbeats 400000 in
set_option maxRecDepth 100000 in
theorem m_isTied (z : mj_B) (d u v : Nat) (hu : u < 8) (hv : v < 8) (F A : mj_S) : J (gM z) mX6_isTied (d + 1) 0 [(0, .ref 0), (1, .int (nI u)), (2, .int (nI v))] [] F A (qN F A fun r => (r = 1 ∧ u ≠ v ∧ 0 < A 5 (eA u v 0 0)) ∨ (r = 0 ∧ ¬ (u ≠ v ∧ 0 < A 5 (eA u v 0 0)))) := by
  refine j_iload_n dX6_isTied_0 rfl ?_
  refine j_iload_n dX6_isTied_1 rfl ?_
  refine j_icmp_eqN (tgt := 24) dX6_isTied_2 (by decide) (by omega) (by omega) (fun c2 => ?_) (fun c2 => ?_)
  · refine j_iconst (v := nI 0) dX6_isTied_24 (by decide +kernel) ?_
    exact j_iret dX6_isTied_25 rfl (by decide +kernel) ⟨rfl, rfl, _, rfl, by first | exact Or.inl ⟨rfl, c2, by rw [← he13]; exact c17⟩ | exact Or.inr ⟨rfl, fun h => h.1 c2⟩ | exact Or.inr ⟨rfl, fun h => absurd (by rw [← he13] at h; exact h.2) (Int32.not_lt.mpr c17)⟩⟩
  · refine j_aload_n dX6_isTied_5 rfl ?_
    refine j_getR (r := 5) dX6_isTied_6 flX6_22 (Nat.le_of_ble_eq_true rfl) rfl rfl ?_
    refine j_iload_n dX6_isTied_9 rfl ?_
    refine j_iload_n dX6_isTied_10 rfl ?_
    refine j_iconst (v := nI 0) dX6_isTied_11 (by decide +kernel) ?_
    refine j_iconst (v := nI 0) dX6_isTied_12 (by decide +kernel) ?_
    refine j_callS (y' := mX6_entryAt) (As := [.int (nI u), .int (nI v), .int (nI 0), .int (nI 0)]) (st := [.ref 5]) dX6_isTied_13 lkX6_81 okX6_entryAt stX6_entryAt rfl (Nat.le_of_ble_eq_true rfl) (Nat.le_of_ble_eq_true rfl) (m_entryAt z _ u v 0 0 (by omega) (by omega) (by omega) (by omega) (by omega) F A) (fun v13 F13 A13 hq13 => ?_)
    obtain ⟨rfl, rfl, e13, rfl, he13⟩ := hq13
    have hl13 : e13 < 500 := by rw [he13]; exact eA_lt (by omega) (by omega) (by omega) (by omega) (by omega)
    refine j_ialdN dX6_isTied_16 (Nat.le_of_ble_eq_true rfl) rfl (by omega) (by decide) ?_
    refine j_if_le (tgt := 24) dX6_isTied_17 (by decide) (fun c17 => ?_) (fun c17 => ?_)
    · refine j_iconst (v := nI 0) dX6_isTied_24 (by decide +kernel) ?_
      exact j_iret dX6_isTied_25 rfl (by decide +kernel) ⟨rfl, rfl, _, rfl, by first | exact Or.inl ⟨rfl, c2, by rw [← he13]; exact c17⟩ | exact Or.inr ⟨rfl, fun h => h.1 c2⟩ | exact Or.inr ⟨rfl, fun h => absurd (by rw [← he13] at h; exact h.2) (Int32.not_lt.mpr c17)⟩⟩
    · have c17 := Int32.not_le.mp c17
      refine j_iconst (v := nI 1) dX6_isTied_20 (by decide +kernel) ?_
      refine j_goto (tgt := 25) dX6_isTied_21 (by decide) ?_
      exact j_iret dX6_isTied_25 rfl (by decide +kernel) ⟨rfl, rfl, _, rfl, by first | exact Or.inl ⟨rfl, c2, by rw [← he13]; exact c17⟩ | exact Or.inr ⟨rfl, fun h => h.1 c2⟩ | exact Or.inr ⟨rfl, fun h => absurd (by rw [← he13] at h; exact h.2) (Int32.not_lt.mpr c17)⟩⟩
end
section
/-! the reference: the reading of a text -/

set_option maxHeartbeats 400000 in
set_option maxRecDepth 100000 in
theorem m_isNumber (z : mj_B) (d : Nat) (L : Lg) (n : Nat) (mm : Nat → Nat) (rn : Nat) (rm : Nat → Nat) (un kn : Nat) (sp0 : Nat) (hs0 : sp0 ≤ 300) (F A : mj_S) (hM : MI L n mm rn rm un kn F A) (hsp : F 0 12 = nI sp0) : J (gM z) mX6_isNumber (d + 1) 0 [(0, .ref 0)] [] F A (fun v F' A' => A = A' ∧ ∃ r sp' w, v = some (.int (nI r)) ∧ MI L n mm rn rm un kn F' A ∧ F' 0 12 = nI sp' ∧ F' 0 13 = nI w ∧ (r ≤ 1 ∧ w ≤ 999 ∧ sp0 ≤ sp' ∧ (sp' ≤ sp0 ∨ sp' ≤ L.1) ∧ (r = 1 → sp0 < sp' ∧ w ≤ 99)) ∧ ((r = 1 ∧ rd_n (cL L) sp0 = some (w, sp') ∧ rd_d (cL L) sp' = none) ∨ (r = 0 ∧ nmF (cL L) sp0))) := by
  have hM0 := hM.1.2.1
  have hM1 := hM.2.1.2.1
  have hM2 := hM.2.2.1.2.1
  have hM3 := hM.2.2.2.1.2
  have hM4 := hM.2.2.2.2.1.2
  have L4 : ∀ (fuel : Nat) (f : Nat) (v : Nat) (sp : Nat) (F : mj_S), (MI L n mm rn rm un kn F A) → (F 0 12 = nI sp) → (f ≤ 3 ∧ v ≤ 999 ∧ (f ≤ 2 → v ≤ 99) ∧ (f ≤ 1 → v ≤ 9) ∧ (f = 0 → v = 0)) → (sp0 + f = sp ∧ (f = 0 ∨ sp ≤ L.1) ∧ sp0 ≤ 300) → (nmI (cL L) sp0 f v) → 3 - f < fuel → J (gM z) mX6_isNumber (d + 1) 4 [(0, .ref 0), (1, .int (nI f)), (2, .int (nI v))] [] F A (fun v F' A' => A = A' ∧ ∃ r sp' w, v = some (.int (nI r)) ∧ MI L n mm rn rm un kn F' A ∧ F' 0 12 = nI sp' ∧ F' 0 13 = nI w ∧ (r ≤ 1 ∧ w ≤ 999 ∧ sp0 ≤ sp' ∧ (sp' ≤ sp0 ∨ sp' ≤ L.1) ∧ (r = 1 → sp0 < sp' ∧ w ≤ 99)) ∧ ((r = 1 ∧ rd_n (cL L) sp0 = some (w, sp') ∧ rd_d (cL L) sp' = none) ∨ (r = 0 ∧ nmF (cL L) sp0))) := by
    intro fuel
    induction fuel with
    | zero => intro f v sp F hM hsp h1 h2 hI hf; exact absurd hf (by omega)
    | succ fuel ih4 =>
      intro f v sp F hM hsp h1 h2 hI hf
      refine j_aload_n dX6_isNumber_4 rfl ?_
      refine j_aload_n dX6_isNumber_5 rfl ?_
      refine j_getI dX6_isNumber_6 flX6_96 (Nat.le_of_ble_eq_true rfl) rfl rfl ?_
      refine j_top (y0 := nI sp) hsp ?_
      refine j_callV (y' := mX6_letterAt) (As := [.int (nI sp)]) (st := []) dX6_isNumber_9 lkX6_99 okX6_letterAt imX6_letterAt seX6_letterAt (Nat.le_of_ble_eq_true rfl) rfl rfl rfl rfl (Nat.le_of_ble_eq_true rfl) (Nat.le_of_ble_eq_true rfl) (m_letterAt z _ _ _ _ _ _ _ _ sp (by omega) F A hM) (fun v9 F9 A9 hq9 => ?_)
      obtain ⟨rfl, rfl, r9, rfl, hr9⟩ := hq9
      refine j_i2l dX6_isNumber_12 rfl ?_
      refine j_ldc2 dX6_isNumber_13 klX6_103 ?_
      refine j_ldc2 dX6_isNumber_16 klX6_105 ?_
      refine j_callS (y' := mX6_in) (As := [.long (r9.toInt64), .long ((48)), .long ((57))]) (st := []) dX6_isNumber_19 lkX6_89 okX6_in stX6_in rfl (Nat.le_of_ble_eq_true rfl) (Nat.le_of_ble_eq_true rfl) (m_in z _ r9.toInt64 (48) (57) F A) (fun v19 F19 A19 hq19 => ?_)
      obtain ⟨rfl, rfl, r19, rfl, hr19⟩ := hq19
      have hb19 : r19 ≤ 1 := by omega
      refine j_if_eqN (tgt := 63) dX6_isNumber_22 (by decide) (by omega) (fun c22 => ?_) (fun c22 => ?_)
      · have hx : rd_d (cL L) (sp0 + f) = none ∨ f = 3 := Or.inl (by rw [h2.1]; exact rd_d_none (fun h => (hr19.resolve_left (fun h => by omega)).2 (by rw [hr9]; exact in_dg.mpr h)))
        refine j_aload_n dX6_isNumber_63 rfl ?_
        refine j_iload_n dX6_isNumber_64 rfl ?_
        refine j_putI dX6_isNumber_65 fpX6_107 (Nat.le_of_ble_eq_true rfl) rfl rfl ?_
        refine j_iload_n dX6_isNumber_68 rfl ?_
        refine j_i2l dX6_isNumber_69 rfl ?_
        refine j_lconst (v := 1) dX6_isNumber_70 rfl ?_
        refine j_ldc2 dX6_isNumber_71 klX6_110 ?_
        refine j_callS (y' := mX6_in) (As := [.long ((nI f).toInt64), .long (1), .long ((2))]) (st := []) dX6_isNumber_74 lkX6_89 okX6_in stX6_in rfl (Nat.le_of_ble_eq_true rfl) (Nat.le_of_ble_eq_true rfl) (m_in z _ ((nI f).toInt64) 1 (2) (mj_u F 0 13 (nI v)) A) (fun v74 F74 A74 hq74 => ?_)
        obtain ⟨rfl, rfl, r74, rfl, hr74⟩ := hq74
        have hb74 : r74 ≤ 1 := by omega
        have hf2 : r74 = 1 ↔ 1 ≤ f ∧ f ≤ 2 := by
          have := in_natI (k := f) (by omega) (a := 1) (b := 2) 1 2 rfl rfl
          rcases hr74 with ⟨e, h⟩ | ⟨e, h⟩
          · exact ⟨fun _ => this.mp h, fun _ => e⟩
          · exact ⟨fun e2 => absurd e2 (by omega), fun h3 => absurd (this.mpr h3) h⟩
        have hf1 := hf2.mp
        have hE : (r74 = 1 ∧ rd_n (cL L) sp0 = some (v, sp) ∧ rd_d (cL L) sp = none) ∨ (r74 = 0 ∧ nmF (cL L) sp0) := by
          have := hI.e hx
          rw [h2.1] at this
          rcases this with ⟨h3, h4, h5⟩ | ⟨h3, h4⟩
          · exact Or.inl ⟨hf2.mpr h3, h4, h5⟩
          · exact Or.inr ⟨by have : r74 ≠ 1 := fun h => h3 (hf2.mp h); omega, h4⟩
        exact j_iret dX6_isNumber_77 rfl (mj_nz (by omega)) ⟨rfl, _, sp, v, rfl, hM, hsp, rfl, ⟨by omega, by omega, by omega, by omega, fun h => by omega⟩, hE⟩
      · obtain ⟨w9, ew, hw1, hw2⟩ := in_of (hr19.resolve_right (fun h => by omega)).2 48 57 rfl rfl
        have hl9 := lt_let hr9 ew (by omega) (by omega)
        refine j_iload_n dX6_isNumber_25 rfl ?_
        refine j_iconst (v := nI 3) dX6_isNumber_26 (by decide +kernel) ?_
        refine j_icmp_geN (tgt := 63) dX6_isNumber_27 (by decide) (by omega) (by omega) (fun c27 => ?_) (fun c27 => ?_)
        · have hx : rd_d (cL L) (sp0 + f) = none ∨ f = 3 := Or.inr (by omega)
          refine j_aload_n dX6_isNumber_63 rfl ?_
          refine j_iload_n dX6_isNumber_64 rfl ?_
          refine j_putI dX6_isNumber_65 fpX6_107 (Nat.le_of_ble_eq_true rfl) rfl rfl ?_
          refine j_iload_n dX6_isNumber_68 rfl ?_
          refine j_i2l dX6_isNumber_69 rfl ?_
          refine j_lconst (v := 1) dX6_isNumber_70 rfl ?_
          refine j_ldc2 dX6_isNumber_71 klX6_110 ?_
          refine j_callS (y' := mX6_in) (As := [.long ((nI f).toInt64), .long (1), .long ((2))]) (st := []) dX6_isNumber_74 lkX6_89 okX6_in stX6_in rfl (Nat.le_of_ble_eq_true rfl) (Nat.le_of_ble_eq_true rfl) (m_in z _ ((nI f).toInt64) 1 (2) (mj_u F 0 13 (nI v)) A) (fun v74 F74 A74 hq74 => ?_)
          obtain ⟨rfl, rfl, r74, rfl, hr74⟩ := hq74
          have hb74 : r74 ≤ 1 := by omega
          have hf2 : r74 = 1 ↔ 1 ≤ f ∧ f ≤ 2 := by
            have := in_natI (k := f) (by omega) (a := 1) (b := 2) 1 2 rfl rfl
            rcases hr74 with ⟨e, h⟩ | ⟨e, h⟩
            · exact ⟨fun _ => this.mp h, fun _ => e⟩
            · exact ⟨fun e2 => absurd e2 (by omega), fun h3 => absurd (this.mpr h3) h⟩
          have hf1 := hf2.mp
          have hE : (r74 = 1 ∧ rd_n (cL L) sp0 = some (v, sp) ∧ rd_d (cL L) sp = none) ∨ (r74 = 0 ∧ nmF (cL L) sp0) := by
            have := hI.e hx
            rw [h2.1] at this
            rcases this with ⟨h3, h4, h5⟩ | ⟨h3, h4⟩
            · exact Or.inl ⟨hf2.mpr h3, h4, h5⟩
            · exact Or.inr ⟨by have : r74 ≠ 1 := fun h => h3 (hf2.mp h); omega, h4⟩
          exact j_iret dX6_isNumber_77 rfl (mj_nz (by omega)) ⟨rfl, _, sp, v, rfl, hM, hsp, rfl, ⟨by omega, by omega, by omega, by omega, fun h => by omega⟩, hE⟩
        · refine j_bipush (v := nI 10) dX6_isNumber_30 (by decide +kernel) ?_
          refine j_iload_n dX6_isNumber_32 rfl ?_
          refine j_imulN dX6_isNumber_33 ?_
          refine j_aload_n dX6_isNumber_34 rfl ?_
          refine j_aload_n dX6_isNumber_35 rfl ?_
          refine j_getI dX6_isNumber_36 flX6_96 (Nat.le_of_ble_eq_true rfl) rfl rfl ?_
          refine j_top (y0 := nI sp) hsp ?_
          refine j_callV (y' := mX6_letterAt) (As := [.int (nI sp)]) (st := [.int (nI (10 * v))]) dX6_isNumber_39 lkX6_99 okX6_letterAt imX6_letterAt seX6_letterAt (Nat.le_of_ble_eq_true rfl) rfl rfl rfl rfl (Nat.le_of_ble_eq_true rfl) (Nat.le_of_ble_eq_true rfl) (m_letterAt z _ _ _ _ _ _ _ _ sp (by omega) F A hM) (fun v39 F39 A39 hq39 => ?_)
          obtain ⟨rfl, rfl, r39, rfl, hr39⟩ := hq39
          refine j_top (y0 := nI w9) (by rw [hr39, ← hr9]; exact ew) ?_
          refine j_iaddN dX6_isNumber_42 ?_
          refine j_bipush (v := nI 48) dX6_isNumber_43 (by decide +kernel) ?_
          refine j_isubN dX6_isNumber_45 (by omega) ?_
          refine j_istore_n (lv' := [(0, .ref 0), (1, .int (nI f)), (2, .int (nI ((10 * v + w9) - 48)))]) dX6_isNumber_46 (Nat.le_of_ble_eq_true rfl) rfl rfl ?_
          refine j_iinc (v := nI (f + 1)) (lv' := [(0, .ref 0), (1, .int (nI (f + 1))), (2, .int (nI ((10 * v + w9) - 48)))]) dX6_isNumber_47 rfl (nI_add _ 1) (Nat.le_of_ble_eq_true rfl) rfl rfl ?_
          refine j_aload_n dX6_isNumber_50 rfl ?_
          refine j_dup dX6_isNumber_51 rfl ?_
          refine j_getI dX6_isNumber_52 flX6_96 (Nat.le_of_ble_eq_true rfl) rfl rfl ?_
          refine j_top (y0 := nI sp) hsp ?_
          refine j_iconst (v := nI 1) dX6_isNumber_55 (by decide +kernel) ?_
          refine j_iaddN dX6_isNumber_56 ?_
          refine j_putI dX6_isNumber_57 fpX6_96 (Nat.le_of_ble_eq_true rfl) rfl rfl ?_
          refine j_goto (tgt := 4) dX6_isNumber_60 (by decide) ?_
          exact ih4 (f + 1) ((10 * v + w9) - 48) (sp + 1) (mj_u F 0 12 (nI (sp + 1))) (by first | exact hM | omega) rfl (by first | exact h1 | omega) (by first | exact h2 | omega) (hI.s (by omega) (by rw [h2.1, ← hr9]; exact ew) hw1 hw2) (by omega)
  refine j_iconst (v := nI 0) dX6_isNumber_0 (by decide +kernel) ?_
  refine j_istore_n (lv' := [(0, .ref 0), (1, .int (nI 0))]) dX6_isNumber_1 (Nat.le_of_ble_eq_true rfl) rfl rfl ?_
  refine j_iconst (v := nI 0) dX6_isNumber_2 (by decide +kernel) ?_
  refine j_istore_n (lv' := [(0, .ref 0), (1, .int (nI 0)), (2, .int (nI 0))]) dX6_isNumber_3 (Nat.le_of_ble_eq_true rfl) rfl rfl ?_
  exact L4 _ 0 0 sp0 F (by first | exact hM | omega) (by first | exact hsp | omega) (by first | exact h1 | omega) (by first | exact h2 | omega) (Or.inl ⟨rfl, rfl⟩) (Nat.lt_succ_self _)

theorem neg48 {w : Nat} (h : w < 2147483648) : ¬ (0 : Int32) - nI 48 = nI w := by
  intro e
  have := congrArg Int32.toInt e
  rw [nI_toInt h, show ((0 : Int32) - nI 48).toInt = -48 from by decide +kernel] at this
  omega

set_option maxHeartbeats 400000 in
set_option maxRecDepth 100000 in
theorem m_nodeItem (z : mj_B) (d : Nat) (L : Lg) (n : Nat) (mm : Nat → Nat) (rn : Nat) (rm : Nat → Nat) (un kn : Nat) (sp : Nat) (hs0 : sp ≤ 201) (mmr : Nat → Nat) (row : Nat → Int32) (F A : mj_S) (hM : MI L n mm rn rm un kn F A) (hsp : F 0 12 = nI sp) (hrow : ∀ j, j < 500 → A 4 j = row j) (hrm : ∀ j, j < rn → rm j = mmr j) : J (gM z) mX6_nodeItem (d + 2) 0 [(0, .ref 0)] [] F A (fun v F' A' => ∃ r sp' rn' rm', v = some (.int (nI r)) ∧ MI L n mm rn' rm' un kn F' A' ∧ F' 0 12 = nI sp' ∧ (r ≤ 1 ∧ sp' ≤ 300 ∧ (r = 1 → sp < sp' ∧ sp' ≤ L.1)) ∧ ((r = 1 ∧ ∃ mmr' row', rd_node (cL L) sp rn mmr row = some (sp', rn', mmr', row') ∧ (∀ j, j < 500 → A' 4 j = row' j) ∧ ∀ j, j < rn' → rm' j = mmr' j) ∨ (r = 0 ∧ rd_node (cL L) sp rn mmr row = none))) := by
  have hM0 := hM.1.2.1
  have hM1 := hM.2.1.2.1
  have hM2 := hM.2.2.1.2.1
  have hM3 := hM.2.2.2.1.2
  have hM4 := hM.2.2.2.2.1.2
  have L57 : ∀ (fuel : Nat) (k : Nat) (sp1 : Nat) (f : Nat) (row1 : Nat → Int32) (res : Option (Nat × Nat × (Nat → Int32))) (F A : mj_S), (MI L n mm rn rm un kn F A) → (F 0 12 = nI sp1) → (k ≤ 4 ∧ sp ≤ sp1 ∧ sp1 ≤ 250 ∧ rn < 8 ∧ f + k = 6) → (0 < k ∨ cL L sp1 = nI 44) → (∀ j, j < 500 → A 4 j = row1 j) → (rd_o (cL L) rn f sp1 k row1 = res) → (rd_node (cL L) sp rn mmr row = rd_nM rn mmr res) → 5 - k < fuel → J (gM z) mX6_nodeItem (d + 2) 57 [(0, .ref 0), (1, .int (nI k))] [] F A (fun v F' A' => ∃ r sp' rn' rm', v = some (.int (nI r)) ∧ MI L n mm rn' rm' un kn F' A' ∧ F' 0 12 = nI sp' ∧ (r ≤ 1 ∧ sp' ≤ 300 ∧ (r = 1 → sp < sp' ∧ sp' ≤ L.1)) ∧ ((r = 1 ∧ ∃ mmr' row', rd_node (cL L) sp rn mmr row = some (sp', rn', mmr', row') ∧ (∀ j, j < 500 → A' 4 j = row' j) ∧ ∀ j, j < rn' → rm' j = mmr' j) ∨ (r = 0 ∧ rd_node (cL L) sp rn mmr row = none))) := by
    intro fuel
    induction fuel with
    | zero => intro k sp1 f row1 res F A hM hsp h1 hz hrow hspec hres hf; exact absurd hf (by omega)
    | succ fuel ih57 =>
      intro k sp1 f row1 res F A hM hsp h1 hz hrow hspec hres hf
      refine j_aload_n dX6_nodeItem_57 rfl ?_
      refine j_aload_n dX6_nodeItem_58 rfl ?_
      refine j_getI dX6_nodeItem_59 flX6_96 (Nat.le_of_ble_eq_true rfl) rfl rfl ?_
      refine j_top (y0 := nI sp1) hsp ?_
      refine j_callV (y' := mX6_letterAt) (As := [.int (nI sp1)]) (st := []) dX6_nodeItem_62 lkX6_99 okX6_letterAt imX6_letterAt seX6_letterAt (Nat.le_of_ble_eq_true rfl) rfl rfl rfl rfl (Nat.le_of_ble_eq_true rfl) (Nat.le_of_ble_eq_true rfl) (m_letterAt z _ _ _ _ _ _ _ _ sp1 (by omega) F A hM) (fun v62 F62 A62 hq62 => ?_)
      obtain ⟨rfl, rfl, r62, rfl, hr62⟩ := hq62
      refine j_bipush (v := nI 44) dX6_nodeItem_65 (by decide +kernel) ?_
      refine j_icmp_ne (tgt := 117) dX6_nodeItem_67 (by decide) (fun c67 => ?_) (fun c67 => ?_)
      · have hc44 : cL L sp1 ≠ nI 44 := by rw [← hr62]; exact c67
        have hk0 : 0 < k := by
          rcases hz with h | h
          · exact h
          · exact absurd h hc44
        refine j_aload_n dX6_nodeItem_117 rfl ?_
        refine j_getR (r := 3) dX6_nodeItem_118 flX6_16 (Nat.le_of_ble_eq_true rfl) rfl rfl ?_
        refine j_aload_n dX6_nodeItem_121 rfl ?_
        refine j_getI dX6_nodeItem_122 flX6_77 (Nat.le_of_ble_eq_true rfl) rfl rfl ?_
        refine j_top (y0 := nI rn) hM.2.2.1.1 ?_
        refine j_iload_n dX6_nodeItem_125 rfl ?_
        refine j_iastN dX6_nodeItem_126 (Nat.le_of_ble_eq_true rfl) rfl (by omega) (by decide) ?_
        refine j_aload_n dX6_nodeItem_127 rfl ?_
        refine j_dup dX6_nodeItem_128 rfl ?_
        refine j_getI dX6_nodeItem_129 flX6_77 (Nat.le_of_ble_eq_true rfl) rfl rfl ?_
        refine j_top (y0 := nI rn) hM.2.2.1.1 ?_
        refine j_iconst (v := nI 1) dX6_nodeItem_132 (by decide +kernel) ?_
        refine j_iaddN dX6_nodeItem_133 ?_
        refine j_putI dX6_nodeItem_134 fpX6_77 (Nat.le_of_ble_eq_true rfl) rfl rfl ?_
        have hM := hM.node (c := k) (by omega) (by omega) (by omega)
        refine j_aload_n dX6_nodeItem_137 rfl ?_
        refine j_dup dX6_nodeItem_138 rfl ?_
        refine j_getI dX6_nodeItem_139 flX6_96 (Nat.le_of_ble_eq_true rfl) rfl rfl ?_
        refine j_top (y0 := nI sp1) hsp ?_
        refine j_iconst (v := nI 1) dX6_nodeItem_142 (by decide +kernel) ?_
        refine j_iaddN dX6_nodeItem_143 ?_
        refine j_putI dX6_nodeItem_144 fpX6_96 (Nat.le_of_ble_eq_true rfl) rfl rfl ?_
        refine j_aload_n dX6_nodeItem_147 rfl ?_
        refine j_aload_n dX6_nodeItem_148 rfl ?_
        refine j_getI dX6_nodeItem_149 flX6_96 (Nat.le_of_ble_eq_true rfl) rfl rfl ?_
        refine j_top (y0 := nI (sp1 + 1)) rfl ?_
        refine j_iconst (v := nI 1) dX6_nodeItem_152 (by decide +kernel) ?_
        refine j_isubN dX6_nodeItem_153 (by omega) ?_
        refine j_callV (y' := mX6_letterAt) (As := [.int (nI ((sp1 + 1) - 1))]) (st := []) dX6_nodeItem_154 lkX6_99 okX6_letterAt imX6_letterAt seX6_letterAt (Nat.le_of_ble_eq_true rfl) rfl rfl rfl rfl (Nat.le_of_ble_eq_true rfl) (Nat.le_of_ble_eq_true rfl) (m_letterAt z _ _ _ _ _ _ _ _ ((sp1 + 1) - 1) (by omega) (mj_u (mj_u F 0 4 (nI (rn + 1))) 0 12 (nI (sp1 + 1))) (mj_u A 3 rn (nI k)) hM) (fun v154 F154 A154 hq154 => ?_)
        obtain ⟨rfl, rfl, r154, rfl, hr154⟩ := hq154
        refine j_bipush (v := nI 59) dX6_nodeItem_157 (by decide +kernel) ?_
        refine j_icmp_ne (tgt := 166) dX6_nodeItem_159 (by decide) (fun c159 => ?_) (fun c159 => ?_)
        · have hr154 : r154 = cL L sp1 := hr154
          have hno : rd_node (cL L) sp rn mmr row = none := by rw [hres, ← hspec, rd_o_no hc44 (fun q => c159 (by rw [hr154]; exact q.1))]; rfl
          refine j_iconst (v := nI 0) dX6_nodeItem_166 (by decide +kernel) ?_
          exact j_iret dX6_nodeItem_167 rfl (by decide +kernel) ⟨_, _, _, _, rfl, hM, rfl, ⟨by omega, by omega, fun h => by first | omega | (have := lt_let hr154 c159 (by omega) (by omega); omega)⟩, by first | exact Or.inr ⟨rfl, hno⟩ | exact Or.inl ⟨rfl, _, _, hsome, hrow, mmU_eq hrm⟩⟩
        · have hr154 : r154 = cL L sp1 := hr154
          have hsome : rd_node (cL L) sp rn mmr row = some (sp1 + 1, rn + 1, mmU mmr rn k, row1) := by
            obtain ⟨f1, rfl⟩ : ∃ f1, f = f1 + 1 := ⟨f - 1, by omega⟩
            rw [hres, ← hspec, rd_o_59 f1 (hr154.symm.trans c159) hk0]
            rfl
          refine j_iconst (v := nI 1) dX6_nodeItem_162 (by decide +kernel) ?_
          refine j_goto (tgt := 167) dX6_nodeItem_163 (by decide) ?_
          exact j_iret dX6_nodeItem_167 rfl (by decide +kernel) ⟨_, _, _, _, rfl, hM, rfl, ⟨by omega, by omega, fun h => by first | omega | (have := lt_let hr154 c159 (by omega) (by omega); omega)⟩, by first | exact Or.inr ⟨rfl, hno⟩ | exact Or.inl ⟨rfl, _, _, hsome, hrow, mmU_eq hrm⟩⟩
      · have hl62 := lt_let hr62 c67 (by omega) (by omega)
        have hc44 : cL L sp1 = nI 44 := hr62.symm.trans c67
        refine j_aload_n dX6_nodeItem_70 rfl ?_
        refine j_dup dX6_nodeItem_71 rfl ?_
        refine j_getI dX6_nodeItem_72 flX6_96 (Nat.le_of_ble_eq_true rfl) rfl rfl ?_
        refine j_top (y0 := nI sp1) hsp ?_
        refine j_iconst (v := nI 1) dX6_nodeItem_75 (by decide +kernel) ?_
        refine j_iaddN dX6_nodeItem_76 ?_
        refine j_putI dX6_nodeItem_77 fpX6_96 (Nat.le_of_ble_eq_true rfl) rfl rfl ?_
        refine j_aload_n dX6_nodeItem_80 rfl ?_
        refine j_callV (y' := mX6_isNumber) (As := []) (st := []) dX6_nodeItem_81 lkX6_112 okX6_isNumber imX6_isNumber seX6_isNumber (Nat.le_of_ble_eq_true rfl) rfl rfl rfl rfl (Nat.le_of_ble_eq_true rfl) (Nat.le_of_ble_eq_true rfl) (m_isNumber z _ _ _ _ _ _ _ _ (sp1 + 1) (by omega) (mj_u F 0 12 (nI (sp1 + 1))) A hM rfl) (fun v81 F81 A81 hq81 => ?_)
        obtain ⟨rfl, r81, s81, w81, rfl, hM, e12_81, e13_81, hn81, hE81⟩ := hq81
        refine j_if_eqN (tgt := 92) dX6_nodeItem_84 (by decide) (by omega) (fun c84 => ?_) (fun c84 => ?_)
        · have hno : rd_node (cL L) sp rn mmr row = none := by rw [hres, ← hspec, rd_o_F hc44 (hE81.resolve_left (fun h => by omega)).2]; rfl
          refine j_iconst (v := nI 0) dX6_nodeItem_92 (by decide +kernel) ?_
          exact j_iret dX6_nodeItem_93 rfl (by decide +kernel) ⟨_, _, _, _, rfl, hM, e12_81, ⟨by omega, by omega, fun h => absurd h (by omega)⟩, Or.inr ⟨rfl, hno⟩⟩
        · obtain ⟨-, hN81, hD81⟩ := hE81.resolve_right (fun h => by omega)
          refine j_iload_n dX6_nodeItem_87 rfl ?_
          refine j_iconst (v := nI 4) dX6_nodeItem_88 (by decide +kernel) ?_
          refine j_icmp_neN (tgt := 94) dX6_nodeItem_89 (by decide) (by omega) (by omega) (fun c89 => ?_) (fun c89 => ?_)
          · refine j_aload_n dX6_nodeItem_94 rfl ?_
            refine j_getR (r := 4) dX6_nodeItem_95 flX6_19 (Nat.le_of_ble_eq_true rfl) rfl rfl ?_
            refine j_iconst (v := nI 4) dX6_nodeItem_98 (by decide +kernel) ?_
            refine j_aload_n dX6_nodeItem_99 rfl ?_
            refine j_getI dX6_nodeItem_100 flX6_77 (Nat.le_of_ble_eq_true rfl) rfl rfl ?_
            refine j_top (y0 := nI rn) hM.2.2.1.1 ?_
            refine j_imulN dX6_nodeItem_103 ?_
            refine j_iload_n dX6_nodeItem_104 rfl ?_
            refine j_iaddN dX6_nodeItem_105 ?_
            refine j_aload_n dX6_nodeItem_106 rfl ?_
            refine j_getI dX6_nodeItem_107 flX6_107 (Nat.le_of_ble_eq_true rfl) rfl rfl ?_
            refine j_top (y0 := nI w81) e13_81 ?_
            refine j_iastN dX6_nodeItem_110 (Nat.le_of_ble_eq_true rfl) rfl (by omega) (by decide) ?_
            refine j_iinc (v := nI (k + 1)) (lv' := [(0, .ref 0), (1, .int (nI (k + 1)))]) dX6_nodeItem_111 rfl (nI_add _ 1) (Nat.le_of_ble_eq_true rfl) rfl rfl ?_
            refine j_goto (tgt := 57) dX6_nodeItem_114 (by decide) ?_
            exact ih57 (k + 1) s81 (f - 1) (upd row1 (4 * rn + k) (nI w81)) res F81 (mj_u A 4 (4 * rn + k) (nI w81)) (by first | exact hM | omega) (by first | exact e12_81 | omega) (by first | exact h1 | omega) (Or.inl (by omega)) (row_u hrow _ _) (by rw [← hspec, show f = f - 1 + 1 by omega, rd_o_44 _ hc44 c89 hN81]; rfl) hres (by omega)
          · have hno : rd_node (cL L) sp rn mmr row = none := by rw [hres, ← hspec, show k = 4 by omega, rd_o_4 hc44]; rfl
            refine j_iconst (v := nI 0) dX6_nodeItem_92 (by decide +kernel) ?_
            exact j_iret dX6_nodeItem_93 rfl (by decide +kernel) ⟨_, _, _, _, rfl, hM, e12_81, ⟨by omega, by omega, fun h => absurd h (by omega)⟩, Or.inr ⟨rfl, hno⟩⟩
  refine j_aload_n dX6_nodeItem_0 rfl ?_
  refine j_callV (y' := mX6_isNumber) (As := []) (st := []) dX6_nodeItem_1 lkX6_112 okX6_isNumber imX6_isNumber seX6_isNumber (Nat.le_of_ble_eq_true rfl) rfl rfl rfl rfl (Nat.le_of_ble_eq_true rfl) (Nat.le_of_ble_eq_true rfl) (m_isNumber z _ _ _ _ _ _ _ _ sp (by omega) F A hM hsp) (fun v1 F1 A1 hq1 => ?_)
  obtain ⟨rfl, r1, s1, w1, rfl, hM, e12_1, e13_1, hn1, hE1⟩ := hq1
  refine j_if_eqN (tgt := 37) dX6_nodeItem_4 (by decide) (by omega) (fun c4 => ?_) (fun c4 => ?_)
  · have hno : rd_node (cL L) sp rn mmr row = none := rd_node_F (hE1.resolve_left (fun h => by omega)).2
    refine j_iconst (v := nI 0) dX6_nodeItem_37 (by decide +kernel) ?_
    exact j_iret dX6_nodeItem_38 rfl (by decide +kernel) ⟨_, _, _, _, rfl, hM, e12_1, ⟨by omega, by omega, fun h => absurd h (by omega)⟩, Or.inr ⟨rfl, hno⟩⟩
  · obtain ⟨-, hN1, hD1⟩ := hE1.resolve_right (fun h => by omega)
    refine j_aload_n dX6_nodeItem_7 rfl ?_
    refine j_getI dX6_nodeItem_8 flX6_107 (Nat.le_of_ble_eq_true rfl) rfl rfl ?_
    refine j_top (y0 := nI w1) e13_1 ?_
    refine j_iconst (v := nI 3) dX6_nodeItem_11 (by decide +kernel) ?_
    refine j_icmp_gtN (tgt := 37) dX6_nodeItem_12 (by decide) (by omega) (by omega) (fun c12 => ?_) (fun c12 => ?_)
    · have hno : rd_node (cL L) sp rn mmr row = none := rd_node_no hN1 (by omega)
      refine j_iconst (v := nI 0) dX6_nodeItem_37 (by decide +kernel) ?_
      exact j_iret dX6_nodeItem_38 rfl (by decide +kernel) ⟨_, _, _, _, rfl, hM, e12_1, ⟨by omega, by omega, fun h => absurd h (by omega)⟩, Or.inr ⟨rfl, hno⟩⟩
    · refine j_aload_n dX6_nodeItem_15 rfl ?_
      refine j_aload_n dX6_nodeItem_16 rfl ?_
      refine j_getI dX6_nodeItem_17 flX6_96 (Nat.le_of_ble_eq_true rfl) rfl rfl ?_
      refine j_top (y0 := nI s1) e12_1 ?_
      refine j_callV (y' := mX6_letterAt) (As := [.int (nI s1)]) (st := []) dX6_nodeItem_20 lkX6_99 okX6_letterAt imX6_letterAt seX6_letterAt (Nat.le_of_ble_eq_true rfl) rfl rfl rfl rfl (Nat.le_of_ble_eq_true rfl) (Nat.le_of_ble_eq_true rfl) (m_letterAt z _ _ _ _ _ _ _ _ s1 (by omega) F1 A hM) (fun v20 F20 A20 hq20 => ?_)
      obtain ⟨rfl, rfl, r20, rfl, hr20⟩ := hq20
      refine j_bipush (v := nI 44) dX6_nodeItem_23 (by decide +kernel) ?_
      refine j_icmp_ne (tgt := 37) dX6_nodeItem_25 (by decide) (fun c25 => ?_) (fun c25 => ?_)
      · have hno : rd_node (cL L) sp rn mmr row = none := rd_node_c hN1 (by rw [← hr20]; exact c25)
        refine j_iconst (v := nI 0) dX6_nodeItem_37 (by decide +kernel) ?_
        exact j_iret dX6_nodeItem_38 rfl (by decide +kernel) ⟨_, _, _, _, rfl, hM, e12_1, ⟨by omega, by omega, fun h => absurd h (by omega)⟩, Or.inr ⟨rfl, hno⟩⟩
      · have hl20 := lt_let hr20 c25 (by omega) (by omega)
        refine j_aload_n dX6_nodeItem_28 rfl ?_
        refine j_getI dX6_nodeItem_29 flX6_77 (Nat.le_of_ble_eq_true rfl) rfl rfl ?_
        refine j_top (y0 := nI rn) hM.2.2.1.1 ?_
        refine j_bipush (v := nI 8) dX6_nodeItem_32 (by decide +kernel) ?_
        refine j_icmp_neN (tgt := 39) dX6_nodeItem_34 (by decide) (by omega) (by omega) (fun c34 => ?_) (fun c34 => ?_)
        · have hres := rd_node_eq (mm := mmr) (row := row) hN1 (by omega) (show rn < 8 by omega)
          refine j_aload_n dX6_nodeItem_39 rfl ?_
          refine j_getR (r := 4) dX6_nodeItem_40 flX6_19 (Nat.le_of_ble_eq_true rfl) rfl rfl ?_
          refine j_bipush (v := nI 32) dX6_nodeItem_43 (by decide +kernel) ?_
          refine j_aload_n dX6_nodeItem_45 rfl ?_
          refine j_getI dX6_nodeItem_46 flX6_77 (Nat.le_of_ble_eq_true rfl) rfl rfl ?_
          refine j_top (y0 := nI rn) hM.2.2.1.1 ?_
          refine j_iaddN dX6_nodeItem_49 ?_
          refine j_aload_n dX6_nodeItem_50 rfl ?_
          refine j_getI dX6_nodeItem_51 flX6_107 (Nat.le_of_ble_eq_true rfl) rfl rfl ?_
          refine j_top (y0 := nI w1) e13_1 ?_
          refine j_iastN dX6_nodeItem_54 (Nat.le_of_ble_eq_true rfl) rfl (by omega) (by decide) ?_
          refine j_iconst (v := nI 0) dX6_nodeItem_55 (by decide +kernel) ?_
          refine j_istore_n (lv' := [(0, .ref 0), (1, .int (nI 0))]) dX6_nodeItem_56 (Nat.le_of_ble_eq_true rfl) rfl rfl ?_
          exact L57 _ 0 s1 6 (upd row (32 + rn) (nI w1)) _ F1 (mj_u A 4 (32 + rn) (nI w1)) (by first | exact hM | omega) (by first | exact e12_1 | omega) (by first | exact h1 | omega) (Or.inr (hr20.symm.trans c25)) (row_u hrow _ _) rfl hres (Nat.lt_succ_self _)
        · have hno : rd_node (cL L) sp rn mmr row = none := rd_node_no hN1 (by omega)
          refine j_iconst (v := nI 0) dX6_nodeItem_37 (by decide +kernel) ?_
          exact j_iret dX6_nodeItem_38 rfl (by decide +kernel) ⟨_, _, _, _, rfl, hM, e12_1, ⟨by omega, by omega, fun h => absurd h (by omega)⟩, Or.inr ⟨rfl, hno⟩⟩

theorem sub48 {x : Int32} {w : Nat} (h : x - nI 48 = nI w) : x = nI (48 + w) := by
  have h2 : x = x - nI 48 + nI 48 := (Int32.sub_add_cancel x _).symm
  rw [h2, h, nI_add, Nat.add_comm]
theorem in_f {x : Int32} : (nI 48 ≤ x ∧ x ≤ nI 57) ↔ ((0 : Int64) ≤ (x - nI 48).toInt64 ∧ (x - nI 48).toInt64 ≤ 9) := by
  constructor
  · rintro ⟨h1, h2⟩
    obtain ⟨j, hj, rfl⟩ := nI_of (x := x) (fun h3 => by
      rw [Int32.lt_iff_toInt_lt, Int32.toInt_zero] at h3
      rw [Int32.le_iff_toInt_le, nI_toInt (by omega)] at h1
      omega)
    rw [nI_leI (by omega) hj] at h1
    rw [nI_leI hj (by omega)] at h2
    rw [pk_sub h1]
    exact (in_natI (k := j - 48) (by omega) (a := 0) (b := 9) 0 9 rfl rfl).mpr (by omega)
  · intro h
    obtain ⟨w, hw, h1, h2⟩ := in_of h 0 9 rfl rfl
    rw [sub48 hw]
    exact ⟨nI_le (by omega) (by omega), nI_le (by omega) (by omega)⟩

set_option maxHeartbeats 400000 in
set_option maxRecDepth 100000 in
theorem m_tieItem (z : mj_B) (d : Nat) (L : Lg) (n : Nat) (mm : Nat → Nat) (rn : Nat) (rm : Nat → Nat) (un kn : Nat) (sp : Nat) (hs0 : sp ≤ 201) (mmr : Nat → Nat) (row : Nat → Int32) (F A : mj_S) (hM : MI L n mm rn rm un kn F A) (hsp : F 0 12 = nI sp) (hrow : ∀ j, j < 500 → A 4 j = row j) (hrm : ∀ j, j < rn → rm j = mmr j) : J (gM z) mX6_tieItem (d + 2) 0 [(0, .ref 0)] [] F A (fun v F' A' => ∃ r sp' rn' rm', v = some (.int (nI r)) ∧ MI L n mm rn' rm' un kn F' A' ∧ F' 0 12 = nI sp' ∧ (r ≤ 1 ∧ sp' ≤ 300 ∧ (r = 1 → sp < sp' ∧ sp' ≤ L.1)) ∧ ((r = 1 ∧ ∃ mmr' row', rd_tie (cL L) sp rn mmr row = some (sp', rn', mmr', row') ∧ (∀ j, j < 500 → A' 4 j = row' j) ∧ ∀ j, j < rn' → rm' j = mmr' j) ∨ (r = 0 ∧ rd_tie (cL L) sp rn mmr row = none))) := by
  have hM0 := hM.1.2.1
  have hM1 := hM.2.1.2.1
  have hM2 := hM.2.2.1.2.1
  have hM3 := hM.2.2.2.1.2
  have hM4 := hM.2.2.2.2.1.2
  have L118 : ∀ (fuel : Nat) (u : Nat) (v : Nat) (k : Nat) (sp1 : Nat) (f : Nat) (row1 : Nat → Int32) (res : Option (Nat × (Nat → Int32))) (F A : mj_S), (MI L n mm rn rm un kn F A) → (F 0 12 = nI sp1) → (u < v ∧ v < rn ∧ sp < sp1 ∧ sp1 ≤ 250 ∧ k ≤ rm u * rm v ∧ rm u * rm v ≤ 16 ∧ 1 ≤ rm u ∧ 1 ≤ rm v ∧ rm u ≤ 4 ∧ rm v ≤ 4 ∧ f + k = 17) → (mmr u = rm u) → (mmr v = rm v) → (∀ j, j < 500 → A 4 j = row1 j) → (rd_tb (cL L) mmr u v f sp1 k row1 = res) → (rd_tie (cL L) sp rn mmr row = rd_tM rn mmr res) → rm u * rm v - k < fuel → J (gM z) mX6_tieItem (d + 2) 118 [(0, .ref 0), (1, .int (nI u)), (2, .int (nI v)), (3, .int (nI k))] [] F A (fun v F' A' => ∃ r sp' rn' rm', v = some (.int (nI r)) ∧ MI L n mm rn' rm' un kn F' A' ∧ F' 0 12 = nI sp' ∧ (r ≤ 1 ∧ sp' ≤ 300 ∧ (r = 1 → sp < sp' ∧ sp' ≤ L.1)) ∧ ((r = 1 ∧ ∃ mmr' row', rd_tie (cL L) sp rn mmr row = some (sp', rn', mmr', row') ∧ (∀ j, j < 500 → A' 4 j = row' j) ∧ ∀ j, j < rn' → rm' j = mmr' j) ∨ (r = 0 ∧ rd_tie (cL L) sp rn mmr row = none))) := by
    intro fuel
    induction fuel with
    | zero => intro u v k sp1 f row1 res F A hM hsp h1 heu hev hrow hspec hres hf; exact absurd hf (by omega)
    | succ fuel ih118 =>
      intro u v k sp1 f row1 res F A hM hsp h1 heu hev hrow hspec hres hf
      refine j_iload_n dX6_tieItem_118 rfl ?_
      refine j_aload_n dX6_tieItem_119 rfl ?_
      refine j_getR (r := 3) dX6_tieItem_120 flX6_16 (Nat.le_of_ble_eq_true rfl) rfl rfl ?_
      refine j_iload_n dX6_tieItem_123 rfl ?_
      refine j_ialdN dX6_tieItem_124 (Nat.le_of_ble_eq_true rfl) rfl (by omega) (by decide) ?_
      refine j_top (y0 := nI (rm u)) (hM.2.2.1.2.2.1 _ (by omega)) ?_
      refine j_aload_n dX6_tieItem_125 rfl ?_
      refine j_getR (r := 3) dX6_tieItem_126 flX6_16 (Nat.le_of_ble_eq_true rfl) rfl rfl ?_
      refine j_iload_n dX6_tieItem_129 rfl ?_
      refine j_ialdN dX6_tieItem_130 (Nat.le_of_ble_eq_true rfl) rfl (by omega) (by decide) ?_
      refine j_top (y0 := nI (rm v)) (hM.2.2.1.2.2.1 _ (by omega)) ?_
      refine j_imulN dX6_tieItem_131 ?_
      refine j_icmp_geN (tgt := 209) dX6_tieItem_132 (by decide) (by omega) (by omega) (fun c132 => ?_) (fun c132 => ?_)
      · refine j_aload_n dX6_tieItem_209 rfl ?_
        refine j_dup dX6_tieItem_210 rfl ?_
        refine j_getI dX6_tieItem_211 flX6_96 (Nat.le_of_ble_eq_true rfl) rfl rfl ?_
        refine j_top (y0 := nI sp1) hsp ?_
        refine j_iconst (v := nI 1) dX6_tieItem_214 (by decide +kernel) ?_
        refine j_iaddN dX6_tieItem_215 ?_
        refine j_putI dX6_tieItem_216 fpX6_96 (Nat.le_of_ble_eq_true rfl) rfl rfl ?_
        refine j_aload_n dX6_tieItem_219 rfl ?_
        refine j_aload_n dX6_tieItem_220 rfl ?_
        refine j_getI dX6_tieItem_221 flX6_96 (Nat.le_of_ble_eq_true rfl) rfl rfl ?_
        refine j_top (y0 := nI (sp1 + 1)) rfl ?_
        refine j_iconst (v := nI 1) dX6_tieItem_224 (by decide +kernel) ?_
        refine j_isubN dX6_tieItem_225 (by omega) ?_
        refine j_callV (y' := mX6_letterAt) (As := [.int (nI ((sp1 + 1) - 1))]) (st := []) dX6_tieItem_226 lkX6_99 okX6_letterAt imX6_letterAt seX6_letterAt (Nat.le_of_ble_eq_true rfl) rfl rfl rfl rfl (Nat.le_of_ble_eq_true rfl) (Nat.le_of_ble_eq_true rfl) (m_letterAt z _ _ _ _ _ _ _ _ ((sp1 + 1) - 1) (by omega) (mj_u F 0 12 (nI (sp1 + 1))) A hM) (fun v226 F226 A226 hq226 => ?_)
        obtain ⟨rfl, rfl, r226, rfl, hr226⟩ := hq226
        refine j_bipush (v := nI 59) dX6_tieItem_229 (by decide +kernel) ?_
        refine j_icmp_ne (tgt := 238) dX6_tieItem_231 (by decide) (fun c231 => ?_) (fun c231 => ?_)
        · have hr226 : r226 = cL L sp1 := hr226
          have hno : rd_tie (cL L) sp rn mmr row = none := by rw [hres, ← hspec, rd_tb_x (by rw [heu, hev]; omega) (by rw [← hr226]; exact c231)]; rfl
          refine j_iconst (v := nI 0) dX6_tieItem_238 (by decide +kernel) ?_
          exact j_iret dX6_tieItem_239 rfl (by decide +kernel) ⟨_, _, _, _, rfl, hM, rfl, ⟨by omega, by omega, fun h => by first | omega | (have := lt_let hr226 c231 (by omega) (by omega); omega)⟩, by first | exact Or.inr ⟨rfl, hno⟩ | exact Or.inl ⟨rfl, _, _, hsome, hrow, hrm⟩⟩
        · have hr226 : r226 = cL L sp1 := hr226
          have hsome : rd_tie (cL L) sp rn mmr row = some (sp1 + 1, rn, mmr, row1) := by
            obtain ⟨f1, rfl⟩ : ∃ f1, f = f1 + 1 := ⟨f - 1, by omega⟩
            rw [hres, ← hspec, rd_tb_e f1 (by rw [heu, hev]; omega) (hr226.symm.trans c231)]
            rfl
          refine j_iconst (v := nI 1) dX6_tieItem_234 (by decide +kernel) ?_
          refine j_goto (tgt := 239) dX6_tieItem_235 (by decide) ?_
          exact j_iret dX6_tieItem_239 rfl (by decide +kernel) ⟨_, _, _, _, rfl, hM, rfl, ⟨by omega, by omega, fun h => by first | omega | (have := lt_let hr226 c231 (by omega) (by omega); omega)⟩, by first | exact Or.inr ⟨rfl, hno⟩ | exact Or.inl ⟨rfl, _, _, hsome, hrow, hrm⟩⟩
      · have hd1 : k / rm v < rm u := Nat.div_lt_of_lt_mul (by rw [Nat.mul_comm]; exact c132)
        have hd2 : k % rm v < rm v := Nat.mod_lt _ (by omega)
        refine j_aload_n dX6_tieItem_135 rfl ?_
        refine j_aload_n dX6_tieItem_136 rfl ?_
        refine j_getI dX6_tieItem_137 flX6_96 (Nat.le_of_ble_eq_true rfl) rfl rfl ?_
        refine j_top (y0 := nI sp1) hsp ?_
        refine j_callV (y' := mX6_letterAt) (As := [.int (nI sp1)]) (st := []) dX6_tieItem_140 lkX6_99 okX6_letterAt imX6_letterAt seX6_letterAt (Nat.le_of_ble_eq_true rfl) rfl rfl rfl rfl (Nat.le_of_ble_eq_true rfl) (Nat.le_of_ble_eq_true rfl) (m_letterAt z _ _ _ _ _ _ _ _ sp1 (by omega) F A hM) (fun v140 F140 A140 hq140 => ?_)
        obtain ⟨rfl, rfl, r140, rfl, hr140⟩ := hq140
        refine j_bipush (v := nI 48) dX6_tieItem_143 (by decide +kernel) ?_
        refine j_isub dX6_tieItem_145 ?_
        refine j_istore (lv' := [(0, .ref 0), (1, .int (nI u)), (2, .int (nI v)), (3, .int (nI k)), (4, .int (r140 - (nI 48)))]) dX6_tieItem_146 (Nat.le_of_ble_eq_true rfl) rfl rfl ?_
        refine j_iload dX6_tieItem_148 rfl ?_
        refine j_i2l dX6_tieItem_150 rfl ?_
        refine j_lconst (v := 0) dX6_tieItem_151 rfl ?_
        refine j_ldc2 dX6_tieItem_152 klX6_120 ?_
        refine j_callS (y' := mX6_in) (As := [.long ((r140 - (nI 48)).toInt64), .long (0), .long ((9))]) (st := []) dX6_tieItem_155 lkX6_89 okX6_in stX6_in rfl (Nat.le_of_ble_eq_true rfl) (Nat.le_of_ble_eq_true rfl) (m_in z _ ((r140 - (nI 48)).toInt64) 0 (9) F A) (fun v155 F155 A155 hq155 => ?_)
        obtain ⟨rfl, rfl, r155, rfl, hr155⟩ := hq155
        have hb155 : r155 ≤ 1 := by omega
        refine j_if_neN (tgt := 163) dX6_tieItem_158 (by decide) (by omega) (fun c158 => ?_) (fun c158 => ?_)
        · obtain ⟨w9, ew, hw1, hw2⟩ := in_of (hr155.resolve_right (fun h => by omega)).2 0 9 rfl rfl
          have hc9 : cL L sp1 = nI (48 + w9) := by rw [← hr140]; exact sub48 ew
          have hl140 : sp1 < L.1 := rd_c_lt hc9 (by omega) (by omega)
          have hdg := rd_d_of hc9 hw2
          rw [ew]
          refine j_aload_n dX6_tieItem_163 rfl ?_
          refine j_getR (r := 4) dX6_tieItem_164 flX6_19 (Nat.le_of_ble_eq_true rfl) rfl rfl ?_
          refine j_iload_n dX6_tieItem_167 rfl ?_
          refine j_iload_n dX6_tieItem_168 rfl ?_
          refine j_iload_n dX6_tieItem_169 rfl ?_
          refine j_aload_n dX6_tieItem_170 rfl ?_
          refine j_getR (r := 3) dX6_tieItem_171 flX6_16 (Nat.le_of_ble_eq_true rfl) rfl rfl ?_
          refine j_iload_n dX6_tieItem_174 rfl ?_
          refine j_ialdN dX6_tieItem_175 (Nat.le_of_ble_eq_true rfl) rfl (by omega) (by decide) ?_
          refine j_top (y0 := nI (rm v)) (hM.2.2.1.2.2.1 _ (by omega)) ?_
          refine j_idivN dX6_tieItem_176 (by omega) (by omega) (by omega) ?_
          refine j_iload_n dX6_tieItem_177 rfl ?_
          refine j_aload_n dX6_tieItem_178 rfl ?_
          refine j_getR (r := 3) dX6_tieItem_179 flX6_16 (Nat.le_of_ble_eq_true rfl) rfl rfl ?_
          refine j_iload_n dX6_tieItem_182 rfl ?_
          refine j_ialdN dX6_tieItem_183 (Nat.le_of_ble_eq_true rfl) rfl (by omega) (by decide) ?_
          refine j_top (y0 := nI (rm v)) (hM.2.2.1.2.2.1 _ (by omega)) ?_
          refine j_iremN dX6_tieItem_184 (by omega) (by omega) (by omega) ?_
          refine j_callS (y' := mX6_entryAt) (As := [.int (nI u), .int (nI v), .int (nI (k / (rm v))), .int (nI (k % (rm v)))]) (st := [.ref 4]) dX6_tieItem_185 lkX6_81 okX6_entryAt stX6_entryAt rfl (Nat.le_of_ble_eq_true rfl) (Nat.le_of_ble_eq_true rfl) (m_entryAt z _ u v (k / (rm v)) (k % (rm v)) (by omega) (by omega) (by omega) (by omega) (by omega) F A) (fun v185 F185 A185 hq185 => ?_)
          obtain ⟨rfl, rfl, e185, rfl, he185⟩ := hq185
          have hl185 : e185 < 500 := by rw [he185]; exact eA_lt (by omega) (by omega) (by omega) (by omega) (by omega)
          refine j_iconst (v := nI 1) dX6_tieItem_188 (by decide +kernel) ?_
          refine j_iload dX6_tieItem_189 rfl ?_
          refine j_iaddN dX6_tieItem_191 ?_
          refine j_iastN dX6_tieItem_192 (Nat.le_of_ble_eq_true rfl) rfl (by omega) (by decide) ?_
          refine j_aload_n dX6_tieItem_193 rfl ?_
          refine j_dup dX6_tieItem_194 rfl ?_
          refine j_getI dX6_tieItem_195 flX6_96 (Nat.le_of_ble_eq_true rfl) rfl rfl ?_
          refine j_top (y0 := nI sp1) hsp ?_
          refine j_iconst (v := nI 1) dX6_tieItem_198 (by decide +kernel) ?_
          refine j_iaddN dX6_tieItem_199 ?_
          refine j_putI dX6_tieItem_200 fpX6_96 (Nat.le_of_ble_eq_true rfl) rfl rfl ?_
          refine j_iinc (v := nI (k + 1)) (lv' := [(0, .ref 0), (1, .int (nI u)), (2, .int (nI v)), (3, .int (nI (k + 1))), (4, .int (nI w9))]) dX6_tieItem_203 rfl (nI_add _ 1) (Nat.le_of_ble_eq_true rfl) rfl rfl ?_
          refine j_goto (tgt := 118) dX6_tieItem_206 (by decide) ?_
          refine j_sub [0, 1, 2, 3] rfl ?_
          exact ih118 u v (k + 1) (sp1 + 1) (f - 1) (upd row1 (eA u v (k / rm v) (k % rm v)) (nI (1 + w9))) res (mj_u F 0 12 (nI (sp1 + 1))) (mj_u A 4 e185 (nI (1 + w9))) (by first | exact hM | omega) rfl (by first | exact h1 | omega) (by first | exact heu | omega) (by first | exact hev | omega) (by rw [← he185]; exact row_u hrow _ _) (by rw [← hspec, show f = f - 1 + 1 by omega, rd_tb_d _ (by rw [heu, hev]; omega) hdg, hev]; rfl) hres (by omega)
        · have hno : rd_tie (cL L) sp rn mmr row = none := by rw [hres, ← hspec, rd_tb_no (by rw [heu, hev]; omega) (rd_d_none (fun q => (hr155.resolve_left (fun h => by omega)).2 (by rw [hr140]; exact in_f.mp q)))]; rfl
          refine j_iconst (v := nI 0) dX6_tieItem_161 (by decide +kernel) ?_
          exact j_iret dX6_tieItem_162 rfl (by decide +kernel) ⟨_, _, _, _, rfl, hM, hsp, ⟨by omega, by omega, fun h => absurd h (by omega)⟩, Or.inr ⟨rfl, hno⟩⟩
  refine j_aload_n dX6_tieItem_0 rfl ?_
  refine j_callV (y' := mX6_isNumber) (As := []) (st := []) dX6_tieItem_1 lkX6_112 okX6_isNumber imX6_isNumber seX6_isNumber (Nat.le_of_ble_eq_true rfl) rfl rfl rfl rfl (Nat.le_of_ble_eq_true rfl) (Nat.le_of_ble_eq_true rfl) (m_isNumber z _ _ _ _ _ _ _ _ sp (by omega) F A hM hsp) (fun v1 F1 A1 hq1 => ?_)
  obtain ⟨rfl, r1, s1, w1, rfl, hM, e12_1, e13_1, hn1, hE1⟩ := hq1
  refine j_if_eqN (tgt := 20) dX6_tieItem_4 (by decide) (by omega) (fun c4 => ?_) (fun c4 => ?_)
  · have hno : rd_tie (cL L) sp rn mmr row = none := rd_tie_F (hE1.resolve_left (fun h => by omega)).2
    refine j_iconst (v := nI 0) dX6_tieItem_20 (by decide +kernel) ?_
    exact j_iret dX6_tieItem_21 rfl (by decide +kernel) ⟨_, _, _, _, rfl, hM, e12_1, ⟨by omega, by omega, fun h => absurd h (by omega)⟩, Or.inr ⟨rfl, hno⟩⟩
  · obtain ⟨-, hN1, hD1⟩ := hE1.resolve_right (fun h => by omega)
    refine j_aload_n dX6_tieItem_7 rfl ?_
    refine j_aload_n dX6_tieItem_8 rfl ?_
    refine j_getI dX6_tieItem_9 flX6_96 (Nat.le_of_ble_eq_true rfl) rfl rfl ?_
    refine j_top (y0 := nI s1) e12_1 ?_
    refine j_callV (y' := mX6_letterAt) (As := [.int (nI s1)]) (st := []) dX6_tieItem_12 lkX6_99 okX6_letterAt imX6_letterAt seX6_letterAt (Nat.le_of_ble_eq_true rfl) rfl rfl rfl rfl (Nat.le_of_ble_eq_true rfl) (Nat.le_of_ble_eq_true rfl) (m_letterAt z _ _ _ _ _ _ _ _ s1 (by omega) F1 A hM) (fun v12 F12 A12 hq12 => ?_)
    obtain ⟨rfl, rfl, r12, rfl, hr12⟩ := hq12
    refine j_bipush (v := nI 44) dX6_tieItem_15 (by decide +kernel) ?_
    refine j_icmp_eq (tgt := 22) dX6_tieItem_17 (by decide) (fun c17 => ?_) (fun c17 => ?_)
    · have hl12 := lt_let hr12 c17 (by omega) (by omega)
      have hc1 := hr12.symm.trans c17
      refine j_aload_n dX6_tieItem_22 rfl ?_
      refine j_getI dX6_tieItem_23 flX6_107 (Nat.le_of_ble_eq_true rfl) rfl rfl ?_
      refine j_top (y0 := nI w1) e13_1 ?_
      refine j_istore_n (lv' := [(0, .ref 0), (1, .int (nI w1))]) dX6_tieItem_26 (Nat.le_of_ble_eq_true rfl) rfl rfl ?_
      refine j_aload_n dX6_tieItem_27 rfl ?_
      refine j_dup dX6_tieItem_28 rfl ?_
      refine j_getI dX6_tieItem_29 flX6_96 (Nat.le_of_ble_eq_true rfl) rfl rfl ?_
      refine j_top (y0 := nI s1) e12_1 ?_
      refine j_iconst (v := nI 1) dX6_tieItem_32 (by decide +kernel) ?_
      refine j_iaddN dX6_tieItem_33 ?_
      refine j_putI dX6_tieItem_34 fpX6_96 (Nat.le_of_ble_eq_true rfl) rfl rfl ?_
      refine j_aload_n dX6_tieItem_37 rfl ?_
      refine j_callV (y' := mX6_isNumber) (As := []) (st := []) dX6_tieItem_38 lkX6_112 okX6_isNumber imX6_isNumber seX6_isNumber (Nat.le_of_ble_eq_true rfl) rfl rfl rfl rfl (Nat.le_of_ble_eq_true rfl) (Nat.le_of_ble_eq_true rfl) (m_isNumber z _ _ _ _ _ _ _ _ (s1 + 1) (by omega) (mj_u F1 0 12 (nI (s1 + 1))) A hM rfl) (fun v38 F38 A38 hq38 => ?_)
      obtain ⟨rfl, r38, s38, w38, rfl, hM, e12_38, e13_38, hn38, hE38⟩ := hq38
      refine j_if_eqN (tgt := 57) dX6_tieItem_41 (by decide) (by omega) (fun c41 => ?_) (fun c41 => ?_)
      · have hno : rd_tie (cL L) sp rn mmr row = none := rd_tie_F2 hN1 (hE38.resolve_left (fun h => by omega)).2
        refine j_iconst (v := nI 0) dX6_tieItem_57 (by decide +kernel) ?_
        exact j_iret dX6_tieItem_58 rfl (by decide +kernel) ⟨_, _, _, _, rfl, hM, e12_38, ⟨by omega, by omega, fun h => absurd h (by omega)⟩, Or.inr ⟨rfl, hno⟩⟩
      · obtain ⟨-, hN38, hD38⟩ := hE38.resolve_right (fun h => by omega)
        refine j_aload_n dX6_tieItem_44 rfl ?_
        refine j_aload_n dX6_tieItem_45 rfl ?_
        refine j_getI dX6_tieItem_46 flX6_96 (Nat.le_of_ble_eq_true rfl) rfl rfl ?_
        refine j_top (y0 := nI s38) e12_38 ?_
        refine j_callV (y' := mX6_letterAt) (As := [.int (nI s38)]) (st := []) dX6_tieItem_49 lkX6_99 okX6_letterAt imX6_letterAt seX6_letterAt (Nat.le_of_ble_eq_true rfl) rfl rfl rfl rfl (Nat.le_of_ble_eq_true rfl) (Nat.le_of_ble_eq_true rfl) (m_letterAt z _ _ _ _ _ _ _ _ s38 (by omega) F38 A hM) (fun v49 F49 A49 hq49 => ?_)
        obtain ⟨rfl, rfl, r49, rfl, hr49⟩ := hq49
        refine j_bipush (v := nI 44) dX6_tieItem_52 (by decide +kernel) ?_
        refine j_icmp_eq (tgt := 59) dX6_tieItem_54 (by decide) (fun c54 => ?_) (fun c54 => ?_)
        · have hl49 := lt_let hr49 c54 (by omega) (by omega)
          have hc2 := hr49.symm.trans c54
          refine j_aload_n dX6_tieItem_59 rfl ?_
          refine j_getI dX6_tieItem_60 flX6_107 (Nat.le_of_ble_eq_true rfl) rfl rfl ?_
          refine j_top (y0 := nI w38) e13_38 ?_
          refine j_istore_n (lv' := [(0, .ref 0), (1, .int (nI w1)), (2, .int (nI w38))]) dX6_tieItem_63 (Nat.le_of_ble_eq_true rfl) rfl rfl ?_
          refine j_aload_n dX6_tieItem_64 rfl ?_
          refine j_dup dX6_tieItem_65 rfl ?_
          refine j_getI dX6_tieItem_66 flX6_96 (Nat.le_of_ble_eq_true rfl) rfl rfl ?_
          refine j_top (y0 := nI s38) e12_38 ?_
          refine j_iconst (v := nI 1) dX6_tieItem_69 (by decide +kernel) ?_
          refine j_iaddN dX6_tieItem_70 ?_
          refine j_putI dX6_tieItem_71 fpX6_96 (Nat.le_of_ble_eq_true rfl) rfl rfl ?_
          refine j_iload_n dX6_tieItem_74 rfl ?_
          refine j_iload_n dX6_tieItem_75 rfl ?_
          refine j_icmp_geN (tgt := 114) dX6_tieItem_76 (by decide) (by omega) (by omega) (fun c76 => ?_) (fun c76 => ?_)
          · have hno : rd_tie (cL L) sp rn mmr row = none := rd_tie_no hN1 hN38 (fun q => absurd q.2.1 (by omega))
            refine j_iconst (v := nI 0) dX6_tieItem_114 (by decide +kernel) ?_
            exact j_iret dX6_tieItem_115 rfl (by decide +kernel) ⟨_, _, _, _, rfl, hM, rfl, ⟨by omega, by omega, fun h => absurd h (by omega)⟩, Or.inr ⟨rfl, hno⟩⟩
          · refine j_iload_n dX6_tieItem_79 rfl ?_
            refine j_aload_n dX6_tieItem_80 rfl ?_
            refine j_getI dX6_tieItem_81 flX6_77 (Nat.le_of_ble_eq_true rfl) rfl rfl ?_
            refine j_top (y0 := nI rn) hM.2.2.1.1 ?_
            refine j_icmp_geN (tgt := 114) dX6_tieItem_84 (by decide) (by omega) (by omega) (fun c84 => ?_) (fun c84 => ?_)
            · have hno : rd_tie (cL L) sp rn mmr row = none := rd_tie_no hN1 hN38 (fun q => absurd q.2.2.1 (by omega))
              refine j_iconst (v := nI 0) dX6_tieItem_114 (by decide +kernel) ?_
              exact j_iret dX6_tieItem_115 rfl (by decide +kernel) ⟨_, _, _, _, rfl, hM, rfl, ⟨by omega, by omega, fun h => absurd h (by omega)⟩, Or.inr ⟨rfl, hno⟩⟩
            · refine j_aload_n dX6_tieItem_87 rfl ?_
              refine j_getR (r := 4) dX6_tieItem_88 flX6_19 (Nat.le_of_ble_eq_true rfl) rfl rfl ?_
              refine j_iload_n dX6_tieItem_91 rfl ?_
              refine j_iload_n dX6_tieItem_92 rfl ?_
              refine j_iconst (v := nI 0) dX6_tieItem_93 (by decide +kernel) ?_
              refine j_iconst (v := nI 0) dX6_tieItem_94 (by decide +kernel) ?_
              refine j_callS (y' := mX6_entryAt) (As := [.int (nI w1), .int (nI w38), .int (nI 0), .int (nI 0)]) (st := [.ref 4]) dX6_tieItem_95 lkX6_81 okX6_entryAt stX6_entryAt rfl (Nat.le_of_ble_eq_true rfl) (Nat.le_of_ble_eq_true rfl) (m_entryAt z _ w1 w38 0 0 (by omega) (by omega) (by omega) (by omega) (by omega) (mj_u F38 0 12 (nI (s38 + 1))) A) (fun v95 F95 A95 hq95 => ?_)
              obtain ⟨rfl, rfl, e95, rfl, he95⟩ := hq95
              have hl95 : e95 < 500 := by rw [he95]; exact eA_lt (by omega) (by omega) (by omega) (by omega) (by omega)
              refine j_ialdN dX6_tieItem_98 (Nat.le_of_ble_eq_true rfl) rfl (by omega) (by decide) ?_
              refine j_if_gt (tgt := 114) dX6_tieItem_99 (by decide) (fun c99 => ?_) (fun c99 => ?_)
              · have hno : rd_tie (cL L) sp rn mmr row = none := rd_tie_no hN1 hN38 (fun q => q.2.2.2.1 (by rw [← he95, ← hrow _ hl95]; exact c99))
                refine j_iconst (v := nI 0) dX6_tieItem_114 (by decide +kernel) ?_
                exact j_iret dX6_tieItem_115 rfl (by decide +kernel) ⟨_, _, _, _, rfl, hM, rfl, ⟨by omega, by omega, fun h => absurd h (by omega)⟩, Or.inr ⟨rfl, hno⟩⟩
              · refine j_aload_n dX6_tieItem_102 rfl ?_
                refine j_getR (r := 4) dX6_tieItem_103 flX6_19 (Nat.le_of_ble_eq_true rfl) rfl rfl ?_
                refine j_callS (y' := mX6_tiesIn) (As := [.ref 4]) (st := []) dX6_tieItem_106 lkX6_116 okX6_tiesIn stX6_tiesIn rfl (Nat.le_of_ble_eq_true rfl) (Nat.le_of_ble_eq_true rfl) (m_tiesIn z _ 4 (Nat.le_of_ble_eq_true rfl) rfl (mj_u F38 0 12 (nI (s38 + 1))) A) (fun v106 F106 A106 hq106 => ?_)
                obtain ⟨rfl, rfl, r106, rfl, hr106⟩ := hq106
                have hl106 : r106 ≤ 28 := by rw [hr106]; exact tsN_le _ 28
                refine j_bipush (v := nI 12) dX6_tieItem_109 (by decide +kernel) ?_
                refine j_icmp_neN (tgt := 116) dX6_tieItem_111 (by decide) (by omega) (by omega) (fun c111 => ?_) (fun c111 => ?_)
                · have hres := rd_tie_eq (mm := mmr) (row := row) (n := rn) hN1 hc1 hN38 ⟨hc2, by omega, by omega, fun q => c99 (by rw [hrow _ hl95, he95]; exact q), fun q => c111 (by rw [hr106, tsN_congr (row' := row) (fun q hq => hrow _ (by omega))]; exact q)⟩
                  refine j_iconst (v := nI 0) dX6_tieItem_116 (by decide +kernel) ?_
                  refine j_istore_n (lv' := [(0, .ref 0), (1, .int (nI w1)), (2, .int (nI w38)), (3, .int (nI 0))]) dX6_tieItem_117 (Nat.le_of_ble_eq_true rfl) rfl rfl ?_
                  exact L118 _ w1 w38 0 (s38 + 1) 17 row _ (mj_u F38 0 12 (nI (s38 + 1))) A (by first | exact hM | omega) rfl ⟨by omega, by omega, by omega, by omega, Nat.zero_le _, Nat.mul_le_mul (hM.2.2.1.2.2.2.1 _) (hM.2.2.1.2.2.2.1 _), hM.2.2.1.2.2.2.2 _ (by omega), hM.2.2.1.2.2.2.2 _ (by omega), hM.2.2.1.2.2.2.1 _, hM.2.2.1.2.2.2.1 _, rfl⟩ (hrm _ (by omega)).symm (hrm _ (by omega)).symm hrow rfl hres (Nat.lt_succ_self _)
                · have hno : rd_tie (cL L) sp rn mmr row = none := rd_tie_no hN1 hN38 (fun q => q.2.2.2.2 (by rw [← tsN_congr (row := A 4) (fun q hq => hrow _ (by omega)), ← hr106]; exact c111))
                  refine j_iconst (v := nI 0) dX6_tieItem_114 (by decide +kernel) ?_
                  exact j_iret dX6_tieItem_115 rfl (by decide +kernel) ⟨_, _, _, _, rfl, hM, rfl, ⟨by omega, by omega, fun h => absurd h (by omega)⟩, Or.inr ⟨rfl, hno⟩⟩
        · have hno : rd_tie (cL L) sp rn mmr row = none := rd_tie_no hN1 hN38 (fun q => c54 (by rw [hr49]; exact q.1))
          refine j_iconst (v := nI 0) dX6_tieItem_57 (by decide +kernel) ?_
          exact j_iret dX6_tieItem_58 rfl (by decide +kernel) ⟨_, _, _, _, rfl, hM, e12_38, ⟨by omega, by omega, fun h => absurd h (by omega)⟩, Or.inr ⟨rfl, hno⟩⟩
    · have hno : rd_tie (cL L) sp rn mmr row = none := rd_tie_c hN1 (by rw [← hr12]; exact c17)
      refine j_iconst (v := nI 0) dX6_tieItem_20 (by decide +kernel) ?_
      exact j_iret dX6_tieItem_21 rfl (by decide +kernel) ⟨_, _, _, _, rfl, hM, e12_1, ⟨by omega, by omega, fun h => absurd h (by omega)⟩, Or.inr ⟨rfl, hno⟩⟩

set_option maxHeartbeats 400000 in
set_option maxRecDepth 100000 in
theorem m_readAll (z : mj_B) (d : Nat) (L : Lg) (n : Nat) (mm : Nat → Nat) (rn : Nat) (rm : Nat → Nat) (un kn : Nat) (F A : mj_S) (hM : MI L n mm rn rm un kn F A) : J (gM z) mX6_readAll (d + 3) 0 [(0, .ref 0)] [] F A (fun v F' A' => ∃ (x : Int32) (rn' : Nat) (rm' : Nat → Nat), v = some (.int x) ∧ MI L n mm rn' rm' un kn F' A' ∧ ((∃ b, rd_text (cL L) L.1 = .inl b ∧ x = nI b ∧ b ≤ 200) ∨ (x = (-4) ∧ ∃ mmr row, rd_text (cL L) L.1 = .inr (rn', mmr, row) ∧ (∀ j, j < 500 → A' 4 j = row j) ∧ ∀ j, j < rn' → rm' j = mmr j))) := by
  have hM0 := hM.1.2.1
  have hM1 := hM.2.1.2.1
  have hM2 := hM.2.2.1.2.1
  have hM3 := hM.2.2.2.1.2
  have hM4 := hM.2.2.2.2.1.2
  have L9 : ∀ (fuel : Nat) (sp : Nat) (rn9 : Nat) (rm9 : Nat → Nat) (mmr : Nat → Nat) (row : Nat → Int32) (f : Nat) (F A : mj_S), (MI L n mm rn9 rm9 un kn F A) → (F 0 12 = nI sp) → (sp ≤ L.1 ∧ L.1 < sp + f) → (∀ j, j < 500 → A 4 j = row j) → (∀ j, j < rn9 → rm9 j = mmr j) → (rd_all (cL L) L.1 f sp rn9 mmr row = rd_text (cL L) L.1) → L.1 - sp < fuel → J (gM z) mX6_readAll (d + 3) 9 [(0, .ref 0)] [] F A (fun v F' A' => ∃ (x : Int32) (rn' : Nat) (rm' : Nat → Nat), v = some (.int x) ∧ MI L n mm rn' rm' un kn F' A' ∧ ((∃ b, rd_text (cL L) L.1 = .inl b ∧ x = nI b ∧ b ≤ 200) ∨ (x = (-4) ∧ ∃ mmr row, rd_text (cL L) L.1 = .inr (rn', mmr, row) ∧ (∀ j, j < 500 → A' 4 j = row j) ∧ ∀ j, j < rn' → rm' j = mmr j))) := by
    intro fuel
    induction fuel with
    | zero => intro sp rn9 rm9 mmr row f F A hM hsp h1 hrow hrm hspec hf; exact absurd hf (by omega)
    | succ fuel ih9 =>
      intro sp rn9 rm9 mmr row f F A hM hsp h1 hrow hrm hspec hf
      obtain ⟨f, rfl⟩ : ∃ f1, f = f1 + 1 := ⟨f - 1, by omega⟩
      refine j_aload_n dX6_readAll_9 rfl ?_
      refine j_getI dX6_readAll_10 flX6_96 (Nat.le_of_ble_eq_true rfl) rfl rfl ?_
      refine j_top (y0 := nI sp) hsp ?_
      refine j_aload_n dX6_readAll_13 rfl ?_
      refine j_getI dX6_readAll_14 flX6_93 (Nat.le_of_ble_eq_true rfl) rfl rfl ?_
      refine j_top (y0 := nI (L.1)) hM.1.1 ?_
      refine j_icmp_geN (tgt := 78) dX6_readAll_17 (by decide) (by omega) (by omega) (fun c17 => ?_) (fun c17 => ?_)
      · have hfin : rd_text (cL L) L.1 = .inr (rn9, mmr, row) := by rw [← hspec, rd_all_end f (by omega)]
        refine j_bipush (v := (-4)) dX6_readAll_78 (by decide +kernel) ?_
        exact j_iret dX6_readAll_80 rfl rfl ⟨_, _, _, rfl, hM, Or.inr ⟨rfl, _, _, hfin, hrow, hrm⟩⟩
      · refine j_aload_n dX6_readAll_20 rfl ?_
        refine j_getI dX6_readAll_21 flX6_96 (Nat.le_of_ble_eq_true rfl) rfl rfl ?_
        refine j_top (y0 := nI sp) hsp ?_
        refine j_istore_n (lv' := [(0, .ref 0), (1, .int (nI sp))]) dX6_readAll_24 (Nat.le_of_ble_eq_true rfl) rfl rfl ?_
        refine j_aload_n dX6_readAll_25 rfl ?_
        refine j_aload_n dX6_readAll_26 rfl ?_
        refine j_getI dX6_readAll_27 flX6_96 (Nat.le_of_ble_eq_true rfl) rfl rfl ?_
        refine j_top (y0 := nI sp) hsp ?_
        refine j_callV (y' := mX6_letterAt) (As := [.int (nI sp)]) (st := []) dX6_readAll_30 lkX6_99 okX6_letterAt imX6_letterAt seX6_letterAt (Nat.le_of_ble_eq_true rfl) rfl rfl rfl rfl (Nat.le_of_ble_eq_true rfl) (Nat.le_of_ble_eq_true rfl) (m_letterAt z _ _ _ _ _ _ _ _ sp (by omega) F A hM) (fun v30 F30 A30 hq30 => ?_)
        obtain ⟨rfl, rfl, r30, rfl, hr30⟩ := hq30
        refine j_istore_n (lv' := [(0, .ref 0), (1, .int (nI sp)), (2, .int r30)]) dX6_readAll_33 (Nat.le_of_ble_eq_true rfl) rfl rfl ?_
        refine j_aload_n dX6_readAll_34 rfl ?_
        refine j_dup dX6_readAll_35 rfl ?_
        refine j_getI dX6_readAll_36 flX6_96 (Nat.le_of_ble_eq_true rfl) rfl rfl ?_
        refine j_top (y0 := nI sp) hsp ?_
        refine j_iconst (v := nI 1) dX6_readAll_39 (by decide +kernel) ?_
        refine j_iaddN dX6_readAll_40 ?_
        refine j_putI dX6_readAll_41 fpX6_96 (Nat.le_of_ble_eq_true rfl) rfl rfl ?_
        refine j_iload_n dX6_readAll_44 rfl ?_
        refine j_bipush (v := nI 110) dX6_readAll_45 (by decide +kernel) ?_
        refine j_icmp_ne (tgt := 60) dX6_readAll_47 (by decide) (fun c47 => ?_) (fun c47 => ?_)
        · refine j_iload_n dX6_readAll_60 rfl ?_
          refine j_bipush (v := nI 101) dX6_readAll_61 (by decide +kernel) ?_
          refine j_icmp_ne (tgt := 73) dX6_readAll_63 (by decide) (fun c63 => ?_) (fun c63 => ?_)
          · have hfin : rd_text (cL L) L.1 = .inl sp := by rw [← hspec, rd_all_no f (by omega) (rd_item_no (by rw [← hr30]; exact c47) (by rw [← hr30]; exact c63))]
            refine j_iload_n dX6_readAll_73 rfl ?_
            exact j_iret dX6_readAll_74 rfl rfl ⟨_, _, _, rfl, hM, Or.inl ⟨sp, hfin, rfl, by omega⟩⟩
          · refine j_aload_n dX6_readAll_66 rfl ?_
            refine j_callV (y' := mX6_tieItem) (As := []) (st := []) dX6_readAll_67 lkX6_125 okX6_tieItem imX6_tieItem seX6_tieItem (Nat.le_of_ble_eq_true rfl) rfl rfl rfl rfl (Nat.le_of_ble_eq_true rfl) (Nat.le_of_ble_eq_true rfl) (m_tieItem z _ _ _ _ _ _ _ _ (sp + 1) (by omega) _ _ (mj_u F 0 12 (nI (sp + 1))) A hM rfl hrow hrm) (fun v67 F67 A67 hq67 => ?_)
            obtain ⟨r67, s67, rn67, rm67, rfl, hM, e12_67, hn67, hE67⟩ := hq67
            refine j_if_neN (tgt := 75) dX6_readAll_70 (by decide) (by omega) (fun c70 => ?_) (fun c70 => ?_)
            · obtain ⟨-, mmr67, row67, hi67, hrow67, hrm67⟩ := hE67.resolve_right (fun h => by omega)
              rw [← rd_item_e (hr30.symm.trans c63)] at hi67
              refine j_goto (tgt := 9) dX6_readAll_75 (by decide) ?_
              refine j_sub [0] rfl ?_
              exact ih9 s67 rn67 rm67 mmr67 row67 f F67 A67 (by first | exact hM | omega) (by first | exact e12_67 | omega) (by first | exact h1 | omega) hrow67 hrm67 (by rw [← hspec, rd_all_s f (by omega) hi67]) (by omega)
            · have hfin : rd_text (cL L) L.1 = .inl sp := by rw [← hspec, rd_all_no f (by omega) (by rw [rd_item_e (hr30.symm.trans c63)]; exact (hE67.resolve_left (fun h => by omega)).2)]
              refine j_iload_n dX6_readAll_73 rfl ?_
              exact j_iret dX6_readAll_74 rfl rfl ⟨_, _, _, rfl, hM, Or.inl ⟨sp, hfin, rfl, by omega⟩⟩
        · refine j_aload_n dX6_readAll_50 rfl ?_
          refine j_callV (y' := mX6_nodeItem) (As := []) (st := []) dX6_readAll_51 lkX6_122 okX6_nodeItem imX6_nodeItem seX6_nodeItem (Nat.le_of_ble_eq_true rfl) rfl rfl rfl rfl (Nat.le_of_ble_eq_true rfl) (Nat.le_of_ble_eq_true rfl) (m_nodeItem z _ _ _ _ _ _ _ _ (sp + 1) (by omega) _ _ (mj_u F 0 12 (nI (sp + 1))) A hM rfl hrow hrm) (fun v51 F51 A51 hq51 => ?_)
          obtain ⟨r51, s51, rn51, rm51, rfl, hM, e12_51, hn51, hE51⟩ := hq51
          refine j_if_neN (tgt := 75) dX6_readAll_54 (by decide) (by omega) (fun c54 => ?_) (fun c54 => ?_)
          · obtain ⟨-, mmr51, row51, hi51, hrow51, hrm51⟩ := hE51.resolve_right (fun h => by omega)
            rw [← rd_item_n (hr30.symm.trans c47)] at hi51
            refine j_goto (tgt := 9) dX6_readAll_75 (by decide) ?_
            refine j_sub [0] rfl ?_
            exact ih9 s51 rn51 rm51 mmr51 row51 f F51 A51 (by first | exact hM | omega) (by first | exact e12_51 | omega) (by first | exact h1 | omega) hrow51 hrm51 (by rw [← hspec, rd_all_s f (by omega) hi51]) (by omega)
          · have hfin : rd_text (cL L) L.1 = .inl sp := by rw [← hspec, rd_all_no f (by omega) (by rw [rd_item_n (hr30.symm.trans c47)]; exact (hE51.resolve_left (fun h => by omega)).2)]
            refine j_goto (tgt := 73) dX6_readAll_57 (by decide) ?_
            refine j_iload_n dX6_readAll_73 rfl ?_
            exact j_iret dX6_readAll_74 rfl rfl ⟨_, _, _, rfl, hM, Or.inl ⟨sp, hfin, rfl, by omega⟩⟩
  refine j_aload_n dX6_readAll_0 rfl ?_
  refine j_callV (y' := mX6_readNone) (As := []) (st := []) dX6_readAll_1 lkX6_61 okX6_readNone imX6_readNone seX6_readNone (Nat.le_of_ble_eq_true rfl) rfl rfl rfl rfl (Nat.le_of_ble_eq_true rfl) (Nat.le_of_ble_eq_true rfl) (m_readNone z _ _ _ _ _ _ _ _ F A hM) (fun v1 F1 A1 hq1 => ?_)
  obtain ⟨rfl, hM, hz1⟩ := hq1
  refine j_aload_n dX6_readAll_4 rfl ?_
  refine j_iconst (v := nI 0) dX6_readAll_5 (by decide +kernel) ?_
  refine j_putI dX6_readAll_6 fpX6_96 (Nat.le_of_ble_eq_true rfl) rfl rfl ?_
  exact L9 _ 0 0 rm (fun _ => 0) (fun _ => 0) 201 (mj_u F1 0 12 (nI 0)) A1 (by first | exact hM | omega) rfl (by first | exact h1 | omega) hz1 (fun j hj => absurd hj (by omega)) rfl (Nat.lt_succ_self _)

set_option maxHeartbeats 400000 in
set_option maxRecDepth 100000 in
theorem m_fault (z : mj_B) (d : Nat) (L : Lg) (n : Nat) (mm : Nat → Nat) (rn : Nat) (rm : Nat → Nat) (un kn : Nat) (F A : mj_S) (hM : MI L n mm rn rm un kn F A) : J (gM z) mX6_fault (d + 4) 0 [(0, .ref 0)] [] F A (fun v F' A' => ∃ (x : Int32) (rn' : Nat) (rm' : Nat → Nat), v = some (.int x) ∧ MI L n mm rn' rm' un kn F' A' ∧ ((∃ b, rd_text (cL L) L.1 = .inl b ∧ x = nI b ∧ b ≤ 200) ∨ (x = (-4) ∧ ∃ mmr row, rd_text (cL L) L.1 = .inr (rn', mmr, row) ∧ (∀ j, j < 500 → A' 4 j = row j) ∧ ∀ j, j < rn' → rm' j = mmr j))) := by
  have hM0 := hM.1.2.1
  have hM1 := hM.2.1.2.1
  have hM2 := hM.2.2.1.2.1
  have hM3 := hM.2.2.2.1.2
  have hM4 := hM.2.2.2.2.1.2
  refine j_aload_n dX6_fault_0 rfl ?_
  refine j_callV (y' := mX6_readAll) (As := []) (st := []) dX6_fault_1 lkX6_128 okX6_readAll imX6_readAll seX6_readAll (Nat.le_of_ble_eq_true rfl) rfl rfl rfl rfl (Nat.le_of_ble_eq_true rfl) (Nat.le_of_ble_eq_true rfl) (m_readAll z _ _ _ _ _ _ _ _ F A hM) (fun v1 F1 A1 hq1 => ?_)
  obtain ⟨x1, rn1, rm1, rfl, hM, hE1⟩ := hq1
  exact j_iret dX6_fault_4 rfl rfl ⟨_, _, _, rfl, hM, hE1⟩

def rd_no (c : Nat → Int32) (L : Nat) : Prop := (∃ b, rd_text c L = .inl b) ∨ ∃ mmr row, rd_text c L = .inr (0, mmr, row)
theorem MI.beg {L : Lg} {n : Nat} {mm : Nat → Nat} {rn : Nat} {rm : Nat → Nat} {un kn : Nat} {F A : mj_S} (h : MI L n mm rn rm un kn F A) {F' A' : mj_S} (h1 : F' 0 0 = F 0 0) (h2 : F' 0 2 = nI rn) (h3 : F' 0 4 = nI rn) (h4 : F' 0 9 = nI 0) (h5 : F' 0 11 = nI 0) (h6 : A' 3 = A 3) (h7 : ∀ j, j < 8 → A' 2 j = nI (rm j)) (h8 : A' 14 = A 14 ∧ A' 16 = A 16 ∧ A' 10 = A 10 ∧ A' 11 = A 11 ∧ A' 13 = A 13) : MI (L.1, A') rn rm rn rm 0 0 F' A' :=
  ⟨⟨h1.trans h.1.1, h.1.2.1, rfl, rfl, rfl, rfl⟩, ⟨h2, h.2.2.1.2.1, h7, h.2.2.1.2.2.2.1, h.2.2.1.2.2.2.2⟩, ⟨h3, h.2.2.1.2.1, fun j hj => by rw [h6]; exact h.2.2.1.2.2.1 j hj, h.2.2.1.2.2.2.1, h.2.2.1.2.2.2.2⟩, ⟨h4, by omega⟩, ⟨h5, by omega⟩, by rw [h8.1, h8.2.1, h8.2.2.1, h8.2.2.2.1, h8.2.2.2.2]; exact h.2.2.2.2.2⟩
theorem mj_cp {A : mj_S} {b k j : Nat} {f : Nat → Int32} (h : ∀ j, j < k → A b j = f j) {x : Int32} (hx : x = f k) (hj : j < k + 1) : mj_u A b k x b j = f j := by
  rw [mj_u_at]
  by_cases e : j = k
  · simp [upd, e]; exact hx
  · simp [upd, e]; exact h j (by omega)

set_option maxHeartbeats 400000 in
set_option maxRecDepth 100000 in
theorem m_begin (z : mj_B) (d : Nat) (L : Lg) (n : Nat) (mm : Nat → Nat) (rn : Nat) (rm : Nat → Nat) (un kn : Nat) (F A : mj_S) (hM : MI L n mm rn rm un kn F A) : J (gM z) mX6_begin d 0 [(0, .ref 0)] [] F A (fun v F' A' => v = none ∧ MI (L.1, A') rn rm rn rm 0 0 F' A' ∧ F' 0 12 = F 0 12 ∧ A' 1 = A 1 ∧ ∀ j, j < 500 → A' 5 j = A 4 j) := by
  have hM0 := hM.1.2.1
  have hM1 := hM.2.1.2.1
  have hM2 := hM.2.2.1.2.1
  have hM3 := hM.2.2.2.1.2
  have hM4 := hM.2.2.2.2.1.2
  have L36 : ∀ (fuel : Nat) (k : Nat) (F1 A1 : mj_S), (F1 0 0 = F 0 0 ∧ F1 0 2 = nI rn ∧ F1 0 4 = nI rn ∧ F1 0 12 = F 0 12 ∧ A1 3 = A 3 ∧ A1 14 = A 14 ∧ A1 4 = A 4 ∧ A1 14 = A 14 ∧ A1 16 = A 16 ∧ A1 10 = A 10 ∧ A1 11 = A 11 ∧ A1 13 = A 13) → (A1 1 = A 1) → (∀ j, j < 8 → A1 2 j = nI (rm j)) → (∀ j, j < k → A1 5 j = A 4 j) → (k ≤ 500) → 500 - k < fuel → J (gM z) mX6_begin d 36 [(0, .ref 0), (1, .int (nI k))] [] F1 A1 (fun v F' A' => v = none ∧ MI (L.1, A') rn rm rn rm 0 0 F' A' ∧ F' 0 12 = F 0 12 ∧ A' 1 = A 1 ∧ ∀ j, j < 500 → A' 5 j = A 4 j) := by
    intro fuel
    induction fuel with
    | zero => intro k F1 A1 hc hc0 hd2 he hk hf; exact absurd hf (by omega)
    | succ fuel ih36 =>
      intro k F1 A1 hc hc0 hd2 he hk hf
      refine j_iload_n dX6_begin_36 rfl ?_
      refine j_sipush (v := nI 500) dX6_begin_37 (by decide +kernel) ?_
      refine j_icmp_geN (tgt := 61) dX6_begin_40 (by decide) (by omega) (by omega) (fun c40 => ?_) (fun c40 => ?_)
      · refine j_aload_n dX6_begin_61 rfl ?_
        refine j_iconst (v := nI 0) dX6_begin_62 (by decide +kernel) ?_
        refine j_putI dX6_begin_63 fpX6_135 (Nat.le_of_ble_eq_true rfl) rfl rfl ?_
        refine j_aload_n dX6_begin_66 rfl ?_
        refine j_iconst (v := nI 0) dX6_begin_67 (by decide +kernel) ?_
        refine j_putI dX6_begin_68 fpX6_138 (Nat.le_of_ble_eq_true rfl) rfl rfl ?_
        exact j_vret dX6_begin_71 rfl ⟨rfl, hM.beg hc.1 hc.2.1 hc.2.2.1 rfl rfl hc.2.2.2.2.1 hd2 hc.2.2.2.2.2.2.2, hc.2.2.2.1, hc0, fun j hj => he j (by omega)⟩
      · refine j_aload_n dX6_begin_43 rfl ?_
        refine j_getR (r := 5) dX6_begin_44 flX6_22 (Nat.le_of_ble_eq_true rfl) rfl rfl ?_
        refine j_iload_n dX6_begin_47 rfl ?_
        refine j_aload_n dX6_begin_48 rfl ?_
        refine j_getR (r := 4) dX6_begin_49 flX6_19 (Nat.le_of_ble_eq_true rfl) rfl rfl ?_
        refine j_iload_n dX6_begin_52 rfl ?_
        refine j_ialdN dX6_begin_53 (Nat.le_of_ble_eq_true rfl) rfl (by omega) (by decide) ?_
        refine j_iastN dX6_begin_54 (Nat.le_of_ble_eq_true rfl) rfl (by omega) (by decide) ?_
        refine j_iinc (v := nI (k + 1)) (lv' := [(0, .ref 0), (1, .int (nI (k + 1)))]) dX6_begin_55 rfl (nI_add _ 1) (Nat.le_of_ble_eq_true rfl) rfl rfl ?_
        refine j_goto (tgt := 36) dX6_begin_58 (by decide) ?_
        exact ih36 (k + 1) F1 (mj_u A1 5 k (A1 4 k)) (by first | exact hc | omega) (by first | exact hc0 | omega) (by first | exact hd2 | omega) (fun j hj => mj_cp (A := A1) (b := 5) (f := A 4) he (congrFun hc.2.2.2.2.2.2.1 k) hj) (by first | exact hk | omega) (by omega)
  have L10 : ∀ (fuel : Nat) (k : Nat) (F1 A1 : mj_S), (F1 0 0 = F 0 0 ∧ F1 0 2 = nI rn ∧ F1 0 4 = nI rn ∧ F1 0 12 = F 0 12 ∧ A1 3 = A 3 ∧ A1 14 = A 14 ∧ A1 4 = A 4 ∧ A1 14 = A 14 ∧ A1 16 = A 16 ∧ A1 10 = A 10 ∧ A1 11 = A 11 ∧ A1 13 = A 13) → (A1 1 = A 1) → (∀ j, j < k → A1 2 j = nI (rm j)) → (k ≤ 8) → 8 - k < fuel → J (gM z) mX6_begin d 10 [(0, .ref 0), (1, .int (nI k))] [] F1 A1 (fun v F' A' => v = none ∧ MI (L.1, A') rn rm rn rm 0 0 F' A' ∧ F' 0 12 = F 0 12 ∧ A' 1 = A 1 ∧ ∀ j, j < 500 → A' 5 j = A 4 j) := by
    intro fuel
    induction fuel with
    | zero => intro k F1 A1 hc hc0 hd2 hk hf; exact absurd hf (by omega)
    | succ fuel ih10 =>
      intro k F1 A1 hc hc0 hd2 hk hf
      refine j_iload_n dX6_begin_10 rfl ?_
      refine j_bipush (v := nI 8) dX6_begin_11 (by decide +kernel) ?_
      refine j_icmp_geN (tgt := 34) dX6_begin_13 (by decide) (by omega) (by omega) (fun c13 => ?_) (fun c13 => ?_)
      · refine j_iconst (v := nI 0) dX6_begin_34 (by decide +kernel) ?_
        refine j_istore_n (lv' := [(0, .ref 0), (1, .int (nI 0))]) dX6_begin_35 (Nat.le_of_ble_eq_true rfl) rfl rfl ?_
        exact L36 _ 0 F1 A1 (by first | exact hc | omega) (by first | exact hc0 | omega) (fun j hj => hd2 j (by omega)) (fun j hj => absurd hj (by omega)) (by first | exact hk | omega) (Nat.lt_succ_self _)
      · refine j_aload_n dX6_begin_16 rfl ?_
        refine j_getR (r := 2) dX6_begin_17 flX6_13 (Nat.le_of_ble_eq_true rfl) rfl rfl ?_
        refine j_iload_n dX6_begin_20 rfl ?_
        refine j_aload_n dX6_begin_21 rfl ?_
        refine j_getR (r := 3) dX6_begin_22 flX6_16 (Nat.le_of_ble_eq_true rfl) rfl rfl ?_
        refine j_iload_n dX6_begin_25 rfl ?_
        refine j_ialdN dX6_begin_26 (Nat.le_of_ble_eq_true rfl) rfl (by omega) (by decide) ?_
        refine j_iastN dX6_begin_27 (Nat.le_of_ble_eq_true rfl) rfl (by omega) (by decide) ?_
        refine j_iinc (v := nI (k + 1)) (lv' := [(0, .ref 0), (1, .int (nI (k + 1)))]) dX6_begin_28 rfl (nI_add _ 1) (Nat.le_of_ble_eq_true rfl) rfl rfl ?_
        refine j_goto (tgt := 10) dX6_begin_31 (by decide) ?_
        exact ih10 (k + 1) F1 (mj_u A1 2 k (A1 3 k)) (by first | exact hc | omega) (by first | exact hc0 | omega) (fun j hj => mj_cp (A := A1) (b := 2) (f := fun j => nI (rm j)) hd2 ((congrFun hc.2.2.2.2.1 k).trans (hM.2.2.1.2.2.1 k (by omega))) hj) (by first | exact hk | omega) (by omega)
  refine j_aload_n dX6_begin_0 rfl ?_
  refine j_aload_n dX6_begin_1 rfl ?_
  refine j_getI dX6_begin_2 flX6_77 (Nat.le_of_ble_eq_true rfl) rfl rfl ?_
  refine j_top (y0 := nI rn) hM.2.2.1.1 ?_
  refine j_putI dX6_begin_5 fpX6_132 (Nat.le_of_ble_eq_true rfl) rfl rfl ?_
  refine j_iconst (v := nI 0) dX6_begin_8 (by decide +kernel) ?_
  refine j_istore_n (lv' := [(0, .ref 0), (1, .int (nI 0))]) dX6_begin_9 (Nat.le_of_ble_eq_true rfl) rfl rfl ?_
  exact L10 _ 0 (mj_u F 0 2 (nI rn)) A ⟨rfl, rfl, hM.2.2.1.1, rfl, rfl, rfl, rfl, rfl, rfl, rfl, rfl, rfl⟩ rfl (fun j hj => absurd hj (by omega)) (by first | exact hk | omega) (Nat.lt_succ_self _)

theorem nI_m4 {b : Nat} (hb : b ≤ 200) (h : nI b = (-4)) : False := by
  have := congrArg Int32.toInt h
  rw [nI_toInt (by omega), show ((-4 : Int32)).toInt = -4 from by decide +kernel] at this
  omega

set_option maxHeartbeats 400000 in
set_option maxRecDepth 100000 in
theorem m_lay (z : mj_B) (d : Nat) (L : Lg) (n : Nat) (mm : Nat → Nat) (rn : Nat) (rm : Nat → Nat) (un kn : Nat) (F A : mj_S) (hM : MI L n mm rn rm un kn F A) : J (gM z) mX6_lay (d + 4) 0 [(0, .ref 0)] [] F A (fun v F' A' => ∃ (x : Int32) (L' : Lg) (n' : Nat) (mm' : Nat → Nat) (rn' : Nat) (rm' : Nat → Nat) (un' kn' : Nat), v = some (.int x) ∧ MI L' n' mm' rn' rm' un' kn' F' A' ∧ ((x = (-2) ∧ L' = L ∧ n' = n ∧ mm' = mm ∧ un' = un ∧ kn' = kn ∧ rd_no (cL L) L.1) ∨ (x = nI n' ∧ L'.1 = L.1 ∧ L'.2 1 = L.2 1 ∧ un' = 0 ∧ kn' = 0 ∧ ∃ mmr row, rd_text (cL L) L.1 = .inr (n', mmr, row) ∧ 0 < n' ∧ (∀ j, j < 500 → L'.2 5 j = row j) ∧ ∀ j, j < n' → mm' j = mmr j))) := by
  have hM0 := hM.1.2.1
  have hM1 := hM.2.1.2.1
  have hM2 := hM.2.2.1.2.1
  have hM3 := hM.2.2.2.1.2
  have hM4 := hM.2.2.2.2.1.2
  refine j_aload_n dX6_lay_0 rfl ?_
  refine j_callV (y' := mX6_readAll) (As := []) (st := []) dX6_lay_1 lkX6_128 okX6_readAll imX6_readAll seX6_readAll (Nat.le_of_ble_eq_true rfl) rfl rfl rfl rfl (Nat.le_of_ble_eq_true rfl) (Nat.le_of_ble_eq_true rfl) (m_readAll z _ _ _ _ _ _ _ _ F A hM) (fun v1 F1 A1 hq1 => ?_)
  obtain ⟨x1, rn1, rm1, rfl, hM, hE1⟩ := hq1
  have hM2 := hM.2.2.1.2.1
  refine j_bipush (v := (-4)) dX6_lay_4 (by decide +kernel) ?_
  refine j_icmp_ne (tgt := 16) dX6_lay_6 (by decide) (fun c6 => ?_) (fun c6 => ?_)
  · have hno : rd_no (cL L) L.1 := by
      rcases hE1 with ⟨b, h, -⟩ | ⟨h, -⟩
      · exact Or.inl ⟨b, h⟩
      · exact absurd h c6
    refine j_bipush (v := (-2)) dX6_lay_16 (by decide +kernel) ?_
    exact j_iret dX6_lay_18 rfl rfl ⟨_, _, _, _, _, _, _, _, rfl, hM, Or.inl ⟨rfl, rfl, rfl, rfl, rfl, rfl, hno⟩⟩
  · obtain ⟨-, mmr, row, hT, hrow, hrm⟩ := hE1.resolve_left (fun ⟨b, _, h, hb⟩ => by rw [h] at c6; exact nI_m4 hb c6)
    refine j_aload_n dX6_lay_9 rfl ?_
    refine j_getI dX6_lay_10 flX6_77 (Nat.le_of_ble_eq_true rfl) rfl rfl ?_
    refine j_top (y0 := nI rn1) hM.2.2.1.1 ?_
    refine j_if_neN (tgt := 19) dX6_lay_13 (by decide) (by omega) (fun c13 => ?_) (fun c13 => ?_)
    · refine j_aload_n dX6_lay_19 rfl ?_
      refine j_callV (y' := mX6_begin) (As := []) (st := []) dX6_lay_20 lkX6_74 okX6_begin imX6_begin seX6_begin (Nat.le_of_ble_eq_true rfl) rfl rfl rfl rfl (Nat.le_of_ble_eq_true rfl) (Nat.le_of_ble_eq_true rfl) (m_begin z _ _ _ _ _ _ _ _ F1 A1 hM) (fun v20 F20 A20 hq20 => ?_)
      have hM9 := hM
      obtain ⟨rfl, hM, -, ht20, hn20⟩ := hq20
      refine j_aload_n dX6_lay_23 rfl ?_
      refine j_getI dX6_lay_24 flX6_132 (Nat.le_of_ble_eq_true rfl) rfl rfl ?_
      refine j_top (y0 := nI rn1) hM.2.1.1 ?_
      exact j_iret dX6_lay_27 rfl rfl ⟨_, _, _, _, _, _, _, _, rfl, hM, Or.inr ⟨rfl, rfl, ht20.trans hM9.1.2.2.1, rfl, rfl, mmr, row, hT, c13, fun j hj => (hn20 j hj).trans (hrow j hj), hrm⟩⟩
    · subst c13
      have hno : rd_no (cL L) L.1 := Or.inr ⟨mmr, row, hT⟩
      refine j_bipush (v := (-2)) dX6_lay_16 (by decide +kernel) ?_
      exact j_iret dX6_lay_18 rfl rfl ⟨_, _, _, _, _, _, _, _, rfl, hM, Or.inl ⟨rfl, rfl, rfl, rfl, rfl, rfl, hno⟩⟩

set_option maxHeartbeats 400000 in
set_option maxRecDepth 100000 in
theorem m_nodeIs (z : mj_B) (d : Nat) (L : Lg) (n : Nat) (mm : Nat → Nat) (rn : Nat) (rm : Nat → Nat) (un kn : Nat) (kd a b c : Int32) (q : Nat) (hq1 : 1 ≤ q) (hq4 : q ≤ 4) (hr8 : rn < 8) (F A : mj_S) (hM : MI L n mm rn rm un kn F A) : J (gM z) mX6_nodeIs d 0 [(0, .ref 0), (1, .int kd), (2, .int (nI q)), (3, .int a), (4, .int b), (5, .int c)] [] F A (fun v F' A' => v = none ∧ MI L n mm (rn + 1) (fun j => if j = rn then q else rm j) un kn F' A') := by
  have hM0 := hM.1.2.1
  have hM1 := hM.2.1.2.1
  have hM2 := hM.2.2.1.2.1
  have hM3 := hM.2.2.2.1.2
  have hM4 := hM.2.2.2.2.1.2
  refine j_iconst (v := nI 4) dX6_nodeIs_0 (by decide +kernel) ?_
  refine j_aload_n dX6_nodeIs_1 rfl ?_
  refine j_getI dX6_nodeIs_2 flX6_77 (Nat.le_of_ble_eq_true rfl) rfl rfl ?_
  refine j_top (y0 := nI rn) hM.2.2.1.1 ?_
  refine j_imulN dX6_nodeIs_5 ?_
  refine j_istore (lv' := [(0, .ref 0), (1, .int kd), (2, .int (nI q)), (3, .int a), (4, .int b), (5, .int c), (6, .int (nI (4 * rn)))]) dX6_nodeIs_6 (Nat.le_of_ble_eq_true rfl) rfl rfl ?_
  refine j_aload_n dX6_nodeIs_8 rfl ?_
  refine j_getR (r := 4) dX6_nodeIs_9 flX6_19 (Nat.le_of_ble_eq_true rfl) rfl rfl ?_
  refine j_iload dX6_nodeIs_12 rfl ?_
  refine j_iload_n dX6_nodeIs_14 rfl ?_
  refine j_iastN dX6_nodeIs_15 (Nat.le_of_ble_eq_true rfl) rfl (by omega) (by decide) ?_
  refine j_aload_n dX6_nodeIs_16 rfl ?_
  refine j_getR (r := 4) dX6_nodeIs_17 flX6_19 (Nat.le_of_ble_eq_true rfl) rfl rfl ?_
  refine j_iload dX6_nodeIs_20 rfl ?_
  refine j_iconst (v := nI 1) dX6_nodeIs_22 (by decide +kernel) ?_
  refine j_iaddN dX6_nodeIs_23 ?_
  refine j_iload dX6_nodeIs_24 rfl ?_
  refine j_iastN dX6_nodeIs_26 (Nat.le_of_ble_eq_true rfl) rfl (by omega) (by decide) ?_
  refine j_aload_n dX6_nodeIs_27 rfl ?_
  refine j_getR (r := 4) dX6_nodeIs_28 flX6_19 (Nat.le_of_ble_eq_true rfl) rfl rfl ?_
  refine j_iload dX6_nodeIs_31 rfl ?_
  refine j_iconst (v := nI 2) dX6_nodeIs_33 (by decide +kernel) ?_
  refine j_iaddN dX6_nodeIs_34 ?_
  refine j_iload dX6_nodeIs_35 rfl ?_
  refine j_iastN dX6_nodeIs_37 (Nat.le_of_ble_eq_true rfl) rfl (by omega) (by decide) ?_
  refine j_aload_n dX6_nodeIs_38 rfl ?_
  refine j_getR (r := 4) dX6_nodeIs_39 flX6_19 (Nat.le_of_ble_eq_true rfl) rfl rfl ?_
  refine j_bipush (v := nI 32) dX6_nodeIs_42 (by decide +kernel) ?_
  refine j_aload_n dX6_nodeIs_44 rfl ?_
  refine j_getI dX6_nodeIs_45 flX6_77 (Nat.le_of_ble_eq_true rfl) rfl rfl ?_
  refine j_top (y0 := nI rn) hM.2.2.1.1 ?_
  refine j_iaddN dX6_nodeIs_48 ?_
  refine j_iload_n dX6_nodeIs_49 rfl ?_
  refine j_iastN dX6_nodeIs_50 (Nat.le_of_ble_eq_true rfl) rfl (by omega) (by decide) ?_
  refine j_aload_n dX6_nodeIs_51 rfl ?_
  refine j_getR (r := 3) dX6_nodeIs_52 flX6_16 (Nat.le_of_ble_eq_true rfl) rfl rfl ?_
  refine j_aload_n dX6_nodeIs_55 rfl ?_
  refine j_getI dX6_nodeIs_56 flX6_77 (Nat.le_of_ble_eq_true rfl) rfl rfl ?_
  refine j_top (y0 := nI rn) hM.2.2.1.1 ?_
  refine j_iload_n dX6_nodeIs_59 rfl ?_
  refine j_iastN dX6_nodeIs_60 (Nat.le_of_ble_eq_true rfl) rfl (by omega) (by decide) ?_
  refine j_aload_n dX6_nodeIs_61 rfl ?_
  refine j_dup dX6_nodeIs_62 rfl ?_
  refine j_getI dX6_nodeIs_63 flX6_77 (Nat.le_of_ble_eq_true rfl) rfl rfl ?_
  refine j_top (y0 := nI rn) hM.2.2.1.1 ?_
  refine j_iconst (v := nI 1) dX6_nodeIs_66 (by decide +kernel) ?_
  refine j_iaddN dX6_nodeIs_67 ?_
  refine j_putI dX6_nodeIs_68 fpX6_77 (Nat.le_of_ble_eq_true rfl) rfl rfl ?_
  have hM := hM.node (c := q) (by omega) (by omega) (by omega)
  exact j_vret dX6_nodeIs_71 rfl ⟨rfl, hM⟩

set_option maxHeartbeats 400000 in
set_option maxRecDepth 100000 in
theorem m_tableIs (z : mj_B) (d : Nat) (L : Lg) (n : Nat) (mm : Nat → Nat) (rn : Nat) (rm : Nat → Nat) (un kn : Nat) (u v : Nat) (fg : Int32) (huv : u < v) (hv : v < rn) (F A : mj_S) (hM : MI L n mm rn rm un kn F A) : J (gM z) mX6_tableIs (d + 1) 0 [(0, .ref 0), (1, .int (nI u)), (2, .int (nI v)), (3, .int fg)] [] F A (fun v F' A' => v = none ∧ MI L n mm rn rm un kn F' A') := by
  have hM0 := hM.1.2.1
  have hM1 := hM.2.1.2.1
  have hM2 := hM.2.2.1.2.1
  have hM3 := hM.2.2.2.1.2
  have hM4 := hM.2.2.2.2.1.2
  have L20 : ∀ (fuel : Nat) (u : Nat) (v : Nat) (le : Int32) (x : Int32) (kk : Nat) (F A : mj_S), (MI L n mm rn rm un kn F A) → (x + 1 = nI kk) → (kk ≤ rm u * rm v ∧ u < v ∧ v < rn) → kk < fuel → J (gM z) mX6_tableIs (d + 1) 20 [(0, .ref 0), (1, .int (nI u)), (2, .int (nI v)), (4, .int le), (5, .int x)] [] F A (fun v F' A' => v = none ∧ MI L n mm rn rm un kn F' A') := by
    intro fuel
    induction fuel with
    | zero => intro u v le x kk F A hM hx h1 hf; exact absurd hf (by omega)
    | succ fuel ih20 =>
      intro u v le x kk F A hM hx h1 hf
      have h1u := hM.2.2.1.2.2.2.2 u (by omega)
      have h1v := hM.2.2.1.2.2.2.2 v (by omega)
      have h4u := hM.2.2.1.2.2.2.1 u
      have h4v := hM.2.2.1.2.2.2.1 v
      have hp : 1 ≤ rm u * rm v := Nat.mul_le_mul h1u h1v
      have hp16 : rm u * rm v ≤ 16 := Nat.mul_le_mul h4u h4v
      refine j_iload dX6_tableIs_20 rfl ?_
      refine j_if_lt (tgt := 73) dX6_tableIs_22 (by decide) (fun c22 => ?_) (fun c22 => ?_)
      · exact j_vret dX6_tableIs_73 rfl ⟨rfl, hM⟩
      · have hk0 : 0 < kk := Nat.pos_of_ne_zero (fun e => by rw [e] at hx; exact c22 (dn0 hx))
        obtain rfl : x = nI (kk - 1) := dn1 hx hk0
        have hd1 : (kk - 1) / rm v < rm u := Nat.div_lt_of_lt_mul (by rw [Nat.mul_comm]; omega)
        have hd2 : (kk - 1) % rm v < rm v := Nat.mod_lt _ (by omega)
        refine j_aload_n dX6_tableIs_25 rfl ?_
        refine j_getR (r := 4) dX6_tableIs_26 flX6_19 (Nat.le_of_ble_eq_true rfl) rfl rfl ?_
        refine j_iload_n dX6_tableIs_29 rfl ?_
        refine j_iload_n dX6_tableIs_30 rfl ?_
        refine j_iload dX6_tableIs_31 rfl ?_
        refine j_aload_n dX6_tableIs_33 rfl ?_
        refine j_getR (r := 3) dX6_tableIs_34 flX6_16 (Nat.le_of_ble_eq_true rfl) rfl rfl ?_
        refine j_iload_n dX6_tableIs_37 rfl ?_
        refine j_ialdN dX6_tableIs_38 (Nat.le_of_ble_eq_true rfl) rfl (by omega) (by decide) ?_
        refine j_top (y0 := nI (rm v)) (hM.2.2.1.2.2.1 _ (by omega)) ?_
        refine j_idivN dX6_tableIs_39 (by omega) (by omega) (by omega) ?_
        refine j_iload dX6_tableIs_40 rfl ?_
        refine j_aload_n dX6_tableIs_42 rfl ?_
        refine j_getR (r := 3) dX6_tableIs_43 flX6_16 (Nat.le_of_ble_eq_true rfl) rfl rfl ?_
        refine j_iload_n dX6_tableIs_46 rfl ?_
        refine j_ialdN dX6_tableIs_47 (Nat.le_of_ble_eq_true rfl) rfl (by omega) (by decide) ?_
        refine j_top (y0 := nI (rm v)) (hM.2.2.1.2.2.1 _ (by omega)) ?_
        refine j_iremN dX6_tableIs_48 (by omega) (by omega) (by omega) ?_
        refine j_callS (y' := mX6_entryAt) (As := [.int (nI u), .int (nI v), .int (nI ((kk - 1) / (rm v))), .int (nI ((kk - 1) % (rm v)))]) (st := [.ref 4]) dX6_tableIs_49 lkX6_81 okX6_entryAt stX6_entryAt rfl (Nat.le_of_ble_eq_true rfl) (Nat.le_of_ble_eq_true rfl) (m_entryAt z _ u v ((kk - 1) / (rm v)) ((kk - 1) % (rm v)) (by omega) (by omega) (by omega) (by omega) (by omega) F A) (fun v49 F49 A49 hq49 => ?_)
        obtain ⟨rfl, rfl, e49, rfl, he49⟩ := hq49
        have hl49 : e49 < 500 := by rw [he49]; exact eA_lt (by omega) (by omega) (by omega) (by omega) (by omega)
        refine j_iconst (v := nI 1) dX6_tableIs_52 (by decide +kernel) ?_
        refine j_iload dX6_tableIs_53 rfl ?_
        refine j_bipush (v := nI 10) dX6_tableIs_55 (by decide +kernel) ?_
        refine j_irem dX6_tableIs_57 (by decide +kernel) ?_
        refine j_iadd dX6_tableIs_58 ?_
        refine j_iastN dX6_tableIs_59 (Nat.le_of_ble_eq_true rfl) rfl (by omega) (by decide) ?_
        refine j_iload dX6_tableIs_60 rfl ?_
        refine j_bipush (v := nI 10) dX6_tableIs_62 (by decide +kernel) ?_
        refine j_idiv dX6_tableIs_64 (by decide +kernel) ?_
        refine j_istore (lv' := [(0, .ref 0), (1, .int (nI u)), (2, .int (nI v)), (4, .int (le / (nI 10))), (5, .int (nI (kk - 1)))]) dX6_tableIs_65 (Nat.le_of_ble_eq_true rfl) rfl rfl ?_
        refine j_iinc (v := nI (kk - 1) + Int32.ofInt (-1)) (lv' := [(0, .ref 0), (1, .int (nI u)), (2, .int (nI v)), (4, .int (le / (nI 10))), (5, .int (nI (kk - 1) + Int32.ofInt (-1)))]) dX6_tableIs_67 rfl rfl (Nat.le_of_ble_eq_true rfl) rfl rfl ?_
        refine j_goto (tgt := 20) dX6_tableIs_70 (by decide) ?_
        exact ih20 u v (le / (nI 10)) (nI (kk - 1) + Int32.ofInt (-1)) (kk - 1) F (mj_u A 4 e49 ((nI 1) + (le - le / (nI 10) * (nI 10)))) (by first | exact hM | omega) (dn2 _) (by first | exact h1 | omega) (by omega)
  have h1u := hM.2.2.1.2.2.2.2 u (by omega)
  have h1v := hM.2.2.1.2.2.2.2 v (by omega)
  have h4u := hM.2.2.1.2.2.2.1 u
  have h4v := hM.2.2.1.2.2.2.1 v
  have hp : 1 ≤ rm u * rm v := Nat.mul_le_mul h1u h1v
  have hp16 : rm u * rm v ≤ 16 := Nat.mul_le_mul h4u h4v
  refine j_iload_n dX6_tableIs_0 rfl ?_
  refine j_istore (lv' := [(0, .ref 0), (1, .int (nI u)), (2, .int (nI v)), (3, .int fg), (4, .int fg)]) dX6_tableIs_1 (Nat.le_of_ble_eq_true rfl) rfl rfl ?_
  refine j_aload_n dX6_tableIs_3 rfl ?_
  refine j_getR (r := 3) dX6_tableIs_4 flX6_16 (Nat.le_of_ble_eq_true rfl) rfl rfl ?_
  refine j_iload_n dX6_tableIs_7 rfl ?_
  refine j_ialdN dX6_tableIs_8 (Nat.le_of_ble_eq_true rfl) rfl (by omega) (by decide) ?_
  refine j_top (y0 := nI (rm u)) (hM.2.2.1.2.2.1 _ (by omega)) ?_
  refine j_aload_n dX6_tableIs_9 rfl ?_
  refine j_getR (r := 3) dX6_tableIs_10 flX6_16 (Nat.le_of_ble_eq_true rfl) rfl rfl ?_
  refine j_iload_n dX6_tableIs_13 rfl ?_
  refine j_ialdN dX6_tableIs_14 (Nat.le_of_ble_eq_true rfl) rfl (by omega) (by decide) ?_
  refine j_top (y0 := nI (rm v)) (hM.2.2.1.2.2.1 _ (by omega)) ?_
  refine j_imulN dX6_tableIs_15 ?_
  refine j_iconst (v := nI 1) dX6_tableIs_16 (by decide +kernel) ?_
  refine j_isubN dX6_tableIs_17 (by omega) ?_
  refine j_istore (lv' := [(0, .ref 0), (1, .int (nI u)), (2, .int (nI v)), (3, .int fg), (4, .int fg), (5, .int (nI (((rm u) * (rm v)) - 1)))]) dX6_tableIs_18 (Nat.le_of_ble_eq_true rfl) rfl rfl ?_
  refine j_sub [0, 1, 2, 4, 5] rfl ?_
  exact L20 _ u v fg (nI (((rm u) * (rm v)) - 1)) (rm u * rm v) F A (by first | exact hM | omega) (dn3 (by omega)) ⟨Nat.le_refl _, by omega, by omega⟩ (Nat.lt_succ_self _)
end
