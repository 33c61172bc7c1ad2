-- ===== PART A: goes FIRST, ahead of the names: the tables' words, and 'selects' of the private methods out of them =====
/-- a private method of a class that the tables say can be made, by its rows of tables_1 -/
def lw_okq (q : MethodName × Nat) : Prop := (q.1.cls ≠ "java/lang/invoke/MethodHandle" ∧ q.1.cls ≠ "java/lang/invoke/VarHandle") ∧ Cond.instantiable q.1.cls q.2 ∈ tables_1 ∧ Cond.privateMethod q.1 ∈ tables_1 ∧ Cond.instanceMethod q.1 ∈ tables_1
theorem lw_p0 : lw_okq (⟨"CostChoices$Reader", "readItem", "()Z"⟩, 4) := ⟨⟨by decide +kernel, by decide +kernel⟩, List.mem_of_getElem? (i := 69) (by decide +kernel), List.mem_of_getElem? (i := 258) (by decide +kernel), List.mem_of_getElem? (i := 259) (by decide +kernel)⟩
theorem lw_p1 : lw_okq (⟨"CostChoices$Reader", "takes", "(C)Z"⟩, 4) := ⟨⟨by decide +kernel, by decide +kernel⟩, List.mem_of_getElem? (i := 69) (by decide +kernel), List.mem_of_getElem? (i := 262) (by decide +kernel), List.mem_of_getElem? (i := 263) (by decide +kernel)⟩
theorem lw_p2 : lw_okq (⟨"CostChoices$Reader", "readNode", "()Z"⟩, 4) := ⟨⟨by decide +kernel, by decide +kernel⟩, List.mem_of_getElem? (i := 69) (by decide +kernel), List.mem_of_getElem? (i := 266) (by decide +kernel), List.mem_of_getElem? (i := 267) (by decide +kernel)⟩
theorem lw_p3 : lw_okq (⟨"CostChoices$Reader", "readNumber", "()I"⟩, 4) := ⟨⟨by decide +kernel, by decide +kernel⟩, List.mem_of_getElem? (i := 69) (by decide +kernel), List.mem_of_getElem? (i := 270) (by decide +kernel), List.mem_of_getElem? (i := 271) (by decide +kernel)⟩
theorem lw_p4 : lw_okq (⟨"CostChoices$Reader", "readFigure", "()I"⟩, 4) := ⟨⟨by decide +kernel, by decide +kernel⟩, List.mem_of_getElem? (i := 69) (by decide +kernel), List.mem_of_getElem? (i := 274) (by decide +kernel), List.mem_of_getElem? (i := 275) (by decide +kernel)⟩
theorem lw_p5 : lw_okq (⟨"CostChoices$Reader", "readTie", "()Z"⟩, 4) := ⟨⟨by decide +kernel, by decide +kernel⟩, List.mem_of_getElem? (i := 69) (by decide +kernel), List.mem_of_getElem? (i := 286) (by decide +kernel), List.mem_of_getElem? (i := 287) (by decide +kernel)⟩
theorem lw_p6 : lw_okq (⟨"CostChoices$Reader", "readTable", "(II)Z"⟩, 4) := ⟨⟨by decide +kernel, by decide +kernel⟩, List.mem_of_getElem? (i := 69) (by decide +kernel), List.mem_of_getElem? (i := 313) (by decide +kernel), List.mem_of_getElem? (i := 314) (by decide +kernel)⟩
theorem lw_p7 : lw_okq (⟨"CostChoices", "forgetAnswers", "()V"⟩, 17) := ⟨⟨by decide +kernel, by decide +kernel⟩, List.mem_of_getElem? (i := 16) (by decide +kernel), List.mem_of_getElem? (i := 329) (by decide +kernel), List.mem_of_getElem? (i := 330) (by decide +kernel)⟩
theorem lw_p8 : lw_okq (⟨"CostChoices", "isNode", "(I)Z"⟩, 17) := ⟨⟨by decide +kernel, by decide +kernel⟩, List.mem_of_getElem? (i := 16) (by decide +kernel), List.mem_of_getElem? (i := 401) (by decide +kernel), List.mem_of_getElem? (i := 402) (by decide +kernel)⟩
theorem lw_p9 : lw_okq (⟨"CostChoices", "pinnedTo", "(I)I"⟩, 17) := ⟨⟨by decide +kernel, by decide +kernel⟩, List.mem_of_getElem? (i := 16) (by decide +kernel), List.mem_of_getElem? (i := 406) (by decide +kernel), List.mem_of_getElem? (i := 407) (by decide +kernel)⟩
theorem lw_p10 : lw_okq (⟨"CostChoices", "isChoice", "(II)Z"⟩, 17) := ⟨⟨by decide +kernel, by decide +kernel⟩, List.mem_of_getElem? (i := 16) (by decide +kernel), List.mem_of_getElem? (i := 414) (by decide +kernel), List.mem_of_getElem? (i := 415) (by decide +kernel)⟩
theorem lw_p11 : lw_okq (⟨"CostChoices", "beginAct", "()V"⟩, 17) := ⟨⟨by decide +kernel, by decide +kernel⟩, List.mem_of_getElem? (i := 16) (by decide +kernel), List.mem_of_getElem? (i := 443) (by decide +kernel), List.mem_of_getElem? (i := 444) (by decide +kernel)⟩
theorem lw_p12 : lw_okq (⟨"CostChoices", "dropOldest", "()V"⟩, 17) := ⟨⟨by decide +kernel, by decide +kernel⟩, List.mem_of_getElem? (i := 16) (by decide +kernel), List.mem_of_getElem? (i := 447) (by decide +kernel), List.mem_of_getElem? (i := 448) (by decide +kernel)⟩
theorem lw_p13 : lw_okq (⟨"CostChoices", "bringReduction", "()V"⟩, 17) := ⟨⟨by decide +kernel, by decide +kernel⟩, List.mem_of_getElem? (i := 16) (by decide +kernel), List.mem_of_getElem? (i := 480) (by decide +kernel), List.mem_of_getElem? (i := 481) (by decide +kernel)⟩
theorem lw_p14 : lw_okq (⟨"CostChoices", "bringWeights", "()V"⟩, 17) := ⟨⟨by decide +kernel, by decide +kernel⟩, List.mem_of_getElem? (i := 16) (by decide +kernel), List.mem_of_getElem? (i := 484) (by decide +kernel), List.mem_of_getElem? (i := 485) (by decide +kernel)⟩
theorem lw_p15 : lw_okq (⟨"CostChoices$Weights", "weighTable", "(LCostChoices$Graph;II)V"⟩, 5) := ⟨⟨by decide +kernel, by decide +kernel⟩, List.mem_of_getElem? (i := 89) (by decide +kernel), List.mem_of_getElem? (i := 500) (by decide +kernel), List.mem_of_getElem? (i := 501) (by decide +kernel)⟩
def lw_privs_1 : List (MethodName × Nat) := [(⟨"CostChoices$Reader", "readItem", "()Z"⟩, 4), (⟨"CostChoices$Reader", "takes", "(C)Z"⟩, 4), (⟨"CostChoices$Reader", "readNode", "()Z"⟩, 4), (⟨"CostChoices$Reader", "readNumber", "()I"⟩, 4), (⟨"CostChoices$Reader", "readFigure", "()I"⟩, 4), (⟨"CostChoices$Reader", "readTie", "()Z"⟩, 4), (⟨"CostChoices$Reader", "readTable", "(II)Z"⟩, 4), (⟨"CostChoices", "forgetAnswers", "()V"⟩, 17), (⟨"CostChoices", "isNode", "(I)Z"⟩, 17), (⟨"CostChoices", "pinnedTo", "(I)I"⟩, 17), (⟨"CostChoices", "isChoice", "(II)Z"⟩, 17), (⟨"CostChoices", "beginAct", "()V"⟩, 17), (⟨"CostChoices", "dropOldest", "()V"⟩, 17), (⟨"CostChoices", "bringReduction", "()V"⟩, 17), (⟨"CostChoices", "bringWeights", "()V"⟩, 17), (⟨"CostChoices$Weights", "weighTable", "(LCostChoices$Graph;II)V"⟩, 5)]
theorem lw_r1 : ∀ q ∈ lw_privs_1, lw_okq q := List.forall_mem_cons.mpr ⟨lw_p0, List.forall_mem_cons.mpr ⟨lw_p1, List.forall_mem_cons.mpr ⟨lw_p2, List.forall_mem_cons.mpr ⟨lw_p3, List.forall_mem_cons.mpr ⟨lw_p4, List.forall_mem_cons.mpr ⟨lw_p5, List.forall_mem_cons.mpr ⟨lw_p6, List.forall_mem_cons.mpr ⟨lw_p7, List.forall_mem_cons.mpr ⟨lw_p8, List.forall_mem_cons.mpr ⟨lw_p9, List.forall_mem_cons.mpr ⟨lw_p10, List.forall_mem_cons.mpr ⟨lw_p11, List.forall_mem_cons.mpr ⟨lw_p12, List.forall_mem_cons.mpr ⟨lw_p13, List.forall_mem_cons.mpr ⟨lw_p14, List.forall_mem_cons.mpr ⟨lw_p15, fun _ h => absurd h List.not_mem_nil⟩⟩⟩⟩⟩⟩⟩⟩⟩⟩⟩⟩⟩⟩⟩⟩
theorem lw_p16 : lw_okq (⟨"CostChoices$Reduction", "nextNode", "()I"⟩, 7) := ⟨⟨by decide +kernel, by decide +kernel⟩, List.mem_of_getElem? (i := 118) (by decide +kernel), List.mem_of_getElem? (i := 511) (by decide +kernel), List.mem_of_getElem? (i := 512) (by decide +kernel)⟩
theorem lw_p17 : lw_okq (⟨"CostChoices$Reduction", "comesAhead", "(II)Z"⟩, 7) := ⟨⟨by decide +kernel, by decide +kernel⟩, List.mem_of_getElem? (i := 118) (by decide +kernel), List.mem_of_getElem? (i := 516) (by decide +kernel), List.mem_of_getElem? (i := 517) (by decide +kernel)⟩
theorem lw_p18 : lw_okq (⟨"CostChoices$Reduction", "matesLeft", "(I)I"⟩, 7) := ⟨⟨by decide +kernel, by decide +kernel⟩, List.mem_of_getElem? (i := 118) (by decide +kernel), List.mem_of_getElem? (i := 520) (by decide +kernel), List.mem_of_getElem? (i := 521) (by decide +kernel)⟩
theorem lw_p19 : lw_okq (⟨"CostChoices$Reduction", "foldIntoOne", "(II)V"⟩, 7) := ⟨⟨by decide +kernel, by decide +kernel⟩, List.mem_of_getElem? (i := 118) (by decide +kernel), List.mem_of_getElem? (i := 530) (by decide +kernel), List.mem_of_getElem? (i := 531) (by decide +kernel)⟩
theorem lw_p20 : lw_okq (⟨"CostChoices$Reduction", "foldIntoTwo", "(III)V"⟩, 7) := ⟨⟨by decide +kernel, by decide +kernel⟩, List.mem_of_getElem? (i := 118) (by decide +kernel), List.mem_of_getElem? (i := 548) (by decide +kernel), List.mem_of_getElem? (i := 549) (by decide +kernel)⟩
theorem lw_p21 : lw_okq (⟨"CostChoices$Reduction", "guess", "(II)V"⟩, 7) := ⟨⟨by decide +kernel, by decide +kernel⟩, List.mem_of_getElem? (i := 118) (by decide +kernel), List.mem_of_getElem? (i := 558) (by decide +kernel), List.mem_of_getElem? (i := 559) (by decide +kernel)⟩
theorem lw_p22 : lw_okq (⟨"CostChoices$Reduction", "outlook", "(III)I"⟩, 7) := ⟨⟨by decide +kernel, by decide +kernel⟩, List.mem_of_getElem? (i := 118) (by decide +kernel), List.mem_of_getElem? (i := 562) (by decide +kernel), List.mem_of_getElem? (i := 563) (by decide +kernel)⟩
theorem lw_p23 : lw_okq (⟨"CostChoices$Reduction", "readOff", "()V"⟩, 7) := ⟨⟨by decide +kernel, by decide +kernel⟩, List.mem_of_getElem? (i := 118) (by decide +kernel), List.mem_of_getElem? (i := 573) (by decide +kernel), List.mem_of_getElem? (i := 574) (by decide +kernel)⟩
theorem lw_p24 : lw_okq (⟨"CostChoices$Reduction", "firstLeast", "(II)I"⟩, 7) := ⟨⟨by decide +kernel, by decide +kernel⟩, List.mem_of_getElem? (i := 118) (by decide +kernel), List.mem_of_getElem? (i := 577) (by decide +kernel), List.mem_of_getElem? (i := 578) (by decide +kernel)⟩
theorem lw_p25 : lw_okq (⟨"CostChoices", "bringSearch", "()V"⟩, 17) := ⟨⟨by decide +kernel, by decide +kernel⟩, List.mem_of_getElem? (i := 16) (by decide +kernel), List.mem_of_getElem? (i := 606) (by decide +kernel), List.mem_of_getElem? (i := 607) (by decide +kernel)⟩
theorem lw_p26 : lw_okq (⟨"CostChoices$Search", "tryFrom", "(II)V"⟩, 9) := ⟨⟨by decide +kernel, by decide +kernel⟩, List.mem_of_getElem? (i := 152) (by decide +kernel), List.mem_of_getElem? (i := 621) (by decide +kernel), List.mem_of_getElem? (i := 622) (by decide +kernel)⟩
theorem lw_p27 : lw_okq (⟨"CostChoices$Search", "takeIn", "(I)V"⟩, 9) := ⟨⟨by decide +kernel, by decide +kernel⟩, List.mem_of_getElem? (i := 152) (by decide +kernel), List.mem_of_getElem? (i := 625) (by decide +kernel), List.mem_of_getElem? (i := 626) (by decide +kernel)⟩
theorem lw_p28 : lw_okq (⟨"CostChoices$Search", "likeFirst", "()I"⟩, 9) := ⟨⟨by decide +kernel, by decide +kernel⟩, List.mem_of_getElem? (i := 152) (by decide +kernel), List.mem_of_getElem? (i := 630) (by decide +kernel), List.mem_of_getElem? (i := 631) (by decide +kernel)⟩
theorem lw_p29 : lw_okq (⟨"CostChoicesModel", "readNone", "()V"⟩, 27) := ⟨⟨by decide +kernel, by decide +kernel⟩, List.mem_of_getElem? (i := 678) (by decide +kernel), List.mem_of_getElem? (i := 684) (by decide +kernel), List.mem_of_getElem? (i := 685) (by decide +kernel)⟩
theorem lw_p30 : lw_okq (⟨"CostChoicesModel", "nodeIs", "(IIIII)V"⟩, 27) := ⟨⟨by decide +kernel, by decide +kernel⟩, List.mem_of_getElem? (i := 678) (by decide +kernel), List.mem_of_getElem? (i := 688) (by decide +kernel), List.mem_of_getElem? (i := 689) (by decide +kernel)⟩
theorem lw_p31 : lw_okq (⟨"CostChoicesModel", "tableIs", "(III)V"⟩, 27) := ⟨⟨by decide +kernel, by decide +kernel⟩, List.mem_of_getElem? (i := 678) (by decide +kernel), List.mem_of_getElem? (i := 692) (by decide +kernel), List.mem_of_getElem? (i := 693) (by decide +kernel)⟩
def lw_privs_2 : List (MethodName × Nat) := [(⟨"CostChoices$Reduction", "nextNode", "()I"⟩, 7), (⟨"CostChoices$Reduction", "comesAhead", "(II)Z"⟩, 7), (⟨"CostChoices$Reduction", "matesLeft", "(I)I"⟩, 7), (⟨"CostChoices$Reduction", "foldIntoOne", "(II)V"⟩, 7), (⟨"CostChoices$Reduction", "foldIntoTwo", "(III)V"⟩, 7), (⟨"CostChoices$Reduction", "guess", "(II)V"⟩, 7), (⟨"CostChoices$Reduction", "outlook", "(III)I"⟩, 7), (⟨"CostChoices$Reduction", "readOff", "()V"⟩, 7), (⟨"CostChoices$Reduction", "firstLeast", "(II)I"⟩, 7), (⟨"CostChoices", "bringSearch", "()V"⟩, 17), (⟨"CostChoices$Search", "tryFrom", "(II)V"⟩, 9), (⟨"CostChoices$Search", "takeIn", "(I)V"⟩, 9), (⟨"CostChoices$Search", "likeFirst", "()I"⟩, 9), (⟨"CostChoicesModel", "readNone", "()V"⟩, 27), (⟨"CostChoicesModel", "nodeIs", "(IIIII)V"⟩, 27), (⟨"CostChoicesModel", "tableIs", "(III)V"⟩, 27)]
theorem lw_r2 : ∀ q ∈ lw_privs_2, lw_okq q := List.forall_mem_cons.mpr ⟨lw_p16, List.forall_mem_cons.mpr ⟨lw_p17, List.forall_mem_cons.mpr ⟨lw_p18, List.forall_mem_cons.mpr ⟨lw_p19, List.forall_mem_cons.mpr ⟨lw_p20, List.forall_mem_cons.mpr ⟨lw_p21, List.forall_mem_cons.mpr ⟨lw_p22, List.forall_mem_cons.mpr ⟨lw_p23, List.forall_mem_cons.mpr ⟨lw_p24, List.forall_mem_cons.mpr ⟨lw_p25, List.forall_mem_cons.mpr ⟨lw_p26, List.forall_mem_cons.mpr ⟨lw_p27, List.forall_mem_cons.mpr ⟨lw_p28, List.forall_mem_cons.mpr ⟨lw_p29, List.forall_mem_cons.mpr ⟨lw_p30, List.forall_mem_cons.mpr ⟨lw_p31, fun _ h => absurd h List.not_mem_nil⟩⟩⟩⟩⟩⟩⟩⟩⟩⟩⟩⟩⟩⟩⟩⟩
theorem lw_p32 : lw_okq (⟨"CostChoicesModel", "begin", "()V"⟩, 27) := ⟨⟨by decide +kernel, by decide +kernel⟩, List.mem_of_getElem? (i := 678) (by decide +kernel), List.mem_of_getElem? (i := 701) (by decide +kernel), List.mem_of_getElem? (i := 702) (by decide +kernel)⟩
theorem lw_p33 : lw_okq (⟨"CostChoicesModel", "readAll", "()I"⟩, 27) := ⟨⟨by decide +kernel, by decide +kernel⟩, List.mem_of_getElem? (i := 678) (by decide +kernel), List.mem_of_getElem? (i := 804) (by decide +kernel), List.mem_of_getElem? (i := 805) (by decide +kernel)⟩
theorem lw_p34 : lw_okq (⟨"CostChoicesModel", "letterAt", "(I)I"⟩, 27) := ⟨⟨by decide +kernel, by decide +kernel⟩, List.mem_of_getElem? (i := 678) (by decide +kernel), List.mem_of_getElem? (i := 808) (by decide +kernel), List.mem_of_getElem? (i := 809) (by decide +kernel)⟩
theorem lw_p35 : lw_okq (⟨"CostChoicesModel", "nodeItem", "()Z"⟩, 27) := ⟨⟨by decide +kernel, by decide +kernel⟩, List.mem_of_getElem? (i := 678) (by decide +kernel), List.mem_of_getElem? (i := 812) (by decide +kernel), List.mem_of_getElem? (i := 813) (by decide +kernel)⟩
theorem lw_p36 : lw_okq (⟨"CostChoicesModel", "isNumber", "()Z"⟩, 27) := ⟨⟨by decide +kernel, by decide +kernel⟩, List.mem_of_getElem? (i := 678) (by decide +kernel), List.mem_of_getElem? (i := 816) (by decide +kernel), List.mem_of_getElem? (i := 817) (by decide +kernel)⟩
theorem lw_p37 : lw_okq (⟨"CostChoicesModel", "tieItem", "()Z"⟩, 27) := ⟨⟨by decide +kernel, by decide +kernel⟩, List.mem_of_getElem? (i := 678) (by decide +kernel), List.mem_of_getElem? (i := 823) (by decide +kernel), List.mem_of_getElem? (i := 824) (by decide +kernel)⟩
theorem lw_p38 : lw_okq (⟨"CostChoicesModel", "isNode", "(I)Z"⟩, 27) := ⟨⟨by decide +kernel, by decide +kernel⟩, List.mem_of_getElem? (i := 678) (by decide +kernel), List.mem_of_getElem? (i := 839) (by decide +kernel), List.mem_of_getElem? (i := 840) (by decide +kernel)⟩
theorem lw_p39 : lw_okq (⟨"CostChoicesModel", "tiedMany", "(I)I"⟩, 27) := ⟨⟨by decide +kernel, by decide +kernel⟩, List.mem_of_getElem? (i := 678) (by decide +kernel), List.mem_of_getElem? (i := 844) (by decide +kernel), List.mem_of_getElem? (i := 845) (by decide +kernel)⟩
theorem lw_p40 : lw_okq (⟨"CostChoicesModel", "isTied", "(II)Z"⟩, 27) := ⟨⟨by decide +kernel, by decide +kernel⟩, List.mem_of_getElem? (i := 678) (by decide +kernel), List.mem_of_getElem? (i := 848) (by decide +kernel), List.mem_of_getElem? (i := 849) (by decide +kernel)⟩
theorem lw_p41 : lw_okq (⟨"CostChoicesModel", "isChoice", "(II)Z"⟩, 27) := ⟨⟨by decide +kernel, by decide +kernel⟩, List.mem_of_getElem? (i := 678) (by decide +kernel), List.mem_of_getElem? (i := 856) (by decide +kernel), List.mem_of_getElem? (i := 857) (by decide +kernel)⟩
theorem lw_p42 : lw_okq (⟨"CostChoicesModel", "costOf", "(II)I"⟩, 27) := ⟨⟨by decide +kernel, by decide +kernel⟩, List.mem_of_getElem? (i := 678) (by decide +kernel), List.mem_of_getElem? (i := 860) (by decide +kernel), List.mem_of_getElem? (i := 861) (by decide +kernel)⟩
theorem lw_p43 : lw_okq (⟨"CostChoicesModel", "tieOf", "(IIII)I"⟩, 27) := ⟨⟨by decide +kernel, by decide +kernel⟩, List.mem_of_getElem? (i := 678) (by decide +kernel), List.mem_of_getElem? (i := 869) (by decide +kernel), List.mem_of_getElem? (i := 870) (by decide +kernel)⟩
theorem lw_p44 : lw_okq (⟨"CostChoicesModel", "note", "()V"⟩, 27) := ⟨⟨by decide +kernel, by decide +kernel⟩, List.mem_of_getElem? (i := 678) (by decide +kernel), List.mem_of_getElem? (i := 878) (by decide +kernel), List.mem_of_getElem? (i := 879) (by decide +kernel)⟩
theorem lw_p45 : lw_okq (⟨"CostChoicesModel", "isPair", "(II)Z"⟩, 27) := ⟨⟨by decide +kernel, by decide +kernel⟩, List.mem_of_getElem? (i := 678) (by decide +kernel), List.mem_of_getElem? (i := 890) (by decide +kernel), List.mem_of_getElem? (i := 891) (by decide +kernel)⟩
theorem lw_p46 : lw_okq (⟨"CostChoicesModel", "looseNow", "(II)V"⟩, 27) := ⟨⟨by decide +kernel, by decide +kernel⟩, List.mem_of_getElem? (i := 678) (by decide +kernel), List.mem_of_getElem? (i := 894) (by decide +kernel), List.mem_of_getElem? (i := 895) (by decide +kernel)⟩
theorem lw_p47 : lw_okq (⟨"CostChoicesModel", "reduceAll", "()V"⟩, 27) := ⟨⟨by decide +kernel, by decide +kernel⟩, List.mem_of_getElem? (i := 678) (by decide +kernel), List.mem_of_getElem? (i := 915) (by decide +kernel), List.mem_of_getElem? (i := 916) (by decide +kernel)⟩
def lw_privs_3 : List (MethodName × Nat) := [(⟨"CostChoicesModel", "begin", "()V"⟩, 27), (⟨"CostChoicesModel", "readAll", "()I"⟩, 27), (⟨"CostChoicesModel", "letterAt", "(I)I"⟩, 27), (⟨"CostChoicesModel", "nodeItem", "()Z"⟩, 27), (⟨"CostChoicesModel", "isNumber", "()Z"⟩, 27), (⟨"CostChoicesModel", "tieItem", "()Z"⟩, 27), (⟨"CostChoicesModel", "isNode", "(I)Z"⟩, 27), (⟨"CostChoicesModel", "tiedMany", "(I)I"⟩, 27), (⟨"CostChoicesModel", "isTied", "(II)Z"⟩, 27), (⟨"CostChoicesModel", "isChoice", "(II)Z"⟩, 27), (⟨"CostChoicesModel", "costOf", "(II)I"⟩, 27), (⟨"CostChoicesModel", "tieOf", "(IIII)I"⟩, 27), (⟨"CostChoicesModel", "note", "()V"⟩, 27), (⟨"CostChoicesModel", "isPair", "(II)Z"⟩, 27), (⟨"CostChoicesModel", "looseNow", "(II)V"⟩, 27), (⟨"CostChoicesModel", "reduceAll", "()V"⟩, 27)]
theorem lw_r3 : ∀ q ∈ lw_privs_3, lw_okq q := List.forall_mem_cons.mpr ⟨lw_p32, List.forall_mem_cons.mpr ⟨lw_p33, List.forall_mem_cons.mpr ⟨lw_p34, List.forall_mem_cons.mpr ⟨lw_p35, List.forall_mem_cons.mpr ⟨lw_p36, List.forall_mem_cons.mpr ⟨lw_p37, List.forall_mem_cons.mpr ⟨lw_p38, List.forall_mem_cons.mpr ⟨lw_p39, List.forall_mem_cons.mpr ⟨lw_p40, List.forall_mem_cons.mpr ⟨lw_p41, List.forall_mem_cons.mpr ⟨lw_p42, List.forall_mem_cons.mpr ⟨lw_p43, List.forall_mem_cons.mpr ⟨lw_p44, List.forall_mem_cons.mpr ⟨lw_p45, List.forall_mem_cons.mpr ⟨lw_p46, List.forall_mem_cons.mpr ⟨lw_p47, fun _ h => absurd h List.not_mem_nil⟩⟩⟩⟩⟩⟩⟩⟩⟩⟩⟩⟩⟩⟩⟩⟩
theorem lw_p48 : lw_okq (⟨"CostChoicesModel", "aside", "()V"⟩, 27) := ⟨⟨by decide +kernel, by decide +kernel⟩, List.mem_of_getElem? (i := 678) (by decide +kernel), List.mem_of_getElem? (i := 919) (by decide +kernel), List.mem_of_getElem? (i := 920) (by decide +kernel)⟩
theorem lw_p49 : lw_okq (⟨"CostChoicesModel", "nextOf", "(I)I"⟩, 27) := ⟨⟨by decide +kernel, by decide +kernel⟩, List.mem_of_getElem? (i := 678) (by decide +kernel), List.mem_of_getElem? (i := 926) (by decide +kernel), List.mem_of_getElem? (i := 927) (by decide +kernel)⟩
theorem lw_p50 : lw_okq (⟨"CostChoicesModel", "isAhead", "(II)Z"⟩, 27) := ⟨⟨by decide +kernel, by decide +kernel⟩, List.mem_of_getElem? (i := 678) (by decide +kernel), List.mem_of_getElem? (i := 933) (by decide +kernel), List.mem_of_getElem? (i := 934) (by decide +kernel)⟩
theorem lw_p51 : lw_okq (⟨"CostChoicesModel", "ruleOne", "(II)V"⟩, 27) := ⟨⟨by decide +kernel, by decide +kernel⟩, List.mem_of_getElem? (i := 678) (by decide +kernel), List.mem_of_getElem? (i := 943) (by decide +kernel), List.mem_of_getElem? (i := 944) (by decide +kernel)⟩
theorem lw_p52 : lw_okq (⟨"CostChoicesModel", "ruleTwo", "(III)V"⟩, 27) := ⟨⟨by decide +kernel, by decide +kernel⟩, List.mem_of_getElem? (i := 678) (by decide +kernel), List.mem_of_getElem? (i := 950) (by decide +kernel), List.mem_of_getElem? (i := 951) (by decide +kernel)⟩
theorem lw_p53 : lw_okq (⟨"CostChoicesModel", "ruleThree", "(I)V"⟩, 27) := ⟨⟨by decide +kernel, by decide +kernel⟩, List.mem_of_getElem? (i := 678) (by decide +kernel), List.mem_of_getElem? (i := 954) (by decide +kernel), List.mem_of_getElem? (i := 955) (by decide +kernel)⟩
theorem lw_p54 : lw_okq (⟨"CostChoicesModel", "leastBeside", "(III)I"⟩, 27) := ⟨⟨by decide +kernel, by decide +kernel⟩, List.mem_of_getElem? (i := 678) (by decide +kernel), List.mem_of_getElem? (i := 959) (by decide +kernel), List.mem_of_getElem? (i := 960) (by decide +kernel)⟩
theorem lw_p55 : lw_okq (⟨"CostChoicesModel", "takeBest", "(II)V"⟩, 27) := ⟨⟨by decide +kernel, by decide +kernel⟩, List.mem_of_getElem? (i := 678) (by decide +kernel), List.mem_of_getElem? (i := 963) (by decide +kernel), List.mem_of_getElem? (i := 964) (by decide +kernel)⟩
theorem lw_p56 : lw_okq (⟨"CostChoicesModel", "planCost", "()I"⟩, 27) := ⟨⟨by decide +kernel, by decide +kernel⟩, List.mem_of_getElem? (i := 678) (by decide +kernel), List.mem_of_getElem? (i := 975) (by decide +kernel), List.mem_of_getElem? (i := 976) (by decide +kernel)⟩
theorem lw_p57 : lw_okq (⟨"CostChoicesModel", "bound", "()I"⟩, 27) := ⟨⟨by decide +kernel, by decide +kernel⟩, List.mem_of_getElem? (i := 678) (by decide +kernel), List.mem_of_getElem? (i := 984) (by decide +kernel), List.mem_of_getElem? (i := 985) (by decide +kernel)⟩
theorem lw_p58 : lw_okq (⟨"CostChoicesModel", "goAll", "(II)V"⟩, 27) := ⟨⟨by decide +kernel, by decide +kernel⟩, List.mem_of_getElem? (i := 678) (by decide +kernel), List.mem_of_getElem? (i := 988) (by decide +kernel), List.mem_of_getElem? (i := 989) (by decide +kernel)⟩
theorem lw_p59 : lw_okq (⟨"CostChoicesModel", "meetPlan", "(I)V"⟩, 27) := ⟨⟨by decide +kernel, by decide +kernel⟩, List.mem_of_getElem? (i := 678) (by decide +kernel), List.mem_of_getElem? (i := 992) (by decide +kernel), List.mem_of_getElem? (i := 993) (by decide +kernel)⟩
theorem lw_p60 : lw_okq (⟨"CostChoicesModel", "sameSet", "()I"⟩, 27) := ⟨⟨by decide +kernel, by decide +kernel⟩, List.mem_of_getElem? (i := 678) (by decide +kernel), List.mem_of_getElem? (i := 996) (by decide +kernel), List.mem_of_getElem? (i := 997) (by decide +kernel)⟩
theorem lw_p61 : lw_okq (⟨"CostChoicesModel", "pinned", "()I"⟩, 27) := ⟨⟨by decide +kernel, by decide +kernel⟩, List.mem_of_getElem? (i := 678) (by decide +kernel), List.mem_of_getElem? (i := 1024) (by decide +kernel), List.mem_of_getElem? (i := 1025) (by decide +kernel)⟩
def lw_privs_4 : List (MethodName × Nat) := [(⟨"CostChoicesModel", "aside", "()V"⟩, 27), (⟨"CostChoicesModel", "nextOf", "(I)I"⟩, 27), (⟨"CostChoicesModel", "isAhead", "(II)Z"⟩, 27), (⟨"CostChoicesModel", "ruleOne", "(II)V"⟩, 27), (⟨"CostChoicesModel", "ruleTwo", "(III)V"⟩, 27), (⟨"CostChoicesModel", "ruleThree", "(I)V"⟩, 27), (⟨"CostChoicesModel", "leastBeside", "(III)I"⟩, 27), (⟨"CostChoicesModel", "takeBest", "(II)V"⟩, 27), (⟨"CostChoicesModel", "planCost", "()I"⟩, 27), (⟨"CostChoicesModel", "bound", "()I"⟩, 27), (⟨"CostChoicesModel", "goAll", "(II)V"⟩, 27), (⟨"CostChoicesModel", "meetPlan", "(I)V"⟩, 27), (⟨"CostChoicesModel", "sameSet", "()I"⟩, 27), (⟨"CostChoicesModel", "pinned", "()I"⟩, 27)]
theorem lw_r4 : ∀ q ∈ lw_privs_4, lw_okq q := List.forall_mem_cons.mpr ⟨lw_p48, List.forall_mem_cons.mpr ⟨lw_p49, List.forall_mem_cons.mpr ⟨lw_p50, List.forall_mem_cons.mpr ⟨lw_p51, List.forall_mem_cons.mpr ⟨lw_p52, List.forall_mem_cons.mpr ⟨lw_p53, List.forall_mem_cons.mpr ⟨lw_p54, List.forall_mem_cons.mpr ⟨lw_p55, List.forall_mem_cons.mpr ⟨lw_p56, List.forall_mem_cons.mpr ⟨lw_p57, List.forall_mem_cons.mpr ⟨lw_p58, List.forall_mem_cons.mpr ⟨lw_p59, List.forall_mem_cons.mpr ⟨lw_p60, List.forall_mem_cons.mpr ⟨lw_p61, fun _ h => absurd h List.not_mem_nil⟩⟩⟩⟩⟩⟩⟩⟩⟩⟩⟩⟩⟩⟩
def lw_privs : List (MethodName × Nat) := lw_privs_1 ++ (lw_privs_2 ++ (lw_privs_3 ++ (lw_privs_4)))
def lw_tbl : List Cond := k2_sels lw_privs ++ tables_1
theorem lw_privs_ok : ∀ q ∈ lw_privs, lw_okq q := by
  show ∀ q ∈ lw_privs_1 ++ (lw_privs_2 ++ (lw_privs_3 ++ (lw_privs_4))), lw_okq q
  exact List.forall_mem_append.mpr ⟨lw_r1, List.forall_mem_append.mpr ⟨lw_r2, List.forall_mem_append.mpr ⟨lw_r3, lw_r4⟩⟩⟩
/-! ===== BEGIN words of one list among another's, by their places ===== -/
theorem goodIn_r {big : List Cond} (ws : List Cond) (ps : List Nat) (hp : ws = ps.filterMap (fun i => big[i]?)) (h : ws.all goodWord = true) : GoodIn big ws := by
  intro w hw
  have h1 := List.all_eq_true.mp h w hw
  rw [hp] at hw
  obtain ⟨i, -, hi⟩ := List.mem_filterMap.mp hw
  have hm : w ∈ big := by first | exact List.mem_of_getElem? hi | exact List.getElem?_mem hi
  exact ⟨hm, good_of_word h1⟩
theorem goodIn_app {big a b : List Cond} (ha : GoodIn big a) (hb : GoodIn big b) : GoodIn big (a ++ b) := fun w h => (List.mem_append.mp h).elim (ha w) (hb w)
theorem goodIn_ca {big a b : List Cond} {c : Cond} (ha : GoodIn big (c :: a)) (hb : GoodIn big b) : GoodIn big (c :: (a ++ b)) := fun w h => (List.mem_cons.mp h).elim (fun e => ha w (List.mem_cons.mpr (Or.inl e))) (fun h => (List.mem_append.mp h).elim (fun h => ha w (List.mem_cons.mpr (Or.inr h))) (hb w))
theorem goodIn_sub {big ws : List Cond} (hm : ∀ w ∈ ws, w ∈ big) (h : ws.all goodWord = true) : GoodIn big ws := fun w hw => ⟨hm w hw, good_of_word (List.all_eq_true.mp h w hw)⟩
/-! ===== END ===== -/

/-! ===== BEGIN printed: names, fields, word lists, decode rows ===== -/
def RX0 : String := "CostChoices$Graph"
def TX0 : u_T := fun k => match k with
  | 0 => ("CostChoices$Graph", "nodes", "I", false)
  | 1 => ("CostChoices$Graph", "choices", "[I", true)
  | 2 => ("CostChoices$Graph", "kinds", "[I", true)
  | 3 => ("CostChoices$Graph", "pins", "[I", true)
  | 4 => ("CostChoices$Graph", "mates", "[I", true)
  | 5 => ("CostChoices$Graph", "own", "[I", true)
  | _ => ("CostChoices$Graph", "figures", "[I", true)
def tyX0 : Nat → FieldType := fun k => match k with
  | 0 => .int
  | 1 => .array .int
  | 2 => .array .int
  | 3 => .array .int
  | 4 => .array .int
  | 5 => .array .int
  | _ => .array .int
abbrev wsX00 : List Cond := u_ws RX0 TX0 7
theorem nmX0 : ∀ a, a < 7 → ∀ b, b < 7 → a ≠ b → (TX0 a).2.1 ≠ (TX0 b).2.1 := by decide +kernel
theorem tyX0_ok : ∀ k, k < 7 → parseFieldDescriptor (TX0 k).2.2.1 = some (tyX0 k) := by decide +kernel
abbrev cX0_init : ByteArray := prog_2_method_1_code
def yX0_init : MethodName := ⟨RX0, "<init>", "()V"⟩
abbrev cX0_copyFrom : ByteArray := prog_2_method_2_code
def yX0_copyFrom : MethodName := ⟨RX0, "copyFrom", "(LCostChoices$Graph;)V"⟩
abbrev cX0_addNode : ByteArray := prog_2_method_3_code
def yX0_addNode : MethodName := ⟨RX0, "addNode", "(II)V"⟩
abbrev cX0_areTied : ByteArray := prog_2_method_4_code
def yX0_areTied : MethodName := ⟨RX0, "areTied", "(II)Z"⟩
abbrev cX0_tieCount : ByteArray := prog_2_method_5_code
def yX0_tieCount : MethodName := ⟨RX0, "tieCount", "()I"⟩
abbrev cX0_pinCount : ByteArray := prog_2_method_6_code
def yX0_pinCount : MethodName := ⟨RX0, "pinCount", "()I"⟩
abbrev cX0_choiceCost : ByteArray := prog_2_method_7_code
def yX0_choiceCost : MethodName := ⟨RX0, "choiceCost", "(II)I"⟩
abbrev cX0_tieCost : ByteArray := prog_2_method_8_code
def yX0_tieCost : MethodName := ⟨RX0, "tieCost", "(IIII)I"⟩
def RX1 : String := "CostChoices$Reader"
def TX1 : u_T := fun k => match k with
  | 0 => ("CostChoices$Reader", "letters", "[C", true)
  | 1 => ("CostChoices$Reader", "into", "LCostChoices$Graph;", true)
  | 2 => ("CostChoices$Reader", "length", "I", false)
  | _ => ("CostChoices$Reader", "at", "I", false)
def tyX1 : Nat → FieldType := fun k => match k with
  | 0 => .array .char
  | 1 => .object "CostChoices$Graph"
  | 2 => .int
  | _ => .int
abbrev wsX10 : List Cond := u_ws RX1 TX1 4
theorem nmX1 : ∀ a, a < 4 → ∀ b, b < 4 → a ≠ b → (TX1 a).2.1 ≠ (TX1 b).2.1 := by decide +kernel
theorem tyX1_ok : ∀ k, k < 4 → parseFieldDescriptor (TX1 k).2.2.1 = some (tyX1 k) := by decide +kernel
abbrev cX1_init : ByteArray := prog_3_method_1_code
def yX1_init : MethodName := ⟨RX1, "<init>", "([CLCostChoices$Graph;)V"⟩
abbrev cX1_read : ByteArray := prog_3_method_2_code
def yX1_read : MethodName := ⟨RX1, "read", "(I)I"⟩
abbrev cX1_readItem : ByteArray := prog_3_method_3_code
def yX1_readItem : MethodName := ⟨RX1, "readItem", "()Z"⟩
abbrev cX1_readNode : ByteArray := prog_3_method_4_code
def yX1_readNode : MethodName := ⟨RX1, "readNode", "()Z"⟩
abbrev cX1_readTie : ByteArray := prog_3_method_5_code
def yX1_readTie : MethodName := ⟨RX1, "readTie", "()Z"⟩
abbrev cX1_readTable : ByteArray := prog_3_method_6_code
def yX1_readTable : MethodName := ⟨RX1, "readTable", "(II)Z"⟩
abbrev cX1_takes : ByteArray := prog_3_method_7_code
def yX1_takes : MethodName := ⟨RX1, "takes", "(C)Z"⟩
abbrev cX1_readNumber : ByteArray := prog_3_method_8_code
def yX1_readNumber : MethodName := ⟨RX1, "readNumber", "()I"⟩
abbrev cX1_readFigure : ByteArray := prog_3_method_9_code
def yX1_readFigure : MethodName := ⟨RX1, "readFigure", "()I"⟩
def RX2 : String := "CostChoices$Reduction"
def TX2 : u_T := fun k => match k with
  | 0 => ("CostChoices$Reduction", "order", "[I", true)
  | 1 => ("CostChoices$Reduction", "rules", "[I", true)
  | 2 => ("CostChoices$Reduction", "taken", "[I", true)
  | 3 => ("CostChoices$Reduction", "guessed", "Z", false)
  | 4 => ("CostChoices$Reduction", "besides", "[I", true)
  | 5 => ("CostChoices$Reduction", "weights", "LCostChoices$Weights;", true)
  | _ => ("CostChoices$Reduction", "left", "I", false)
def tyX2 : Nat → FieldType := fun k => match k with
  | 0 => .array .int
  | 1 => .array .int
  | 2 => .array .int
  | 3 => .boolean
  | 4 => .array .int
  | 5 => .object "CostChoices$Weights"
  | _ => .int
abbrev wsX20 : List Cond := u_ws RX2 TX2 7
theorem nmX2 : ∀ a, a < 7 → ∀ b, b < 7 → a ≠ b → (TX2 a).2.1 ≠ (TX2 b).2.1 := by decide +kernel
theorem tyX2_ok : ∀ k, k < 7 → parseFieldDescriptor (TX2 k).2.2.1 = some (tyX2 k) := by decide +kernel
abbrev cX2_init : ByteArray := prog_4_method_1_code
def yX2_init : MethodName := ⟨RX2, "<init>", "()V"⟩
abbrev cX2_run : ByteArray := prog_4_method_2_code
def yX2_run : MethodName := ⟨RX2, "run", "(LCostChoices$Graph;)V"⟩
abbrev cX2_matesLeft : ByteArray := prog_4_method_3_code
def yX2_matesLeft : MethodName := ⟨RX2, "matesLeft", "(I)I"⟩
abbrev cX2_nextNode : ByteArray := prog_4_method_4_code
def yX2_nextNode : MethodName := ⟨RX2, "nextNode", "()I"⟩
abbrev cX2_comesAhead : ByteArray := prog_4_method_5_code
def yX2_comesAhead : MethodName := ⟨RX2, "comesAhead", "(II)Z"⟩
abbrev cX2_foldIntoOne : ByteArray := prog_4_method_6_code
def yX2_foldIntoOne : MethodName := ⟨RX2, "foldIntoOne", "(II)V"⟩
abbrev cX2_foldIntoTwo : ByteArray := prog_4_method_7_code
def yX2_foldIntoTwo : MethodName := ⟨RX2, "foldIntoTwo", "(III)V"⟩
abbrev cX2_guess : ByteArray := prog_4_method_8_code
def yX2_guess : MethodName := ⟨RX2, "guess", "(II)V"⟩
abbrev cX2_outlook : ByteArray := prog_4_method_9_code
def yX2_outlook : MethodName := ⟨RX2, "outlook", "(III)I"⟩
abbrev cX2_readOff : ByteArray := prog_4_method_10_code
def yX2_readOff : MethodName := ⟨RX2, "readOff", "()V"⟩
abbrev cX2_firstLeast : ByteArray := prog_4_method_11_code
def yX2_firstLeast : MethodName := ⟨RX2, "firstLeast", "(II)I"⟩
def RX3 : String := "CostChoices$Search"
def TX3 : u_T := fun k => match k with
  | 0 => ("CostChoices$Search", "best", "I", false)
  | 1 => ("CostChoices$Search", "next", "I", false)
  | 2 => ("CostChoices$Search", "ways", "I", false)
  | 3 => ("CostChoices$Search", "same", "I", false)
  | 4 => ("CostChoices$Search", "firstPlan", "[I", true)
  | 5 => ("CostChoices$Search", "chosen", "[I", true)
  | 6 => ("CostChoices$Search", "rest", "[I", true)
  | 7 => ("CostChoices$Search", "weights", "LCostChoices$Weights;", true)
  | _ => ("CostChoices$Search", "bestAlone", "Z", true)
def tyX3 : Nat → FieldType := fun k => match k with
  | 0 => .int
  | 1 => .int
  | 2 => .int
  | 3 => .int
  | 4 => .array .int
  | 5 => .array .int
  | 6 => .array .int
  | 7 => .object "CostChoices$Weights"
  | _ => .boolean
abbrev wsX30 : List Cond := u_ws RX3 TX3 9
theorem nmX3 : ∀ a, a < 9 → ∀ b, b < 9 → a ≠ b → (TX3 a).2.1 ≠ (TX3 b).2.1 := by decide +kernel
theorem tyX3_ok : ∀ k, k < 9 → parseFieldDescriptor (TX3 k).2.2.1 = some (tyX3 k) := by decide +kernel
abbrev cX3_init : ByteArray := prog_5_method_1_code
def yX3_init : MethodName := ⟨RX3, "<init>", "(LCostChoices$Weights;Z)V"⟩
abbrev cX3_run : ByteArray := prog_5_method_2_code
def yX3_run : MethodName := ⟨RX3, "run", "()V"⟩
abbrev cX3_tryFrom : ByteArray := prog_5_method_3_code
def yX3_tryFrom : MethodName := ⟨RX3, "tryFrom", "(II)V"⟩
abbrev cX3_takeIn : ByteArray := prog_5_method_4_code
def yX3_takeIn : MethodName := ⟨RX3, "takeIn", "(I)V"⟩
abbrev cX3_likeFirst : ByteArray := prog_5_method_5_code
def yX3_likeFirst : MethodName := ⟨RX3, "likeFirst", "()I"⟩
def RX4 : String := "CostChoices$Weights"
def TX4 : u_T := fun k => match k with
  | 0 => ("CostChoices$Weights", "nodes", "I", false)
  | 1 => ("CostChoices$Weights", "choices", "[I", true)
  | 2 => ("CostChoices$Weights", "mates", "[I", true)
  | 3 => ("CostChoices$Weights", "costs", "[I", true)
  | _ => ("CostChoices$Weights", "entries", "[I", true)
def tyX4 : Nat → FieldType := fun k => match k with
  | 0 => .int
  | 1 => .array .int
  | 2 => .array .int
  | 3 => .array .int
  | _ => .array .int
abbrev wsX40 : List Cond := u_ws RX4 TX4 5
theorem nmX4 : ∀ a, a < 5 → ∀ b, b < 5 → a ≠ b → (TX4 a).2.1 ≠ (TX4 b).2.1 := by decide +kernel
theorem tyX4_ok : ∀ k, k < 5 → parseFieldDescriptor (TX4 k).2.2.1 = some (tyX4 k) := by decide +kernel
abbrev cX4_init : ByteArray := prog_6_method_1_code
def yX4_init : MethodName := ⟨RX4, "<init>", "()V"⟩
abbrev cX4_weigh : ByteArray := prog_6_method_2_code
def yX4_weigh : MethodName := ⟨RX4, "weigh", "(LCostChoices$Graph;)V"⟩
abbrev cX4_weighTable : ByteArray := prog_6_method_3_code
def yX4_weighTable : MethodName := ⟨RX4, "weighTable", "(LCostChoices$Graph;II)V"⟩
abbrev cX4_areTied : ByteArray := prog_6_method_4_code
def yX4_areTied : MethodName := ⟨RX4, "areTied", "(II)Z"⟩
abbrev cX4_costAt : ByteArray := prog_6_method_5_code
def yX4_costAt : MethodName := ⟨RX4, "costAt", "(II)I"⟩
abbrev cX4_entryAt : ByteArray := prog_6_method_6_code
def yX4_entryAt : MethodName := ⟨RX4, "entryAt", "(IIII)I"⟩
abbrev cX4_addCost : ByteArray := prog_6_method_7_code
def yX4_addCost : MethodName := ⟨RX4, "addCost", "(III)V"⟩
abbrev cX4_addEntry : ByteArray := prog_6_method_8_code
def yX4_addEntry : MethodName := ⟨RX4, "addEntry", "(IIIII)V"⟩
abbrev cX4_allowOnly : ByteArray := prog_6_method_9_code
def yX4_allowOnly : MethodName := ⟨RX4, "allowOnly", "(II)V"⟩
abbrev cX4_costBeside : ByteArray := prog_6_method_10_code
def yX4_costBeside : MethodName := ⟨RX4, "costBeside", "(III[I)I"⟩
abbrev cX4_planCost : ByteArray := prog_6_method_11_code
def yX4_planCost : MethodName := ⟨RX4, "planCost", "([I)I"⟩
abbrev cX4_matesBelow : ByteArray := prog_6_method_12_code
def yX4_matesBelow : MethodName := ⟨RX4, "matesBelow", "(I)I"⟩
abbrev cX4_leastAcross : ByteArray := prog_6_method_13_code
def yX4_leastAcross : MethodName := ⟨RX4, "leastAcross", "(III)I"⟩
abbrev cX4_leastCost : ByteArray := prog_6_method_14_code
def yX4_leastCost : MethodName := ⟨RX4, "leastCost", "(I)I"⟩
abbrev cX4_leastEntry : ByteArray := prog_6_method_15_code
def yX4_leastEntry : MethodName := ⟨RX4, "leastEntry", "(II)I"⟩
abbrev cX4_bound : ByteArray := prog_6_method_16_code
def yX4_bound : MethodName := ⟨RX4, "bound", "()I"⟩
def RX5 : String := "CostChoices"
def TX5 : u_T := fun k => match k with
  | 0 => ("CostChoices", "text", "[C", true)
  | 1 => ("CostChoices", "textLength", "I", false)
  | 2 => ("CostChoices", "graph", "LCostChoices$Graph;", true)
  | 3 => ("CostChoices", "draft", "LCostChoices$Graph;", true)
  | 4 => ("CostChoices", "reader", "LCostChoices$Reader;", true)
  | 5 => ("CostChoices", "past", "[LCostChoices$Graph;", true)
  | 6 => ("CostChoices", "pastCount", "I", false)
  | 7 => ("CostChoices", "kept", "[LCostChoices$Graph;", true)
  | 8 => ("CostChoices", "keptCount", "I", false)
  | 9 => ("CostChoices", "standing", "LCostChoices$Weights;", true)
  | 10 => ("CostChoices", "altered", "LCostChoices$Weights;", true)
  | 11 => ("CostChoices", "reduction", "LCostChoices$Reduction;", true)
  | 12 => ("CostChoices", "search", "LCostChoices$Search;", true)
  | 13 => ("CostChoices", "alteredSearch", "LCostChoices$Search;", true)
  | 14 => ("CostChoices", "weighed", "Z", false)
  | 15 => ("CostChoices", "reductionRun", "Z", false)
  | _ => ("CostChoices", "searchRun", "Z", false)
def tyX5 : Nat → FieldType := fun k => match k with
  | 0 => .array .char
  | 1 => .int
  | 2 => .object "CostChoices$Graph"
  | 3 => .object "CostChoices$Graph"
  | 4 => .object "CostChoices$Reader"
  | 5 => .array (.object "CostChoices$Graph")
  | 6 => .int
  | 7 => .array (.object "CostChoices$Graph")
  | 8 => .int
  | 9 => .object "CostChoices$Weights"
  | 10 => .object "CostChoices$Weights"
  | 11 => .object "CostChoices$Reduction"
  | 12 => .object "CostChoices$Search"
  | 13 => .object "CostChoices$Search"
  | 14 => .boolean
  | 15 => .boolean
  | _ => .boolean
abbrev wsX50 : List Cond := u_ws RX5 TX5 17
theorem nmX5 : ∀ a, a < 17 → ∀ b, b < 17 → a ≠ b → (TX5 a).2.1 ≠ (TX5 b).2.1 := by decide +kernel
theorem tyX5_ok : ∀ k, k < 17 → parseFieldDescriptor (TX5 k).2.2.1 = some (tyX5 k) := by decide +kernel
abbrev cX5_init : ByteArray := prog_1_method_1_code
def yX5_init : MethodName := ⟨RX5, "<init>", "()V"⟩
abbrev cX5_write : ByteArray := prog_1_method_2_code
def yX5_write : MethodName := ⟨RX5, "write", "(I)I"⟩
abbrev cX5_wipe : ByteArray := prog_1_method_3_code
def yX5_wipe : MethodName := ⟨RX5, "wipe", "()I"⟩
abbrev cX5_fault : ByteArray := prog_1_method_4_code
def yX5_fault : MethodName := ⟨RX5, "fault", "()I"⟩
abbrev cX5_lay : ByteArray := prog_1_method_5_code
def yX5_lay : MethodName := ⟨RX5, "lay", "()I"⟩
abbrev cX5_node : ByteArray := prog_1_method_6_code
def yX5_node : MethodName := ⟨RX5, "node", "(II)I"⟩
abbrev cX5_cost : ByteArray := prog_1_method_7_code
def yX5_cost : MethodName := ⟨RX5, "cost", "(II)I"⟩
abbrev cX5_tie : ByteArray := prog_1_method_8_code
def yX5_tie : MethodName := ⟨RX5, "tie", "(IIII)I"⟩
abbrev cX5_price : ByteArray := prog_1_method_9_code
def yX5_price : MethodName := ⟨RX5, "price", "(III)I"⟩
abbrev cX5_table : ByteArray := prog_1_method_10_code
def yX5_table : MethodName := ⟨RX5, "table", "(IIIII)I"⟩
abbrev cX5_loose : ByteArray := prog_1_method_11_code
def yX5_loose : MethodName := ⟨RX5, "loose", "(II)I"⟩
abbrev cX5_pin : ByteArray := prog_1_method_12_code
def yX5_pin : MethodName := ⟨RX5, "pin", "(II)I"⟩
abbrev cX5_rename : ByteArray := prog_1_method_13_code
def yX5_rename : MethodName := ⟨RX5, "rename", "(II)I"⟩
abbrev cX5_undo : ByteArray := prog_1_method_14_code
def yX5_undo : MethodName := ⟨RX5, "undo", "()I"⟩
abbrev cX5_turn : ByteArray := prog_1_method_15_code
def yX5_turn : MethodName := ⟨RX5, "turn", "(II)I"⟩
abbrev cX5_reduced : ByteArray := prog_1_method_16_code
def yX5_reduced : MethodName := ⟨RX5, "reduced", "(I)I"⟩
abbrev cX5_plan : ByteArray := prog_1_method_17_code
def yX5_plan : MethodName := ⟨RX5, "plan", "(I)I"⟩
abbrev cX5_least : ByteArray := prog_1_method_18_code
def yX5_least : MethodName := ⟨RX5, "least", "(I)I"⟩
abbrev cX5_first : ByteArray := prog_1_method_19_code
def yX5_first : MethodName := ⟨RX5, "first", "(I)I"⟩
abbrev cX5_with : ByteArray := prog_1_method_20_code
def yX5_with : MethodName := ⟨RX5, "with", "(II)I"⟩
abbrev cX5_without : ByteArray := prog_1_method_21_code
def yX5_without : MethodName := ⟨RX5, "without", "(II)I"⟩
abbrev cX5_keep : ByteArray := prog_1_method_22_code
def yX5_keep : MethodName := ⟨RX5, "keep", "()I"⟩
abbrev cX5_back : ByteArray := prog_1_method_23_code
def yX5_back : MethodName := ⟨RX5, "back", "()I"⟩
abbrev cX5_count : ByteArray := prog_1_method_24_code
def yX5_count : MethodName := ⟨RX5, "count", "(I)I"⟩
abbrev cX5_isNode : ByteArray := prog_1_method_25_code
def yX5_isNode : MethodName := ⟨RX5, "isNode", "(I)Z"⟩
abbrev cX5_isChoice : ByteArray := prog_1_method_26_code
def yX5_isChoice : MethodName := ⟨RX5, "isChoice", "(II)Z"⟩
abbrev cX5_pinnedTo : ByteArray := prog_1_method_27_code
def yX5_pinnedTo : MethodName := ⟨RX5, "pinnedTo", "(I)I"⟩
abbrev cX5_beginAct : ByteArray := prog_1_method_28_code
def yX5_beginAct : MethodName := ⟨RX5, "beginAct", "()V"⟩
abbrev cX5_dropOldest : ByteArray := prog_1_method_29_code
def yX5_dropOldest : MethodName := ⟨RX5, "dropOldest", "()V"⟩
abbrev cX5_forgetAnswers : ByteArray := prog_1_method_30_code
def yX5_forgetAnswers : MethodName := ⟨RX5, "forgetAnswers", "()V"⟩
abbrev cX5_bringWeights : ByteArray := prog_1_method_31_code
def yX5_bringWeights : MethodName := ⟨RX5, "bringWeights", "()V"⟩
abbrev cX5_bringReduction : ByteArray := prog_1_method_32_code
def yX5_bringReduction : MethodName := ⟨RX5, "bringReduction", "()V"⟩
abbrev cX5_bringSearch : ByteArray := prog_1_method_33_code
def yX5_bringSearch : MethodName := ⟨RX5, "bringSearch", "()V"⟩
abbrev cX5_isWithin : ByteArray := prog_1_method_34_code
def yX5_isWithin : MethodName := ⟨RX5, "isWithin", "(III)Z"⟩
abbrev cX5_capped : ByteArray := prog_1_method_35_code
def yX5_capped : MethodName := ⟨RX5, "capped", "(I)I"⟩
abbrev cX5_choicePlace : ByteArray := prog_1_method_36_code
def yX5_choicePlace : MethodName := ⟨RX5, "choicePlace", "(II)I"⟩
abbrev cX5_entryPlace : ByteArray := prog_1_method_37_code
def yX5_entryPlace : MethodName := ⟨RX5, "entryPlace", "(IIII)I"⟩
abbrev cX5_hasBit : ByteArray := prog_1_method_38_code
def yX5_hasBit : MethodName := ⟨RX5, "hasBit", "(II)Z"⟩
abbrev cX5_joinByNoughts : ByteArray := prog_1_method_39_code
def yX5_joinByNoughts : MethodName := ⟨RX5, "joinByNoughts", "([I[III)V"⟩
abbrev cX5_part : ByteArray := prog_1_method_40_code
def yX5_part : MethodName := ⟨RX5, "part", "([III)V"⟩
abbrev cX5_copyRow : ByteArray := prog_1_method_41_code
def yX5_copyRow : MethodName := ⟨RX5, "copyRow", "([I[I)V"⟩
def RX6 : String := "CostChoicesModel"
def TX6 : u_T := fun k => match k with
  | 0 => ("CostChoicesModel", "length", "I", false)
  | 1 => ("CostChoicesModel", "text", "[I", true)
  | 2 => ("CostChoicesModel", "nodes", "I", false)
  | 3 => ("CostChoicesModel", "many", "[I", true)
  | 4 => ("CostChoicesModel", "readNodes", "I", false)
  | 5 => ("CostChoicesModel", "readMany", "[I", true)
  | 6 => ("CostChoicesModel", "read", "[I", true)
  | 7 => ("CostChoicesModel", "now", "[I", true)
  | 8 => ("CostChoicesModel", "before", "[I", true)
  | 9 => ("CostChoicesModel", "undoMany", "I", false)
  | 10 => ("CostChoicesModel", "kept", "[I", true)
  | 11 => ("CostChoicesModel", "keptMany", "I", false)
  | 12 => ("CostChoicesModel", "spot", "I", false)
  | 13 => ("CostChoicesModel", "number", "I", false)
  | 14 => ("CostChoicesModel", "costs", "[I", true)
  | 15 => ("CostChoicesModel", "tables", "[I", true)
  | 16 => ("CostChoicesModel", "tied", "[I", true)
  | 17 => ("CostChoicesModel", "order", "[I", true)
  | 18 => ("CostChoicesModel", "rules", "[I", true)
  | 19 => ("CostChoicesModel", "with", "[I", true)
  | 20 => ("CostChoicesModel", "takes", "[I", true)
  | 21 => ("CostChoicesModel", "leastAll", "I", false)
  | 22 => ("CostChoicesModel", "ways", "I", false)
  | 23 => ("CostChoicesModel", "nextAll", "I", false)
  | 24 => ("CostChoicesModel", "firstTakes", "[I", true)
  | 25 => ("CostChoicesModel", "sameTakes", "[I", true)
  | _ => ("CostChoicesModel", "held", "[I", true)
def tyX6 : Nat → FieldType := fun k => match k with
  | 0 => .int
  | 1 => .array .int
  | 2 => .int
  | 3 => .array .int
  | 4 => .int
  | 5 => .array .int
  | 6 => .array .int
  | 7 => .array .int
  | 8 => .array .int
  | 9 => .int
  | 10 => .array .int
  | 11 => .int
  | 12 => .int
  | 13 => .int
  | 14 => .array .int
  | 15 => .array .int
  | 16 => .array .int
  | 17 => .array .int
  | 18 => .array .int
  | 19 => .array .int
  | 20 => .array .int
  | 21 => .int
  | 22 => .int
  | 23 => .int
  | 24 => .array .int
  | 25 => .array .int
  | _ => .array .int
abbrev wsX60 : List Cond := u_ws RX6 TX6 27
theorem nmX6 : ∀ a, a < 27 → ∀ b, b < 27 → a ≠ b → (TX6 a).2.1 ≠ (TX6 b).2.1 := by decide +kernel
theorem tyX6_ok : ∀ k, k < 27 → parseFieldDescriptor (TX6 k).2.2.1 = some (tyX6 k) := by decide +kernel
abbrev cX6_init : ByteArray := prog_8_method_1_code
def yX6_init : MethodName := ⟨RX6, "<init>", "()V"⟩
abbrev cX6_in : ByteArray := prog_8_method_2_code
def yX6_in : MethodName := ⟨RX6, "in", "(JJJ)Z"⟩
abbrev cX6_readNone : ByteArray := prog_8_method_3_code
def yX6_readNone : MethodName := ⟨RX6, "readNone", "()V"⟩
abbrev cX6_nodeIs : ByteArray := prog_8_method_4_code
def yX6_nodeIs : MethodName := ⟨RX6, "nodeIs", "(IIIII)V"⟩
abbrev cX6_entryAt : ByteArray := prog_8_method_5_code
def yX6_entryAt : MethodName := ⟨RX6, "entryAt", "(IIII)I"⟩
abbrev cX6_tableIs : ByteArray := prog_8_method_6_code
def yX6_tableIs : MethodName := ⟨RX6, "tableIs", "(III)V"⟩
abbrev cX6_write : ByteArray := prog_8_method_7_code
def yX6_write : MethodName := ⟨RX6, "write", "(I)I"⟩
abbrev cX6_wipe : ByteArray := prog_8_method_8_code
def yX6_wipe : MethodName := ⟨RX6, "wipe", "()I"⟩
abbrev cX6_letterAt : ByteArray := prog_8_method_9_code
def yX6_letterAt : MethodName := ⟨RX6, "letterAt", "(I)I"⟩
abbrev cX6_isNumber : ByteArray := prog_8_method_10_code
def yX6_isNumber : MethodName := ⟨RX6, "isNumber", "()Z"⟩
abbrev cX6_nodeItem : ByteArray := prog_8_method_11_code
def yX6_nodeItem : MethodName := ⟨RX6, "nodeItem", "()Z"⟩
abbrev cX6_tieItem : ByteArray := prog_8_method_12_code
def yX6_tieItem : MethodName := ⟨RX6, "tieItem", "()Z"⟩
abbrev cX6_tiesIn : ByteArray := prog_8_method_13_code
def yX6_tiesIn : MethodName := ⟨RX6, "tiesIn", "([I)I"⟩
abbrev cX6_readAll : ByteArray := prog_8_method_14_code
def yX6_readAll : MethodName := ⟨RX6, "readAll", "()I"⟩
abbrev cX6_fault : ByteArray := prog_8_method_15_code
def yX6_fault : MethodName := ⟨RX6, "fault", "()I"⟩
abbrev cX6_lay : ByteArray := prog_8_method_16_code
def yX6_lay : MethodName := ⟨RX6, "lay", "()I"⟩
abbrev cX6_begin : ByteArray := prog_8_method_17_code
def yX6_begin : MethodName := ⟨RX6, "begin", "()V"⟩
abbrev cX6_isNode : ByteArray := prog_8_method_18_code
def yX6_isNode : MethodName := ⟨RX6, "isNode", "(I)Z"⟩
abbrev cX6_isChoice : ByteArray := prog_8_method_19_code
def yX6_isChoice : MethodName := ⟨RX6, "isChoice", "(II)Z"⟩
abbrev cX6_isPair : ByteArray := prog_8_method_20_code
def yX6_isPair : MethodName := ⟨RX6, "isPair", "(II)Z"⟩
abbrev cX6_isTied : ByteArray := prog_8_method_21_code
def yX6_isTied : MethodName := ⟨RX6, "isTied", "(II)Z"⟩
abbrev cX6_atMost : ByteArray := prog_8_method_22_code
def yX6_atMost : MethodName := ⟨RX6, "atMost", "(I)I"⟩
abbrev cX6_costOf : ByteArray := prog_8_method_23_code
def yX6_costOf : MethodName := ⟨RX6, "costOf", "(II)I"⟩
abbrev cX6_tieOf : ByteArray := prog_8_method_24_code
def yX6_tieOf : MethodName := ⟨RX6, "tieOf", "(IIII)I"⟩
abbrev cX6_tiedMany : ByteArray := prog_8_method_25_code
def yX6_tiedMany : MethodName := ⟨RX6, "tiedMany", "(I)I"⟩
abbrev cX6_node : ByteArray := prog_8_method_26_code
def yX6_node : MethodName := ⟨RX6, "node", "(II)I"⟩
abbrev cX6_cost : ByteArray := prog_8_method_27_code
def yX6_cost : MethodName := ⟨RX6, "cost", "(II)I"⟩
abbrev cX6_tie : ByteArray := prog_8_method_28_code
def yX6_tie : MethodName := ⟨RX6, "tie", "(IIII)I"⟩
abbrev cX6_note : ByteArray := prog_8_method_29_code
def yX6_note : MethodName := ⟨RX6, "note", "()V"⟩
abbrev cX6_price : ByteArray := prog_8_method_30_code
def yX6_price : MethodName := ⟨RX6, "price", "(III)I"⟩
abbrev cX6_table : ByteArray := prog_8_method_31_code
def yX6_table : MethodName := ⟨RX6, "table", "(IIIII)I"⟩
abbrev cX6_loose : ByteArray := prog_8_method_32_code
def yX6_loose : MethodName := ⟨RX6, "loose", "(II)I"⟩
abbrev cX6_looseNow : ByteArray := prog_8_method_33_code
def yX6_looseNow : MethodName := ⟨RX6, "looseNow", "(II)V"⟩
abbrev cX6_pin : ByteArray := prog_8_method_34_code
def yX6_pin : MethodName := ⟨RX6, "pin", "(II)I"⟩
abbrev cX6_rename : ByteArray := prog_8_method_35_code
def yX6_rename : MethodName := ⟨RX6, "rename", "(II)I"⟩
abbrev cX6_undo : ByteArray := prog_8_method_36_code
def yX6_undo : MethodName := ⟨RX6, "undo", "()I"⟩
abbrev cX6_tableAt : ByteArray := prog_8_method_37_code
def yX6_tableAt : MethodName := ⟨RX6, "tableAt", "(IIII)I"⟩
abbrev cX6_aside : ByteArray := prog_8_method_38_code
def yX6_aside : MethodName := ⟨RX6, "aside", "()V"⟩
abbrev cX6_ones : ByteArray := prog_8_method_39_code
def yX6_ones : MethodName := ⟨RX6, "ones", "(I)I"⟩
abbrev cX6_has : ByteArray := prog_8_method_40_code
def yX6_has : MethodName := ⟨RX6, "has", "(II)Z"⟩
abbrev cX6_isAhead : ByteArray := prog_8_method_41_code
def yX6_isAhead : MethodName := ⟨RX6, "isAhead", "(II)Z"⟩
abbrev cX6_nextOf : ByteArray := prog_8_method_42_code
def yX6_nextOf : MethodName := ⟨RX6, "nextOf", "(I)I"⟩
abbrev cX6_nthOf : ByteArray := prog_8_method_43_code
def yX6_nthOf : MethodName := ⟨RX6, "nthOf", "(II)I"⟩
abbrev cX6_ruleOne : ByteArray := prog_8_method_44_code
def yX6_ruleOne : MethodName := ⟨RX6, "ruleOne", "(II)V"⟩
abbrev cX6_ruleTwo : ByteArray := prog_8_method_45_code
def yX6_ruleTwo : MethodName := ⟨RX6, "ruleTwo", "(III)V"⟩
abbrev cX6_leastBeside : ByteArray := prog_8_method_46_code
def yX6_leastBeside : MethodName := ⟨RX6, "leastBeside", "(III)I"⟩
abbrev cX6_ruleThree : ByteArray := prog_8_method_47_code
def yX6_ruleThree : MethodName := ⟨RX6, "ruleThree", "(I)V"⟩
abbrev cX6_reduceAll : ByteArray := prog_8_method_48_code
def yX6_reduceAll : MethodName := ⟨RX6, "reduceAll", "()V"⟩
abbrev cX6_takeBest : ByteArray := prog_8_method_49_code
def yX6_takeBest : MethodName := ⟨RX6, "takeBest", "(II)V"⟩
abbrev cX6_planCost : ByteArray := prog_8_method_50_code
def yX6_planCost : MethodName := ⟨RX6, "planCost", "()I"⟩
abbrev cX6_turn : ByteArray := prog_8_method_51_code
def yX6_turn : MethodName := ⟨RX6, "turn", "(II)I"⟩
abbrev cX6_reduced : ByteArray := prog_8_method_52_code
def yX6_reduced : MethodName := ⟨RX6, "reduced", "(I)I"⟩
abbrev cX6_plan : ByteArray := prog_8_method_53_code
def yX6_plan : MethodName := ⟨RX6, "plan", "(I)I"⟩
abbrev cX6_goAll : ByteArray := prog_8_method_54_code
def yX6_goAll : MethodName := ⟨RX6, "goAll", "(II)V"⟩
abbrev cX6_meetPlan : ByteArray := prog_8_method_55_code
def yX6_meetPlan : MethodName := ⟨RX6, "meetPlan", "(I)V"⟩
abbrev cX6_sameSet : ByteArray := prog_8_method_56_code
def yX6_sameSet : MethodName := ⟨RX6, "sameSet", "()I"⟩
abbrev cX6_bound : ByteArray := prog_8_method_57_code
def yX6_bound : MethodName := ⟨RX6, "bound", "()I"⟩
abbrev cX6_least : ByteArray := prog_8_method_58_code
def yX6_least : MethodName := ⟨RX6, "least", "(I)I"⟩
abbrev cX6_first : ByteArray := prog_8_method_59_code
def yX6_first : MethodName := ⟨RX6, "first", "(I)I"⟩
abbrev cX6_with : ByteArray := prog_8_method_60_code
def yX6_with : MethodName := ⟨RX6, "with", "(II)I"⟩
abbrev cX6_without : ByteArray := prog_8_method_61_code
def yX6_without : MethodName := ⟨RX6, "without", "(II)I"⟩
abbrev cX6_keep : ByteArray := prog_8_method_62_code
def yX6_keep : MethodName := ⟨RX6, "keep", "()I"⟩
abbrev cX6_back : ByteArray := prog_8_method_63_code
def yX6_back : MethodName := ⟨RX6, "back", "()I"⟩
abbrev cX6_pinned : ByteArray := prog_8_method_64_code
def yX6_pinned : MethodName := ⟨RX6, "pinned", "()I"⟩
abbrev cX6_count : ByteArray := prog_8_method_65_code
def yX6_count : MethodName := ⟨RX6, "count", "(I)I"⟩
def RJ6 : String := "java/lang/Integer"
def TJ6 : u_T := fun k => match k with
  | _ => ("", "", "", false)
def tyJ6 : Nat → FieldType := fun k => match k with
  | _ => .int
abbrev wsJ60 : List Cond := u_ws RJ6 TJ6 0
theorem nmJ6 : ∀ a, a < 0 → ∀ b, b < 0 → a ≠ b → (TJ6 a).2.1 ≠ (TJ6 b).2.1 := by decide +kernel
theorem tyJ6_ok : ∀ k, k < 0 → parseFieldDescriptor (TJ6 k).2.2.1 = some (tyJ6 k) := by decide +kernel
abbrev cJ6_numberOfTrailingZeros_0f7a4 : ByteArray := prog_9_method_48_code
def yJ6_numberOfTrailingZeros_0f7a4 : MethodName := ⟨RJ6, "numberOfTrailingZeros", "(I)I"⟩
abbrev cJ6_bitCount_0f7a4 : ByteArray := prog_9_method_49_code
def yJ6_bitCount_0f7a4 : MethodName := ⟨RJ6, "bitCount", "(I)I"⟩
def RJ9 : String := "java/lang/Math"
def TJ9 : u_T := fun k => match k with
  | _ => ("", "", "", false)
def tyJ9 : Nat → FieldType := fun k => match k with
  | _ => .int
abbrev wsJ90 : List Cond := u_ws RJ9 TJ9 0
theorem nmJ9 : ∀ a, a < 0 → ∀ b, b < 0 → a ≠ b → (TJ9 a).2.1 ≠ (TJ9 b).2.1 := by decide +kernel
theorem tyJ9_ok : ∀ k, k < 0 → parseFieldDescriptor (TJ9 k).2.2.1 = some (tyJ9 k) := by decide +kernel
abbrev cJ9_min_7cf53 : ByteArray := prog_10_method_69_code
def yJ9_min_7cf53 : MethodName := ⟨RJ9, "min", "(II)I"⟩
def RJ0 : String := "java/lang/String"
def TJ0 : u_T := fun k => match k with
  | _ => ("", "", "", false)
def tyJ0 : Nat → FieldType := fun k => match k with
  | _ => .int
abbrev wsJ00 : List Cond := u_ws RJ0 TJ0 0
theorem nmJ0 : ∀ a, a < 0 → ∀ b, b < 0 → a ≠ b → (TJ0 a).2.1 ≠ (TJ0 b).2.1 := by decide +kernel
theorem tyJ0_ok : ∀ k, k < 0 → parseFieldDescriptor (TJ0 k).2.2.1 = some (tyJ0 k) := by decide +kernel
abbrev cJ0_length_8abf5 : ByteArray := prog_11_method_54_code
def yJ0_length_8abf5 : MethodName := ⟨RJ0, "length", "()I"⟩
abbrev cJ0_charAt_5068e : ByteArray := prog_11_method_56_code
def yJ0_charAt_5068e : MethodName := ⟨RJ0, "charAt", "(I)C"⟩
abbrev cJ0_coder_7d493 : ByteArray := prog_11_method_152_code
def yJ0_coder_7d493 : MethodName := ⟨RJ0, "coder", "()B"⟩
abbrev cJ0_isLatin1_aae02 : ByteArray := prog_11_method_154_code
def yJ0_isLatin1_aae02 : MethodName := ⟨RJ0, "isLatin1", "()Z"⟩
abbrev cJ0_checkIndex_df160 : ByteArray := prog_11_method_155_code
def yJ0_checkIndex_df160 : MethodName := ⟨RJ0, "checkIndex", "(II)V"⟩
def RJ1 : String := "java/lang/StringLatin1"
def TJ1 : u_T := fun k => match k with
  | _ => ("", "", "", false)
def tyJ1 : Nat → FieldType := fun k => match k with
  | _ => .int
abbrev wsJ10 : List Cond := u_ws RJ1 TJ1 0
theorem nmJ1 : ∀ a, a < 0 → ∀ b, b < 0 → a ≠ b → (TJ1 a).2.1 ≠ (TJ1 b).2.1 := by decide +kernel
theorem tyJ1_ok : ∀ k, k < 0 → parseFieldDescriptor (TJ1 k).2.2.1 = some (tyJ1 k) := by decide +kernel
abbrev cJ1_charAt_3b067 : ByteArray := prog_12_method_2_code
def yJ1_charAt_3b067 : MethodName := ⟨RJ1, "charAt", "([BI)C"⟩
def RJ2 : String := "java/lang/StringUTF16"
def TJ2 : u_T := fun k => match k with
  | _ => ("", "", "", false)
def tyJ2 : Nat → FieldType := fun k => match k with
  | _ => .int
abbrev wsJ20 : List Cond := u_ws RJ2 TJ2 0
theorem nmJ2 : ∀ a, a < 0 → ∀ b, b < 0 → a ≠ b → (TJ2 a).2.1 ≠ (TJ2 b).2.1 := by decide +kernel
theorem tyJ2_ok : ∀ k, k < 0 → parseFieldDescriptor (TJ2 k).2.2.1 = some (tyJ2 k) := by decide +kernel
abbrev cJ2_getChar_3b067 : ByteArray := prog_13_method_5_code
def yJ2_getChar_3b067 : MethodName := ⟨RJ2, "getChar", "([BI)C"⟩
abbrev cJ2_length_9d52b : ByteArray := prog_13_method_6_code
def yJ2_length_9d52b : MethodName := ⟨RJ2, "length", "([B)I"⟩
abbrev cJ2_charAt_3b067 : ByteArray := prog_13_method_83_code
def yJ2_charAt_3b067 : MethodName := ⟨RJ2, "charAt", "([BI)C"⟩
abbrev cJ2_checkIndex_2214a : ByteArray := prog_13_method_91_code
def yJ2_checkIndex_2214a : MethodName := ⟨RJ2, "checkIndex", "(I[B)V"⟩
def RJ10 : String := "java/lang/System"
def TJ10 : u_T := fun k => match k with
  | _ => ("", "", "", false)
def tyJ10 : Nat → FieldType := fun k => match k with
  | _ => .int
abbrev wsJ100 : List Cond := u_ws RJ10 TJ10 0
theorem nmJ10 : ∀ a, a < 0 → ∀ b, b < 0 → a ≠ b → (TJ10 a).2.1 ≠ (TJ10 b).2.1 := by decide +kernel
theorem tyJ10_ok : ∀ k, k < 0 → parseFieldDescriptor (TJ10 k).2.2.1 = some (tyJ10 k) := by decide +kernel
def RJ3 : String := "jdk/internal/util/Preconditions"
def TJ3 : u_T := fun k => match k with
  | _ => ("", "", "", false)
def tyJ3 : Nat → FieldType := fun k => match k with
  | _ => .int
abbrev wsJ30 : List Cond := u_ws RJ3 TJ3 0
theorem nmJ3 : ∀ a, a < 0 → ∀ b, b < 0 → a ≠ b → (TJ3 a).2.1 ≠ (TJ3 b).2.1 := by decide +kernel
theorem tyJ3_ok : ∀ k, k < 0 → parseFieldDescriptor (TJ3 k).2.2.1 = some (tyJ3 k) := by decide +kernel
abbrev cJ3_checkIndex_8e157 : ByteArray := prog_15_method_11_code
def yJ3_checkIndex_8e157 : MethodName := ⟨RJ3, "checkIndex", "(IILjava/util/function/BiFunction;)I"⟩
def RL : String := "CostChoicesLaw"
abbrev cL_law : ByteArray := code
def yL_law : MethodName := ⟨RL, "law", "([I)Z"⟩
abbrev vwCl : List vw_C := [(RX0, TX0, 7), (RX1, TX1, 4), (RX2, TX2, 7), (RX3, TX3, 9), (RX4, TX4, 5), (RX5, TX5, 17), (RX6, TX6, 27)]
