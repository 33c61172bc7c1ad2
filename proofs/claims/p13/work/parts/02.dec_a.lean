theorem dX0_init_0 : decode cX0_init 0 = .ok (.aload_n 0, 1) := by decide +kernel
theorem dX0_init_1 : decode cX0_init 1 = .ok (.invokespecial 3, 3) := by decide +kernel
theorem dX0_init_4 : decode cX0_init 4 = .ok (.aload_n 0, 1) := by decide +kernel
theorem dX0_init_5 : decode cX0_init 5 = .ok (.bipush 8, 2) := by decide +kernel
theorem dX0_init_7 : decode cX0_init 7 = .ok (.newarray .int, 2) := by decide +kernel
theorem dX0_init_9 : decode cX0_init 9 = .ok (.putfield 9, 3) := by decide +kernel
theorem dX0_init_12 : decode cX0_init 12 = .ok (.aload_n 0, 1) := by decide +kernel
theorem dX0_init_13 : decode cX0_init 13 = .ok (.bipush 8, 2) := by decide +kernel
theorem dX0_init_15 : decode cX0_init 15 = .ok (.newarray .int, 2) := by decide +kernel
theorem dX0_init_17 : decode cX0_init 17 = .ok (.putfield 15, 3) := by decide +kernel
theorem dX0_init_20 : decode cX0_init 20 = .ok (.aload_n 0, 1) := by decide +kernel
theorem dX0_init_21 : decode cX0_init 21 = .ok (.bipush 8, 2) := by decide +kernel
theorem dX0_init_23 : decode cX0_init 23 = .ok (.newarray .int, 2) := by decide +kernel
theorem dX0_init_25 : decode cX0_init 25 = .ok (.putfield 18, 3) := by decide +kernel
theorem dX0_init_28 : decode cX0_init 28 = .ok (.aload_n 0, 1) := by decide +kernel
theorem dX0_init_29 : decode cX0_init 29 = .ok (.bipush 8, 2) := by decide +kernel
theorem dX0_init_31 : decode cX0_init 31 = .ok (.newarray .int, 2) := by decide +kernel
theorem dX0_init_33 : decode cX0_init 33 = .ok (.putfield 21, 3) := by decide +kernel
theorem dX0_init_36 : decode cX0_init 36 = .ok (.aload_n 0, 1) := by decide +kernel
theorem dX0_init_37 : decode cX0_init 37 = .ok (.bipush 32, 2) := by decide +kernel
theorem dX0_init_39 : decode cX0_init 39 = .ok (.newarray .int, 2) := by decide +kernel
theorem dX0_init_41 : decode cX0_init 41 = .ok (.putfield 24, 3) := by decide +kernel
theorem dX0_init_44 : decode cX0_init 44 = .ok (.aload_n 0, 1) := by decide +kernel
theorem dX0_init_45 : decode cX0_init 45 = .ok (.sipush 448, 3) := by decide +kernel
theorem dX0_init_48 : decode cX0_init 48 = .ok (.newarray .int, 2) := by decide +kernel
theorem dX0_init_50 : decode cX0_init 50 = .ok (.putfield 27, 3) := by decide +kernel
theorem dX0_init_53 : decode cX0_init 53 = .ok (.return_, 1) := by decide +kernel
theorem dX0_copyFrom_0 : decode cX0_copyFrom 0 = .ok (.aload_n 0, 1) := by decide +kernel
theorem dX0_copyFrom_1 : decode cX0_copyFrom 1 = .ok (.aload_n 1, 1) := by decide +kernel
theorem dX0_copyFrom_2 : decode cX0_copyFrom 2 = .ok (.getfield 30, 3) := by decide +kernel
theorem dX0_copyFrom_5 : decode cX0_copyFrom 5 = .ok (.putfield 30, 3) := by decide +kernel
theorem dX0_copyFrom_8 : decode cX0_copyFrom 8 = .ok (.aload_n 1, 1) := by decide +kernel
theorem dX0_copyFrom_9 : decode cX0_copyFrom 9 = .ok (.getfield 9, 3) := by decide +kernel
theorem dX0_copyFrom_12 : decode cX0_copyFrom 12 = .ok (.aload_n 0, 1) := by decide +kernel
theorem dX0_copyFrom_13 : decode cX0_copyFrom 13 = .ok (.getfield 9, 3) := by decide +kernel
theorem dX0_copyFrom_16 : decode cX0_copyFrom 16 = .ok (.invokestatic 34, 3) := by decide +kernel
theorem dX0_copyFrom_19 : decode cX0_copyFrom 19 = .ok (.aload_n 1, 1) := by decide +kernel
theorem dX0_copyFrom_20 : decode cX0_copyFrom 20 = .ok (.getfield 15, 3) := by decide +kernel
theorem dX0_copyFrom_23 : decode cX0_copyFrom 23 = .ok (.aload_n 0, 1) := by decide +kernel
theorem dX0_copyFrom_24 : decode cX0_copyFrom 24 = .ok (.getfield 15, 3) := by decide +kernel
theorem dX0_copyFrom_27 : decode cX0_copyFrom 27 = .ok (.invokestatic 34, 3) := by decide +kernel
theorem dX0_copyFrom_30 : decode cX0_copyFrom 30 = .ok (.aload_n 1, 1) := by decide +kernel
theorem dX0_copyFrom_31 : decode cX0_copyFrom 31 = .ok (.getfield 18, 3) := by decide +kernel
theorem dX0_copyFrom_34 : decode cX0_copyFrom 34 = .ok (.aload_n 0, 1) := by decide +kernel
theorem dX0_copyFrom_35 : decode cX0_copyFrom 35 = .ok (.getfield 18, 3) := by decide +kernel
theorem dX0_copyFrom_38 : decode cX0_copyFrom 38 = .ok (.invokestatic 34, 3) := by decide +kernel
theorem dX0_copyFrom_41 : decode cX0_copyFrom 41 = .ok (.aload_n 1, 1) := by decide +kernel
theorem dX0_copyFrom_42 : decode cX0_copyFrom 42 = .ok (.getfield 21, 3) := by decide +kernel
theorem dX0_copyFrom_45 : decode cX0_copyFrom 45 = .ok (.aload_n 0, 1) := by decide +kernel
theorem dX0_copyFrom_46 : decode cX0_copyFrom 46 = .ok (.getfield 21, 3) := by decide +kernel
theorem dX0_copyFrom_49 : decode cX0_copyFrom 49 = .ok (.invokestatic 34, 3) := by decide +kernel
theorem dX0_copyFrom_52 : decode cX0_copyFrom 52 = .ok (.aload_n 1, 1) := by decide +kernel
theorem dX0_copyFrom_53 : decode cX0_copyFrom 53 = .ok (.getfield 24, 3) := by decide +kernel
theorem dX0_copyFrom_56 : decode cX0_copyFrom 56 = .ok (.aload_n 0, 1) := by decide +kernel
theorem dX0_copyFrom_57 : decode cX0_copyFrom 57 = .ok (.getfield 24, 3) := by decide +kernel
theorem dX0_copyFrom_60 : decode cX0_copyFrom 60 = .ok (.invokestatic 34, 3) := by decide +kernel
theorem dX0_copyFrom_63 : decode cX0_copyFrom 63 = .ok (.aload_n 1, 1) := by decide +kernel
theorem dX0_copyFrom_64 : decode cX0_copyFrom 64 = .ok (.getfield 27, 3) := by decide +kernel
theorem dX0_copyFrom_67 : decode cX0_copyFrom 67 = .ok (.aload_n 0, 1) := by decide +kernel
theorem dX0_copyFrom_68 : decode cX0_copyFrom 68 = .ok (.getfield 27, 3) := by decide +kernel
theorem dX0_copyFrom_71 : decode cX0_copyFrom 71 = .ok (.invokestatic 34, 3) := by decide +kernel
theorem dX0_copyFrom_74 : decode cX0_copyFrom 74 = .ok (.return_, 1) := by decide +kernel
theorem dX0_addNode_0 : decode cX0_addNode 0 = .ok (.aload_n 0, 1) := by decide +kernel
theorem dX0_addNode_1 : decode cX0_addNode 1 = .ok (.getfield 15, 3) := by decide +kernel
theorem dX0_addNode_4 : decode cX0_addNode 4 = .ok (.aload_n 0, 1) := by decide +kernel
theorem dX0_addNode_5 : decode cX0_addNode 5 = .ok (.getfield 30, 3) := by decide +kernel
theorem dX0_addNode_8 : decode cX0_addNode 8 = .ok (.iload_n 1, 1) := by decide +kernel
theorem dX0_addNode_9 : decode cX0_addNode 9 = .ok (.iastore, 1) := by decide +kernel
theorem dX0_addNode_10 : decode cX0_addNode 10 = .ok (.aload_n 0, 1) := by decide +kernel
theorem dX0_addNode_11 : decode cX0_addNode 11 = .ok (.getfield 9, 3) := by decide +kernel
theorem dX0_addNode_14 : decode cX0_addNode 14 = .ok (.aload_n 0, 1) := by decide +kernel
theorem dX0_addNode_15 : decode cX0_addNode 15 = .ok (.getfield 30, 3) := by decide +kernel
theorem dX0_addNode_18 : decode cX0_addNode 18 = .ok (.iload_n 2, 1) := by decide +kernel
theorem dX0_addNode_19 : decode cX0_addNode 19 = .ok (.iastore, 1) := by decide +kernel
theorem dX0_addNode_20 : decode cX0_addNode 20 = .ok (.aload_n 0, 1) := by decide +kernel
theorem dX0_addNode_21 : decode cX0_addNode 21 = .ok (.getfield 18, 3) := by decide +kernel
theorem dX0_addNode_24 : decode cX0_addNode 24 = .ok (.aload_n 0, 1) := by decide +kernel
theorem dX0_addNode_25 : decode cX0_addNode 25 = .ok (.getfield 30, 3) := by decide +kernel
theorem dX0_addNode_28 : decode cX0_addNode 28 = .ok (.iconst (-1), 1) := by decide +kernel
theorem dX0_addNode_29 : decode cX0_addNode 29 = .ok (.iastore, 1) := by decide +kernel
theorem dX0_addNode_30 : decode cX0_addNode 30 = .ok (.aload_n 0, 1) := by decide +kernel
theorem dX0_addNode_31 : decode cX0_addNode 31 = .ok (.getfield 21, 3) := by decide +kernel
theorem dX0_addNode_34 : decode cX0_addNode 34 = .ok (.aload_n 0, 1) := by decide +kernel
theorem dX0_addNode_35 : decode cX0_addNode 35 = .ok (.getfield 30, 3) := by decide +kernel
theorem dX0_addNode_38 : decode cX0_addNode 38 = .ok (.iconst 0, 1) := by decide +kernel
theorem dX0_addNode_39 : decode cX0_addNode 39 = .ok (.iastore, 1) := by decide +kernel
theorem dX0_addNode_40 : decode cX0_addNode 40 = .ok (.aload_n 0, 1) := by decide +kernel
theorem dX0_addNode_41 : decode cX0_addNode 41 = .ok (.dup, 1) := by decide +kernel
theorem dX0_addNode_42 : decode cX0_addNode 42 = .ok (.getfield 30, 3) := by decide +kernel
theorem dX0_addNode_45 : decode cX0_addNode 45 = .ok (.iconst 1, 1) := by decide +kernel
theorem dX0_addNode_46 : decode cX0_addNode 46 = .ok (.iadd, 1) := by decide +kernel
theorem dX0_addNode_47 : decode cX0_addNode 47 = .ok (.putfield 30, 3) := by decide +kernel
theorem dX0_addNode_50 : decode cX0_addNode 50 = .ok (.return_, 1) := by decide +kernel
theorem dX0_areTied_0 : decode cX0_areTied 0 = .ok (.aload_n 0, 1) := by decide +kernel
theorem dX0_areTied_1 : decode cX0_areTied 1 = .ok (.getfield 21, 3) := by decide +kernel
theorem dX0_areTied_4 : decode cX0_areTied 4 = .ok (.iload_n 1, 1) := by decide +kernel
theorem dX0_areTied_5 : decode cX0_areTied 5 = .ok (.iaload, 1) := by decide +kernel
theorem dX0_areTied_6 : decode cX0_areTied 6 = .ok (.iload_n 2, 1) := by decide +kernel
theorem dX0_areTied_7 : decode cX0_areTied 7 = .ok (.invokestatic 38, 3) := by decide +kernel
theorem dX0_areTied_10 : decode cX0_areTied 10 = .ok (.ireturn, 1) := by decide +kernel
theorem dX0_tieCount_0 : decode cX0_tieCount 0 = .ok (.iconst 0, 1) := by decide +kernel
theorem dX0_tieCount_1 : decode cX0_tieCount 1 = .ok (.istore_n 1, 1) := by decide +kernel
theorem dX0_tieCount_2 : decode cX0_tieCount 2 = .ok (.iconst 0, 1) := by decide +kernel
theorem dX0_tieCount_3 : decode cX0_tieCount 3 = .ok (.istore_n 2, 1) := by decide +kernel
theorem dX0_tieCount_4 : decode cX0_tieCount 4 = .ok (.iload_n 2, 1) := by decide +kernel
theorem dX0_tieCount_5 : decode cX0_tieCount 5 = .ok (.aload_n 0, 1) := by decide +kernel
theorem dX0_tieCount_6 : decode cX0_tieCount 6 = .ok (.getfield 30, 3) := by decide +kernel
theorem dX0_tieCount_9 : decode cX0_tieCount 9 = .ok (.if_icmp .ge 21, 3) := by decide +kernel
theorem dX0_tieCount_12 : decode cX0_tieCount 12 = .ok (.iload_n 1, 1) := by decide +kernel
theorem dX0_tieCount_13 : decode cX0_tieCount 13 = .ok (.aload_n 0, 1) := by decide +kernel
theorem dX0_tieCount_14 : decode cX0_tieCount 14 = .ok (.getfield 21, 3) := by decide +kernel
theorem dX0_tieCount_17 : decode cX0_tieCount 17 = .ok (.iload_n 2, 1) := by decide +kernel
theorem dX0_tieCount_18 : decode cX0_tieCount 18 = .ok (.iaload, 1) := by decide +kernel
theorem dX0_tieCount_19 : decode cX0_tieCount 19 = .ok (.invokestatic 42, 3) := by decide +kernel
theorem dX0_tieCount_22 : decode cX0_tieCount 22 = .ok (.iadd, 1) := by decide +kernel
theorem dX0_tieCount_23 : decode cX0_tieCount 23 = .ok (.istore_n 1, 1) := by decide +kernel
theorem dX0_tieCount_24 : decode cX0_tieCount 24 = .ok (.iinc 2 1, 3) := by decide +kernel
theorem dX0_tieCount_27 : decode cX0_tieCount 27 = .ok (.goto (-23), 3) := by decide +kernel
theorem dX0_tieCount_30 : decode cX0_tieCount 30 = .ok (.iload_n 1, 1) := by decide +kernel
theorem dX0_tieCount_31 : decode cX0_tieCount 31 = .ok (.iconst 2, 1) := by decide +kernel
theorem dX0_tieCount_32 : decode cX0_tieCount 32 = .ok (.idiv, 1) := by decide +kernel
theorem dX0_tieCount_33 : decode cX0_tieCount 33 = .ok (.ireturn, 1) := by decide +kernel
theorem dX0_pinCount_0 : decode cX0_pinCount 0 = .ok (.iconst 0, 1) := by decide +kernel
theorem dX0_pinCount_1 : decode cX0_pinCount 1 = .ok (.istore_n 1, 1) := by decide +kernel
theorem dX0_pinCount_2 : decode cX0_pinCount 2 = .ok (.iconst 0, 1) := by decide +kernel
theorem dX0_pinCount_3 : decode cX0_pinCount 3 = .ok (.istore_n 2, 1) := by decide +kernel
theorem dX0_pinCount_4 : decode cX0_pinCount 4 = .ok (.iload_n 2, 1) := by decide +kernel
theorem dX0_pinCount_5 : decode cX0_pinCount 5 = .ok (.aload_n 0, 1) := by decide +kernel
theorem dX0_pinCount_6 : decode cX0_pinCount 6 = .ok (.getfield 30, 3) := by decide +kernel
theorem dX0_pinCount_9 : decode cX0_pinCount 9 = .ok (.if_icmp .ge 22, 3) := by decide +kernel
theorem dX0_pinCount_12 : decode cX0_pinCount 12 = .ok (.aload_n 0, 1) := by decide +kernel
theorem dX0_pinCount_13 : decode cX0_pinCount 13 = .ok (.getfield 18, 3) := by decide +kernel
theorem dX0_pinCount_16 : decode cX0_pinCount 16 = .ok (.iload_n 2, 1) := by decide +kernel
theorem dX0_pinCount_17 : decode cX0_pinCount 17 = .ok (.iaload, 1) := by decide +kernel
theorem dX0_pinCount_18 : decode cX0_pinCount 18 = .ok (.iconst (-1), 1) := by decide +kernel
theorem dX0_pinCount_19 : decode cX0_pinCount 19 = .ok (.if_icmp .eq 6, 3) := by decide +kernel
theorem dX0_pinCount_22 : decode cX0_pinCount 22 = .ok (.iinc 1 1, 3) := by decide +kernel
theorem dX0_pinCount_25 : decode cX0_pinCount 25 = .ok (.iinc 2 1, 3) := by decide +kernel
theorem dX0_pinCount_28 : decode cX0_pinCount 28 = .ok (.goto (-24), 3) := by decide +kernel
theorem dX0_pinCount_31 : decode cX0_pinCount 31 = .ok (.iload_n 1, 1) := by decide +kernel
theorem dX0_pinCount_32 : decode cX0_pinCount 32 = .ok (.ireturn, 1) := by decide +kernel
theorem dX0_choiceCost_0 : decode cX0_choiceCost 0 = .ok (.aload_n 0, 1) := by decide +kernel
theorem dX0_choiceCost_1 : decode cX0_choiceCost 1 = .ok (.getfield 18, 3) := by decide +kernel
theorem dX0_choiceCost_4 : decode cX0_choiceCost 4 = .ok (.iload_n 1, 1) := by decide +kernel
theorem dX0_choiceCost_5 : decode cX0_choiceCost 5 = .ok (.iaload, 1) := by decide +kernel
theorem dX0_choiceCost_6 : decode cX0_choiceCost 6 = .ok (.iconst (-1), 1) := by decide +kernel
theorem dX0_choiceCost_7 : decode cX0_choiceCost 7 = .ok (.if_icmp .eq 16, 3) := by decide +kernel
theorem dX0_choiceCost_10 : decode cX0_choiceCost 10 = .ok (.aload_n 0, 1) := by decide +kernel
theorem dX0_choiceCost_11 : decode cX0_choiceCost 11 = .ok (.getfield 18, 3) := by decide +kernel
theorem dX0_choiceCost_14 : decode cX0_choiceCost 14 = .ok (.iload_n 1, 1) := by decide +kernel
theorem dX0_choiceCost_15 : decode cX0_choiceCost 15 = .ok (.iaload, 1) := by decide +kernel
theorem dX0_choiceCost_16 : decode cX0_choiceCost 16 = .ok (.iload_n 2, 1) := by decide +kernel
theorem dX0_choiceCost_17 : decode cX0_choiceCost 17 = .ok (.if_icmp .eq 6, 3) := by decide +kernel
theorem dX0_choiceCost_20 : decode cX0_choiceCost 20 = .ok (.ldc 48, 2) := by decide +kernel
theorem dX0_choiceCost_22 : decode cX0_choiceCost 22 = .ok (.ireturn, 1) := by decide +kernel
theorem dX0_choiceCost_23 : decode cX0_choiceCost 23 = .ok (.aload_n 0, 1) := by decide +kernel
theorem dX0_choiceCost_24 : decode cX0_choiceCost 24 = .ok (.getfield 24, 3) := by decide +kernel
theorem dX0_choiceCost_27 : decode cX0_choiceCost 27 = .ok (.iload_n 1, 1) := by decide +kernel
theorem dX0_choiceCost_28 : decode cX0_choiceCost 28 = .ok (.iload_n 2, 1) := by decide +kernel
theorem dX0_choiceCost_29 : decode cX0_choiceCost 29 = .ok (.invokestatic 49, 3) := by decide +kernel
theorem dX0_choiceCost_32 : decode cX0_choiceCost 32 = .ok (.iaload, 1) := by decide +kernel
theorem dX0_choiceCost_33 : decode cX0_choiceCost 33 = .ok (.istore_n 3, 1) := by decide +kernel
theorem dX0_choiceCost_34 : decode cX0_choiceCost 34 = .ok (.iload_n 3, 1) := by decide +kernel
theorem dX0_choiceCost_35 : decode cX0_choiceCost 35 = .ok (.bipush 99, 2) := by decide +kernel
theorem dX0_choiceCost_37 : decode cX0_choiceCost 37 = .ok (.if_icmp .ne 8, 3) := by decide +kernel
theorem dX0_choiceCost_40 : decode cX0_choiceCost 40 = .ok (.ldc 48, 2) := by decide +kernel
theorem dX0_choiceCost_42 : decode cX0_choiceCost 42 = .ok (.goto 4, 3) := by decide +kernel
theorem dX0_choiceCost_45 : decode cX0_choiceCost 45 = .ok (.iload_n 3, 1) := by decide +kernel
theorem dX0_choiceCost_46 : decode cX0_choiceCost 46 = .ok (.istore 4, 2) := by decide +kernel
theorem dX0_choiceCost_48 : decode cX0_choiceCost 48 = .ok (.aload_n 0, 1) := by decide +kernel
theorem dX0_choiceCost_49 : decode cX0_choiceCost 49 = .ok (.getfield 15, 3) := by decide +kernel
theorem dX0_choiceCost_52 : decode cX0_choiceCost 52 = .ok (.iload_n 1, 1) := by decide +kernel
theorem dX0_choiceCost_53 : decode cX0_choiceCost 53 = .ok (.iaload, 1) := by decide +kernel
theorem dX0_choiceCost_54 : decode cX0_choiceCost 54 = .ok (.tableswitch 61 1 3 #[26, 34, 42], 26) := by decide +kernel
theorem dX0_choiceCost_80 : decode cX0_choiceCost 80 = .ok (.iconst 2, 1) := by decide +kernel
theorem dX0_choiceCost_81 : decode cX0_choiceCost 81 = .ok (.iload 4, 2) := by decide +kernel
theorem dX0_choiceCost_83 : decode cX0_choiceCost 83 = .ok (.imul, 1) := by decide +kernel
theorem dX0_choiceCost_84 : decode cX0_choiceCost 84 = .ok (.invokestatic 53, 3) := by decide +kernel
theorem dX0_choiceCost_87 : decode cX0_choiceCost 87 = .ok (.ireturn, 1) := by decide +kernel
theorem dX0_choiceCost_88 : decode cX0_choiceCost 88 = .ok (.iload 4, 2) := by decide +kernel
theorem dX0_choiceCost_90 : decode cX0_choiceCost 90 = .ok (.iload_n 2, 1) := by decide +kernel
theorem dX0_choiceCost_91 : decode cX0_choiceCost 91 = .ok (.iadd, 1) := by decide +kernel
theorem dX0_choiceCost_92 : decode cX0_choiceCost 92 = .ok (.invokestatic 53, 3) := by decide +kernel
theorem dX0_choiceCost_95 : decode cX0_choiceCost 95 = .ok (.ireturn, 1) := by decide +kernel
theorem dX0_choiceCost_96 : decode cX0_choiceCost 96 = .ok (.iconst 2, 1) := by decide +kernel
theorem dX0_choiceCost_97 : decode cX0_choiceCost 97 = .ok (.iload 4, 2) := by decide +kernel
theorem dX0_choiceCost_99 : decode cX0_choiceCost 99 = .ok (.imul, 1) := by decide +kernel
theorem dX0_choiceCost_100 : decode cX0_choiceCost 100 = .ok (.bipush 20, 2) := by decide +kernel
theorem dX0_choiceCost_102 : decode cX0_choiceCost 102 = .ok (.if_icmp .le 8, 3) := by decide +kernel
theorem dX0_choiceCost_105 : decode cX0_choiceCost 105 = .ok (.ldc 48, 2) := by decide +kernel
theorem dX0_choiceCost_107 : decode cX0_choiceCost 107 = .ok (.goto 7, 3) := by decide +kernel
theorem dX0_choiceCost_110 : decode cX0_choiceCost 110 = .ok (.iconst 2, 1) := by decide +kernel
theorem dX0_choiceCost_111 : decode cX0_choiceCost 111 = .ok (.iload 4, 2) := by decide +kernel
theorem dX0_choiceCost_113 : decode cX0_choiceCost 113 = .ok (.imul, 1) := by decide +kernel
theorem dX0_choiceCost_114 : decode cX0_choiceCost 114 = .ok (.ireturn, 1) := by decide +kernel
theorem dX0_choiceCost_115 : decode cX0_choiceCost 115 = .ok (.iload 4, 2) := by decide +kernel
theorem dX0_choiceCost_117 : decode cX0_choiceCost 117 = .ok (.ireturn, 1) := by decide +kernel
theorem dX0_tieCost_0 : decode cX0_tieCost 0 = .ok (.aload_n 0, 1) := by decide +kernel
theorem dX0_tieCost_1 : decode cX0_tieCost 1 = .ok (.getfield 27, 3) := by decide +kernel
theorem dX0_tieCost_4 : decode cX0_tieCost 4 = .ok (.iload_n 1, 1) := by decide +kernel
theorem dX0_tieCost_5 : decode cX0_tieCost 5 = .ok (.iload_n 2, 1) := by decide +kernel
theorem dX0_tieCost_6 : decode cX0_tieCost 6 = .ok (.iload_n 3, 1) := by decide +kernel
theorem dX0_tieCost_7 : decode cX0_tieCost 7 = .ok (.iload 4, 2) := by decide +kernel
theorem dX0_tieCost_9 : decode cX0_tieCost 9 = .ok (.invokestatic 56, 3) := by decide +kernel
theorem dX0_tieCost_12 : decode cX0_tieCost 12 = .ok (.iaload, 1) := by decide +kernel
theorem dX0_tieCost_13 : decode cX0_tieCost 13 = .ok (.istore 5, 2) := by decide +kernel
theorem dX0_tieCost_15 : decode cX0_tieCost 15 = .ok (.iload 5, 2) := by decide +kernel
theorem dX0_tieCost_17 : decode cX0_tieCost 17 = .ok (.bipush 9, 2) := by decide +kernel
theorem dX0_tieCost_19 : decode cX0_tieCost 19 = .ok (.if_icmp .ne 8, 3) := by decide +kernel
theorem dX0_tieCost_22 : decode cX0_tieCost 22 = .ok (.ldc 48, 2) := by decide +kernel
theorem dX0_tieCost_24 : decode cX0_tieCost 24 = .ok (.goto 5, 3) := by decide +kernel
theorem dX0_tieCost_27 : decode cX0_tieCost 27 = .ok (.iload 5, 2) := by decide +kernel
theorem dX0_tieCost_29 : decode cX0_tieCost 29 = .ok (.ireturn, 1) := by decide +kernel
theorem dX1_init_0 : decode cX1_init 0 = .ok (.aload_n 0, 1) := by decide +kernel
theorem dX1_init_1 : decode cX1_init 1 = .ok (.invokespecial 3, 3) := by decide +kernel
theorem dX1_init_4 : decode cX1_init 4 = .ok (.aload_n 0, 1) := by decide +kernel
theorem dX1_init_5 : decode cX1_init 5 = .ok (.aload_n 1, 1) := by decide +kernel
theorem dX1_init_6 : decode cX1_init 6 = .ok (.putfield 9, 3) := by decide +kernel
theorem dX1_init_9 : decode cX1_init 9 = .ok (.aload_n 0, 1) := by decide +kernel
theorem dX1_init_10 : decode cX1_init 10 = .ok (.aload_n 2, 1) := by decide +kernel
theorem dX1_init_11 : decode cX1_init 11 = .ok (.putfield 15, 3) := by decide +kernel
theorem dX1_init_14 : decode cX1_init 14 = .ok (.return_, 1) := by decide +kernel
theorem dX1_read_0 : decode cX1_read 0 = .ok (.aload_n 0, 1) := by decide +kernel
theorem dX1_read_1 : decode cX1_read 1 = .ok (.iload_n 1, 1) := by decide +kernel
theorem dX1_read_2 : decode cX1_read 2 = .ok (.aload_n 0, 1) := by decide +kernel
theorem dX1_read_3 : decode cX1_read 3 = .ok (.getfield 9, 3) := by decide +kernel
theorem dX1_read_6 : decode cX1_read 6 = .ok (.arraylength, 1) := by decide +kernel
theorem dX1_read_7 : decode cX1_read 7 = .ok (.invokestatic 19, 3) := by decide +kernel
theorem dX1_read_10 : decode cX1_read 10 = .ok (.putfield 25, 3) := by decide +kernel
theorem dX1_read_13 : decode cX1_read 13 = .ok (.aload_n 0, 1) := by decide +kernel
theorem dX1_read_14 : decode cX1_read 14 = .ok (.iconst 0, 1) := by decide +kernel
theorem dX1_read_15 : decode cX1_read 15 = .ok (.putfield 29, 3) := by decide +kernel
theorem dX1_read_18 : decode cX1_read 18 = .ok (.aload_n 0, 1) := by decide +kernel
theorem dX1_read_19 : decode cX1_read 19 = .ok (.getfield 15, 3) := by decide +kernel
theorem dX1_read_22 : decode cX1_read 22 = .ok (.iconst 0, 1) := by decide +kernel
theorem dX1_read_23 : decode cX1_read 23 = .ok (.putfield 32, 3) := by decide +kernel
theorem dX1_read_26 : decode cX1_read 26 = .ok (.iconst 0, 1) := by decide +kernel
theorem dX1_read_27 : decode cX1_read 27 = .ok (.istore_n 2, 1) := by decide +kernel
theorem dX1_read_28 : decode cX1_read 28 = .ok (.iload_n 2, 1) := by decide +kernel
theorem dX1_read_29 : decode cX1_read 29 = .ok (.sipush 200, 3) := by decide +kernel
theorem dX1_read_32 : decode cX1_read 32 = .ok (.if_icmp .ge 34, 3) := by decide +kernel
theorem dX1_read_35 : decode cX1_read 35 = .ok (.aload_n 0, 1) := by decide +kernel
theorem dX1_read_36 : decode cX1_read 36 = .ok (.getfield 29, 3) := by decide +kernel
theorem dX1_read_39 : decode cX1_read 39 = .ok (.aload_n 0, 1) := by decide +kernel
theorem dX1_read_40 : decode cX1_read 40 = .ok (.getfield 25, 3) := by decide +kernel
theorem dX1_read_43 : decode cX1_read 43 = .ok (.if_icmp .ge 23, 3) := by decide +kernel
theorem dX1_read_46 : decode cX1_read 46 = .ok (.aload_n 0, 1) := by decide +kernel
theorem dX1_read_47 : decode cX1_read 47 = .ok (.getfield 29, 3) := by decide +kernel
theorem dX1_read_50 : decode cX1_read 50 = .ok (.istore_n 3, 1) := by decide +kernel
theorem dX1_read_51 : decode cX1_read 51 = .ok (.aload_n 0, 1) := by decide +kernel
theorem dX1_read_52 : decode cX1_read 52 = .ok (.invokevirtual 37, 3) := by decide +kernel
theorem dX1_read_55 : decode cX1_read 55 = .ok (.ifCond .ne 5, 3) := by decide +kernel
theorem dX1_read_58 : decode cX1_read 58 = .ok (.iload_n 3, 1) := by decide +kernel
theorem dX1_read_59 : decode cX1_read 59 = .ok (.ireturn, 1) := by decide +kernel
theorem dX1_read_60 : decode cX1_read 60 = .ok (.iinc 2 1, 3) := by decide +kernel
theorem dX1_read_63 : decode cX1_read 63 = .ok (.goto (-35), 3) := by decide +kernel
theorem dX1_read_66 : decode cX1_read 66 = .ok (.bipush (-4), 2) := by decide +kernel
theorem dX1_read_68 : decode cX1_read 68 = .ok (.ireturn, 1) := by decide +kernel
theorem dX1_readItem_0 : decode cX1_readItem 0 = .ok (.aload_n 0, 1) := by decide +kernel
theorem dX1_readItem_1 : decode cX1_readItem 1 = .ok (.bipush 110, 2) := by decide +kernel
theorem dX1_readItem_3 : decode cX1_readItem 3 = .ok (.invokevirtual 41, 3) := by decide +kernel
theorem dX1_readItem_6 : decode cX1_readItem 6 = .ok (.ifCond .eq 8, 3) := by decide +kernel
theorem dX1_readItem_9 : decode cX1_readItem 9 = .ok (.aload_n 0, 1) := by decide +kernel
theorem dX1_readItem_10 : decode cX1_readItem 10 = .ok (.invokevirtual 45, 3) := by decide +kernel
theorem dX1_readItem_13 : decode cX1_readItem 13 = .ok (.ireturn, 1) := by decide +kernel
theorem dX1_readItem_14 : decode cX1_readItem 14 = .ok (.aload_n 0, 1) := by decide +kernel
theorem dX1_readItem_15 : decode cX1_readItem 15 = .ok (.bipush 101, 2) := by decide +kernel
theorem dX1_readItem_17 : decode cX1_readItem 17 = .ok (.invokevirtual 41, 3) := by decide +kernel
theorem dX1_readItem_20 : decode cX1_readItem 20 = .ok (.ifCond .eq 14, 3) := by decide +kernel
theorem dX1_readItem_23 : decode cX1_readItem 23 = .ok (.aload_n 0, 1) := by decide +kernel
theorem dX1_readItem_24 : decode cX1_readItem 24 = .ok (.invokevirtual 48, 3) := by decide +kernel
theorem dX1_readItem_27 : decode cX1_readItem 27 = .ok (.ifCond .eq 7, 3) := by decide +kernel
theorem dX1_readItem_30 : decode cX1_readItem 30 = .ok (.iconst 1, 1) := by decide +kernel
theorem dX1_readItem_31 : decode cX1_readItem 31 = .ok (.goto 4, 3) := by decide +kernel
theorem dX1_readItem_34 : decode cX1_readItem 34 = .ok (.iconst 0, 1) := by decide +kernel
theorem dX1_readItem_35 : decode cX1_readItem 35 = .ok (.ireturn, 1) := by decide +kernel
theorem dX1_readNode_0 : decode cX1_readNode 0 = .ok (.aload_n 0, 1) := by decide +kernel
theorem dX1_readNode_1 : decode cX1_readNode 1 = .ok (.getfield 15, 3) := by decide +kernel
theorem dX1_readNode_4 : decode cX1_readNode 4 = .ok (.getfield 32, 3) := by decide +kernel
theorem dX1_readNode_7 : decode cX1_readNode 7 = .ok (.istore_n 1, 1) := by decide +kernel
theorem dX1_readNode_8 : decode cX1_readNode 8 = .ok (.aload_n 0, 1) := by decide +kernel
theorem dX1_readNode_9 : decode cX1_readNode 9 = .ok (.invokevirtual 51, 3) := by decide +kernel
theorem dX1_readNode_12 : decode cX1_readNode 12 = .ok (.istore_n 2, 1) := by decide +kernel
theorem dX1_readNode_13 : decode cX1_readNode 13 = .ok (.iload_n 1, 1) := by decide +kernel
theorem dX1_readNode_14 : decode cX1_readNode 14 = .ok (.bipush 8, 2) := by decide +kernel
theorem dX1_readNode_16 : decode cX1_readNode 16 = .ok (.if_icmp .ge 12, 3) := by decide +kernel
theorem dX1_readNode_19 : decode cX1_readNode 19 = .ok (.iload_n 2, 1) := by decide +kernel
theorem dX1_readNode_20 : decode cX1_readNode 20 = .ok (.iconst 0, 1) := by decide +kernel
theorem dX1_readNode_21 : decode cX1_readNode 21 = .ok (.iconst 3, 1) := by decide +kernel
theorem dX1_readNode_22 : decode cX1_readNode 22 = .ok (.invokestatic 55, 3) := by decide +kernel
theorem dX1_readNode_25 : decode cX1_readNode 25 = .ok (.ifCond .ne 5, 3) := by decide +kernel
theorem dX1_readNode_28 : decode cX1_readNode 28 = .ok (.iconst 0, 1) := by decide +kernel
theorem dX1_readNode_29 : decode cX1_readNode 29 = .ok (.ireturn, 1) := by decide +kernel
theorem dX1_readNode_30 : decode cX1_readNode 30 = .ok (.iconst 0, 1) := by decide +kernel
theorem dX1_readNode_31 : decode cX1_readNode 31 = .ok (.istore_n 3, 1) := by decide +kernel
theorem dX1_readNode_32 : decode cX1_readNode 32 = .ok (.iconst 0, 1) := by decide +kernel
theorem dX1_readNode_33 : decode cX1_readNode 33 = .ok (.istore 4, 2) := by decide +kernel
theorem dX1_readNode_35 : decode cX1_readNode 35 = .ok (.iload 4, 2) := by decide +kernel
theorem dX1_readNode_37 : decode cX1_readNode 37 = .ok (.iconst 4, 1) := by decide +kernel
theorem dX1_readNode_38 : decode cX1_readNode 38 = .ok (.if_icmp .ge 50, 3) := by decide +kernel
theorem dX1_readNode_41 : decode cX1_readNode 41 = .ok (.aload_n 0, 1) := by decide +kernel
theorem dX1_readNode_42 : decode cX1_readNode 42 = .ok (.bipush 44, 2) := by decide +kernel
theorem dX1_readNode_44 : decode cX1_readNode 44 = .ok (.invokevirtual 41, 3) := by decide +kernel
theorem dX1_readNode_47 : decode cX1_readNode 47 = .ok (.ifCond .eq 41, 3) := by decide +kernel
theorem dX1_readNode_50 : decode cX1_readNode 50 = .ok (.aload_n 0, 1) := by decide +kernel
theorem dX1_readNode_51 : decode cX1_readNode 51 = .ok (.invokevirtual 51, 3) := by decide +kernel
theorem dX1_readNode_54 : decode cX1_readNode 54 = .ok (.istore 5, 2) := by decide +kernel
theorem dX1_readNode_56 : decode cX1_readNode 56 = .ok (.iload 5, 2) := by decide +kernel
theorem dX1_readNode_58 : decode cX1_readNode 58 = .ok (.ifCond .ge 5, 3) := by decide +kernel
theorem dX1_readNode_61 : decode cX1_readNode 61 = .ok (.iconst 0, 1) := by decide +kernel
theorem dX1_readNode_62 : decode cX1_readNode 62 = .ok (.ireturn, 1) := by decide +kernel
theorem dX1_readNode_63 : decode cX1_readNode 63 = .ok (.aload_n 0, 1) := by decide +kernel
theorem dX1_readNode_64 : decode cX1_readNode 64 = .ok (.getfield 15, 3) := by decide +kernel
theorem dX1_readNode_67 : decode cX1_readNode 67 = .ok (.getfield 59, 3) := by decide +kernel
theorem dX1_readNode_70 : decode cX1_readNode 70 = .ok (.iload_n 1, 1) := by decide +kernel
theorem dX1_readNode_71 : decode cX1_readNode 71 = .ok (.iload 4, 2) := by decide +kernel
theorem dX1_readNode_73 : decode cX1_readNode 73 = .ok (.invokestatic 63, 3) := by decide +kernel
theorem dX1_readNode_76 : decode cX1_readNode 76 = .ok (.iload 5, 2) := by decide +kernel
theorem dX1_readNode_78 : decode cX1_readNode 78 = .ok (.iastore, 1) := by decide +kernel
theorem dX1_readNode_79 : decode cX1_readNode 79 = .ok (.iinc 3 1, 3) := by decide +kernel
theorem dX1_readNode_82 : decode cX1_readNode 82 = .ok (.iinc 4 1, 3) := by decide +kernel
theorem dX1_readNode_85 : decode cX1_readNode 85 = .ok (.goto (-50), 3) := by decide +kernel
theorem dX1_readNode_88 : decode cX1_readNode 88 = .ok (.iload_n 3, 1) := by decide +kernel
theorem dX1_readNode_89 : decode cX1_readNode 89 = .ok (.ifCond .eq 12, 3) := by decide +kernel
theorem dX1_readNode_92 : decode cX1_readNode 92 = .ok (.aload_n 0, 1) := by decide +kernel
theorem dX1_readNode_93 : decode cX1_readNode 93 = .ok (.bipush 59, 2) := by decide +kernel
theorem dX1_readNode_95 : decode cX1_readNode 95 = .ok (.invokevirtual 41, 3) := by decide +kernel
theorem dX1_readNode_98 : decode cX1_readNode 98 = .ok (.ifCond .ne 5, 3) := by decide +kernel
theorem dX1_readNode_101 : decode cX1_readNode 101 = .ok (.iconst 0, 1) := by decide +kernel
theorem dX1_readNode_102 : decode cX1_readNode 102 = .ok (.ireturn, 1) := by decide +kernel
theorem dX1_readNode_103 : decode cX1_readNode 103 = .ok (.aload_n 0, 1) := by decide +kernel
theorem dX1_readNode_104 : decode cX1_readNode 104 = .ok (.getfield 15, 3) := by decide +kernel
theorem dX1_readNode_107 : decode cX1_readNode 107 = .ok (.iload_n 2, 1) := by decide +kernel
theorem dX1_readNode_108 : decode cX1_readNode 108 = .ok (.iload_n 3, 1) := by decide +kernel
theorem dX1_readNode_109 : decode cX1_readNode 109 = .ok (.invokevirtual 66, 3) := by decide +kernel
theorem dX1_readNode_112 : decode cX1_readNode 112 = .ok (.iconst 1, 1) := by decide +kernel
theorem dX1_readNode_113 : decode cX1_readNode 113 = .ok (.ireturn, 1) := by decide +kernel
theorem dX1_readTie_0 : decode cX1_readTie 0 = .ok (.aload_n 0, 1) := by decide +kernel
theorem dX1_readTie_1 : decode cX1_readTie 1 = .ok (.invokevirtual 51, 3) := by decide +kernel
theorem dX1_readTie_4 : decode cX1_readTie 4 = .ok (.istore_n 1, 1) := by decide +kernel
theorem dX1_readTie_5 : decode cX1_readTie 5 = .ok (.iload_n 1, 1) := by decide +kernel
theorem dX1_readTie_6 : decode cX1_readTie 6 = .ok (.ifCond .lt 12, 3) := by decide +kernel
theorem dX1_readTie_9 : decode cX1_readTie 9 = .ok (.aload_n 0, 1) := by decide +kernel
theorem dX1_readTie_10 : decode cX1_readTie 10 = .ok (.bipush 44, 2) := by decide +kernel
theorem dX1_readTie_12 : decode cX1_readTie 12 = .ok (.invokevirtual 41, 3) := by decide +kernel
theorem dX1_readTie_15 : decode cX1_readTie 15 = .ok (.ifCond .ne 5, 3) := by decide +kernel
theorem dX1_readTie_18 : decode cX1_readTie 18 = .ok (.iconst 0, 1) := by decide +kernel
theorem dX1_readTie_19 : decode cX1_readTie 19 = .ok (.ireturn, 1) := by decide +kernel
theorem dX1_readTie_20 : decode cX1_readTie 20 = .ok (.aload_n 0, 1) := by decide +kernel
theorem dX1_readTie_21 : decode cX1_readTie 21 = .ok (.invokevirtual 51, 3) := by decide +kernel
theorem dX1_readTie_24 : decode cX1_readTie 24 = .ok (.istore_n 2, 1) := by decide +kernel
theorem dX1_readTie_25 : decode cX1_readTie 25 = .ok (.iload_n 2, 1) := by decide +kernel
theorem dX1_readTie_26 : decode cX1_readTie 26 = .ok (.iload_n 1, 1) := by decide +kernel
theorem dX1_readTie_27 : decode cX1_readTie 27 = .ok (.if_icmp .le 23, 3) := by decide +kernel
theorem dX1_readTie_30 : decode cX1_readTie 30 = .ok (.iload_n 2, 1) := by decide +kernel
theorem dX1_readTie_31 : decode cX1_readTie 31 = .ok (.aload_n 0, 1) := by decide +kernel
theorem dX1_readTie_32 : decode cX1_readTie 32 = .ok (.getfield 15, 3) := by decide +kernel
theorem dX1_readTie_35 : decode cX1_readTie 35 = .ok (.getfield 32, 3) := by decide +kernel
theorem dX1_readTie_38 : decode cX1_readTie 38 = .ok (.if_icmp .ge 12, 3) := by decide +kernel
theorem dX1_readTie_41 : decode cX1_readTie 41 = .ok (.aload_n 0, 1) := by decide +kernel
theorem dX1_readTie_42 : decode cX1_readTie 42 = .ok (.bipush 44, 2) := by decide +kernel
theorem dX1_readTie_44 : decode cX1_readTie 44 = .ok (.invokevirtual 41, 3) := by decide +kernel
theorem dX1_readTie_47 : decode cX1_readTie 47 = .ok (.ifCond .ne 5, 3) := by decide +kernel
theorem dX1_readTie_50 : decode cX1_readTie 50 = .ok (.iconst 0, 1) := by decide +kernel
theorem dX1_readTie_51 : decode cX1_readTie 51 = .ok (.ireturn, 1) := by decide +kernel
theorem dX1_readTie_52 : decode cX1_readTie 52 = .ok (.aload_n 0, 1) := by decide +kernel
theorem dX1_readTie_53 : decode cX1_readTie 53 = .ok (.getfield 15, 3) := by decide +kernel
theorem dX1_readTie_56 : decode cX1_readTie 56 = .ok (.iload_n 1, 1) := by decide +kernel
theorem dX1_readTie_57 : decode cX1_readTie 57 = .ok (.iload_n 2, 1) := by decide +kernel
theorem dX1_readTie_58 : decode cX1_readTie 58 = .ok (.invokevirtual 70, 3) := by decide +kernel
theorem dX1_readTie_61 : decode cX1_readTie 61 = .ok (.ifCond .ne 15, 3) := by decide +kernel
theorem dX1_readTie_64 : decode cX1_readTie 64 = .ok (.aload_n 0, 1) := by decide +kernel
theorem dX1_readTie_65 : decode cX1_readTie 65 = .ok (.getfield 15, 3) := by decide +kernel
theorem dX1_readTie_68 : decode cX1_readTie 68 = .ok (.invokevirtual 74, 3) := by decide +kernel
theorem dX1_readTie_71 : decode cX1_readTie 71 = .ok (.bipush 12, 2) := by decide +kernel
theorem dX1_readTie_73 : decode cX1_readTie 73 = .ok (.if_icmp .lt 5, 3) := by decide +kernel
theorem dX1_readTie_76 : decode cX1_readTie 76 = .ok (.iconst 0, 1) := by decide +kernel
theorem dX1_readTie_77 : decode cX1_readTie 77 = .ok (.ireturn, 1) := by decide +kernel
theorem dX1_readTie_78 : decode cX1_readTie 78 = .ok (.aload_n 0, 1) := by decide +kernel
theorem dX1_readTie_79 : decode cX1_readTie 79 = .ok (.getfield 15, 3) := by decide +kernel
theorem dX1_readTie_82 : decode cX1_readTie 82 = .ok (.getfield 77, 3) := by decide +kernel
theorem dX1_readTie_85 : decode cX1_readTie 85 = .ok (.aload_n 0, 1) := by decide +kernel
theorem dX1_readTie_86 : decode cX1_readTie 86 = .ok (.getfield 15, 3) := by decide +kernel
theorem dX1_readTie_89 : decode cX1_readTie 89 = .ok (.getfield 80, 3) := by decide +kernel
theorem dX1_readTie_92 : decode cX1_readTie 92 = .ok (.iload_n 1, 1) := by decide +kernel
theorem dX1_readTie_93 : decode cX1_readTie 93 = .ok (.iload_n 2, 1) := by decide +kernel
theorem dX1_readTie_94 : decode cX1_readTie 94 = .ok (.invokestatic 83, 3) := by decide +kernel
theorem dX1_readTie_97 : decode cX1_readTie 97 = .ok (.aload_n 0, 1) := by decide +kernel
theorem dX1_readTie_98 : decode cX1_readTie 98 = .ok (.iload_n 1, 1) := by decide +kernel
theorem dX1_readTie_99 : decode cX1_readTie 99 = .ok (.iload_n 2, 1) := by decide +kernel
theorem dX1_readTie_100 : decode cX1_readTie 100 = .ok (.invokevirtual 87, 3) := by decide +kernel
theorem dX1_readTie_103 : decode cX1_readTie 103 = .ok (.ifCond .eq 16, 3) := by decide +kernel
theorem dX1_readTie_106 : decode cX1_readTie 106 = .ok (.aload_n 0, 1) := by decide +kernel
theorem dX1_readTie_107 : decode cX1_readTie 107 = .ok (.bipush 59, 2) := by decide +kernel
theorem dX1_readTie_109 : decode cX1_readTie 109 = .ok (.invokevirtual 41, 3) := by decide +kernel
theorem dX1_readTie_112 : decode cX1_readTie 112 = .ok (.ifCond .eq 7, 3) := by decide +kernel
theorem dX1_readTie_115 : decode cX1_readTie 115 = .ok (.iconst 1, 1) := by decide +kernel
theorem dX1_readTie_116 : decode cX1_readTie 116 = .ok (.goto 4, 3) := by decide +kernel
theorem dX1_readTie_119 : decode cX1_readTie 119 = .ok (.iconst 0, 1) := by decide +kernel
theorem dX1_readTie_120 : decode cX1_readTie 120 = .ok (.ireturn, 1) := by decide +kernel
theorem dX1_readTable_0 : decode cX1_readTable 0 = .ok (.iconst 0, 1) := by decide +kernel
theorem dX1_readTable_1 : decode cX1_readTable 1 = .ok (.istore_n 3, 1) := by decide +kernel
theorem dX1_readTable_2 : decode cX1_readTable 2 = .ok (.iload_n 3, 1) := by decide +kernel
theorem dX1_readTable_3 : decode cX1_readTable 3 = .ok (.aload_n 0, 1) := by decide +kernel
theorem dX1_readTable_4 : decode cX1_readTable 4 = .ok (.getfield 15, 3) := by decide +kernel
theorem dX1_readTable_7 : decode cX1_readTable 7 = .ok (.getfield 90, 3) := by decide +kernel
theorem dX1_readTable_10 : decode cX1_readTable 10 = .ok (.iload_n 1, 1) := by decide +kernel
theorem dX1_readTable_11 : decode cX1_readTable 11 = .ok (.iaload, 1) := by decide +kernel
theorem dX1_readTable_12 : decode cX1_readTable 12 = .ok (.if_icmp .ge 63, 3) := by decide +kernel
theorem dX1_readTable_15 : decode cX1_readTable 15 = .ok (.iconst 0, 1) := by decide +kernel
theorem dX1_readTable_16 : decode cX1_readTable 16 = .ok (.istore 4, 2) := by decide +kernel
theorem dX1_readTable_18 : decode cX1_readTable 18 = .ok (.iload 4, 2) := by decide +kernel
theorem dX1_readTable_20 : decode cX1_readTable 20 = .ok (.aload_n 0, 1) := by decide +kernel
theorem dX1_readTable_21 : decode cX1_readTable 21 = .ok (.getfield 15, 3) := by decide +kernel
theorem dX1_readTable_24 : decode cX1_readTable 24 = .ok (.getfield 90, 3) := by decide +kernel
theorem dX1_readTable_27 : decode cX1_readTable 27 = .ok (.iload_n 2, 1) := by decide +kernel
theorem dX1_readTable_28 : decode cX1_readTable 28 = .ok (.iaload, 1) := by decide +kernel
theorem dX1_readTable_29 : decode cX1_readTable 29 = .ok (.if_icmp .ge 40, 3) := by decide +kernel
theorem dX1_readTable_32 : decode cX1_readTable 32 = .ok (.aload_n 0, 1) := by decide +kernel
theorem dX1_readTable_33 : decode cX1_readTable 33 = .ok (.invokevirtual 93, 3) := by decide +kernel
theorem dX1_readTable_36 : decode cX1_readTable 36 = .ok (.istore 5, 2) := by decide +kernel
theorem dX1_readTable_38 : decode cX1_readTable 38 = .ok (.iload 5, 2) := by decide +kernel
theorem dX1_readTable_40 : decode cX1_readTable 40 = .ok (.ifCond .ge 5, 3) := by decide +kernel
theorem dX1_readTable_43 : decode cX1_readTable 43 = .ok (.iconst 0, 1) := by decide +kernel
theorem dX1_readTable_44 : decode cX1_readTable 44 = .ok (.ireturn, 1) := by decide +kernel
theorem dX1_readTable_45 : decode cX1_readTable 45 = .ok (.aload_n 0, 1) := by decide +kernel
theorem dX1_readTable_46 : decode cX1_readTable 46 = .ok (.getfield 15, 3) := by decide +kernel
theorem dX1_readTable_49 : decode cX1_readTable 49 = .ok (.getfield 80, 3) := by decide +kernel
theorem dX1_readTable_52 : decode cX1_readTable 52 = .ok (.iload_n 1, 1) := by decide +kernel
theorem dX1_readTable_53 : decode cX1_readTable 53 = .ok (.iload_n 2, 1) := by decide +kernel
theorem dX1_readTable_54 : decode cX1_readTable 54 = .ok (.iload_n 3, 1) := by decide +kernel
theorem dX1_readTable_55 : decode cX1_readTable 55 = .ok (.iload 4, 2) := by decide +kernel
theorem dX1_readTable_57 : decode cX1_readTable 57 = .ok (.invokestatic 96, 3) := by decide +kernel
theorem dX1_readTable_60 : decode cX1_readTable 60 = .ok (.iload 5, 2) := by decide +kernel
theorem dX1_readTable_62 : decode cX1_readTable 62 = .ok (.iastore, 1) := by decide +kernel
theorem dX1_readTable_63 : decode cX1_readTable 63 = .ok (.iinc 4 1, 3) := by decide +kernel
theorem dX1_readTable_66 : decode cX1_readTable 66 = .ok (.goto (-48), 3) := by decide +kernel
theorem dX1_readTable_69 : decode cX1_readTable 69 = .ok (.iinc 3 1, 3) := by decide +kernel
theorem dX1_readTable_72 : decode cX1_readTable 72 = .ok (.goto (-70), 3) := by decide +kernel
theorem dX1_readTable_75 : decode cX1_readTable 75 = .ok (.iconst 1, 1) := by decide +kernel
theorem dX1_readTable_76 : decode cX1_readTable 76 = .ok (.ireturn, 1) := by decide +kernel
theorem dX1_takes_0 : decode cX1_takes 0 = .ok (.aload_n 0, 1) := by decide +kernel
theorem dX1_takes_1 : decode cX1_takes 1 = .ok (.getfield 29, 3) := by decide +kernel
theorem dX1_takes_4 : decode cX1_takes 4 = .ok (.aload_n 0, 1) := by decide +kernel
theorem dX1_takes_5 : decode cX1_takes 5 = .ok (.getfield 25, 3) := by decide +kernel
theorem dX1_takes_8 : decode cX1_takes 8 = .ok (.if_icmp .ge 16, 3) := by decide +kernel
theorem dX1_takes_11 : decode cX1_takes 11 = .ok (.aload_n 0, 1) := by decide +kernel
theorem dX1_takes_12 : decode cX1_takes 12 = .ok (.getfield 9, 3) := by decide +kernel
theorem dX1_takes_15 : decode cX1_takes 15 = .ok (.aload_n 0, 1) := by decide +kernel
theorem dX1_takes_16 : decode cX1_takes 16 = .ok (.getfield 29, 3) := by decide +kernel
theorem dX1_takes_19 : decode cX1_takes 19 = .ok (.caload, 1) := by decide +kernel
theorem dX1_takes_20 : decode cX1_takes 20 = .ok (.iload_n 1, 1) := by decide +kernel
theorem dX1_takes_21 : decode cX1_takes 21 = .ok (.if_icmp .eq 5, 3) := by decide +kernel
theorem dX1_takes_24 : decode cX1_takes 24 = .ok (.iconst 0, 1) := by decide +kernel
theorem dX1_takes_25 : decode cX1_takes 25 = .ok (.ireturn, 1) := by decide +kernel
theorem dX1_takes_26 : decode cX1_takes 26 = .ok (.aload_n 0, 1) := by decide +kernel
theorem dX1_takes_27 : decode cX1_takes 27 = .ok (.dup, 1) := by decide +kernel
theorem dX1_takes_28 : decode cX1_takes 28 = .ok (.getfield 29, 3) := by decide +kernel
theorem dX1_takes_31 : decode cX1_takes 31 = .ok (.iconst 1, 1) := by decide +kernel
theorem dX1_takes_32 : decode cX1_takes 32 = .ok (.iadd, 1) := by decide +kernel
theorem dX1_takes_33 : decode cX1_takes 33 = .ok (.putfield 29, 3) := by decide +kernel
theorem dX1_takes_36 : decode cX1_takes 36 = .ok (.iconst 1, 1) := by decide +kernel
theorem dX1_takes_37 : decode cX1_takes 37 = .ok (.ireturn, 1) := by decide +kernel
theorem dX1_readNumber_0 : decode cX1_readNumber 0 = .ok (.aload_n 0, 1) := by decide +kernel
theorem dX1_readNumber_1 : decode cX1_readNumber 1 = .ok (.invokevirtual 93, 3) := by decide +kernel
theorem dX1_readNumber_4 : decode cX1_readNumber 4 = .ok (.istore_n 1, 1) := by decide +kernel
theorem dX1_readNumber_5 : decode cX1_readNumber 5 = .ok (.iload_n 1, 1) := by decide +kernel
theorem dX1_readNumber_6 : decode cX1_readNumber 6 = .ok (.ifCond .ge 5, 3) := by decide +kernel
theorem dX1_readNumber_9 : decode cX1_readNumber 9 = .ok (.iconst (-1), 1) := by decide +kernel
theorem dX1_readNumber_10 : decode cX1_readNumber 10 = .ok (.ireturn, 1) := by decide +kernel
theorem dX1_readNumber_11 : decode cX1_readNumber 11 = .ok (.aload_n 0, 1) := by decide +kernel
theorem dX1_readNumber_12 : decode cX1_readNumber 12 = .ok (.invokevirtual 93, 3) := by decide +kernel
theorem dX1_readNumber_15 : decode cX1_readNumber 15 = .ok (.istore_n 2, 1) := by decide +kernel
theorem dX1_readNumber_16 : decode cX1_readNumber 16 = .ok (.iload_n 2, 1) := by decide +kernel
theorem dX1_readNumber_17 : decode cX1_readNumber 17 = .ok (.ifCond .ge 7, 3) := by decide +kernel
theorem dX1_readNumber_20 : decode cX1_readNumber 20 = .ok (.iload_n 1, 1) := by decide +kernel
theorem dX1_readNumber_21 : decode cX1_readNumber 21 = .ok (.goto 9, 3) := by decide +kernel
theorem dX1_readNumber_24 : decode cX1_readNumber 24 = .ok (.iload_n 1, 1) := by decide +kernel
theorem dX1_readNumber_25 : decode cX1_readNumber 25 = .ok (.bipush 10, 2) := by decide +kernel
theorem dX1_readNumber_27 : decode cX1_readNumber 27 = .ok (.imul, 1) := by decide +kernel
theorem dX1_readNumber_28 : decode cX1_readNumber 28 = .ok (.iload_n 2, 1) := by decide +kernel
theorem dX1_readNumber_29 : decode cX1_readNumber 29 = .ok (.iadd, 1) := by decide +kernel
theorem dX1_readNumber_30 : decode cX1_readNumber 30 = .ok (.ireturn, 1) := by decide +kernel
theorem dX1_readFigure_0 : decode cX1_readFigure 0 = .ok (.aload_n 0, 1) := by decide +kernel
theorem dX1_readFigure_1 : decode cX1_readFigure 1 = .ok (.getfield 29, 3) := by decide +kernel
theorem dX1_readFigure_4 : decode cX1_readFigure 4 = .ok (.aload_n 0, 1) := by decide +kernel
theorem dX1_readFigure_5 : decode cX1_readFigure 5 = .ok (.getfield 25, 3) := by decide +kernel
theorem dX1_readFigure_8 : decode cX1_readFigure 8 = .ok (.if_icmp .ge 31, 3) := by decide +kernel
theorem dX1_readFigure_11 : decode cX1_readFigure 11 = .ok (.aload_n 0, 1) := by decide +kernel
theorem dX1_readFigure_12 : decode cX1_readFigure 12 = .ok (.getfield 9, 3) := by decide +kernel
theorem dX1_readFigure_15 : decode cX1_readFigure 15 = .ok (.aload_n 0, 1) := by decide +kernel
theorem dX1_readFigure_16 : decode cX1_readFigure 16 = .ok (.getfield 29, 3) := by decide +kernel
theorem dX1_readFigure_19 : decode cX1_readFigure 19 = .ok (.caload, 1) := by decide +kernel
theorem dX1_readFigure_20 : decode cX1_readFigure 20 = .ok (.bipush 48, 2) := by decide +kernel
theorem dX1_readFigure_22 : decode cX1_readFigure 22 = .ok (.if_icmp .lt 17, 3) := by decide +kernel
theorem dX1_readFigure_25 : decode cX1_readFigure 25 = .ok (.aload_n 0, 1) := by decide +kernel
theorem dX1_readFigure_26 : decode cX1_readFigure 26 = .ok (.getfield 9, 3) := by decide +kernel
theorem dX1_readFigure_29 : decode cX1_readFigure 29 = .ok (.aload_n 0, 1) := by decide +kernel
theorem dX1_readFigure_30 : decode cX1_readFigure 30 = .ok (.getfield 29, 3) := by decide +kernel
theorem dX1_readFigure_33 : decode cX1_readFigure 33 = .ok (.caload, 1) := by decide +kernel
theorem dX1_readFigure_34 : decode cX1_readFigure 34 = .ok (.bipush 57, 2) := by decide +kernel
theorem dX1_readFigure_36 : decode cX1_readFigure 36 = .ok (.if_icmp .le 5, 3) := by decide +kernel
theorem dX1_readFigure_39 : decode cX1_readFigure 39 = .ok (.iconst (-1), 1) := by decide +kernel
theorem dX1_readFigure_40 : decode cX1_readFigure 40 = .ok (.ireturn, 1) := by decide +kernel
theorem dX1_readFigure_41 : decode cX1_readFigure 41 = .ok (.aload_n 0, 1) := by decide +kernel
theorem dX1_readFigure_42 : decode cX1_readFigure 42 = .ok (.getfield 9, 3) := by decide +kernel
theorem dX1_readFigure_45 : decode cX1_readFigure 45 = .ok (.aload_n 0, 1) := by decide +kernel
theorem dX1_readFigure_46 : decode cX1_readFigure 46 = .ok (.getfield 29, 3) := by decide +kernel
theorem dX1_readFigure_49 : decode cX1_readFigure 49 = .ok (.caload, 1) := by decide +kernel
theorem dX1_readFigure_50 : decode cX1_readFigure 50 = .ok (.bipush 48, 2) := by decide +kernel
theorem dX1_readFigure_52 : decode cX1_readFigure 52 = .ok (.isub, 1) := by decide +kernel
theorem dX1_readFigure_53 : decode cX1_readFigure 53 = .ok (.istore_n 1, 1) := by decide +kernel
theorem dX1_readFigure_54 : decode cX1_readFigure 54 = .ok (.aload_n 0, 1) := by decide +kernel
theorem dX1_readFigure_55 : decode cX1_readFigure 55 = .ok (.dup, 1) := by decide +kernel
theorem dX1_readFigure_56 : decode cX1_readFigure 56 = .ok (.getfield 29, 3) := by decide +kernel
theorem dX1_readFigure_59 : decode cX1_readFigure 59 = .ok (.iconst 1, 1) := by decide +kernel
theorem dX1_readFigure_60 : decode cX1_readFigure 60 = .ok (.iadd, 1) := by decide +kernel
theorem dX1_readFigure_61 : decode cX1_readFigure 61 = .ok (.putfield 29, 3) := by decide +kernel
theorem dX1_readFigure_64 : decode cX1_readFigure 64 = .ok (.iload_n 1, 1) := by decide +kernel
theorem dX1_readFigure_65 : decode cX1_readFigure 65 = .ok (.ireturn, 1) := by decide +kernel
theorem dX2_init_0 : decode cX2_init 0 = .ok (.aload_n 0, 1) := by decide +kernel
theorem dX2_init_1 : decode cX2_init 1 = .ok (.invokespecial 3, 3) := by decide +kernel
theorem dX2_init_4 : decode cX2_init 4 = .ok (.aload_n 0, 1) := by decide +kernel
theorem dX2_init_5 : decode cX2_init 5 = .ok (.bipush 8, 2) := by decide +kernel
theorem dX2_init_7 : decode cX2_init 7 = .ok (.newarray .int, 2) := by decide +kernel
theorem dX2_init_9 : decode cX2_init 9 = .ok (.putfield 9, 3) := by decide +kernel
theorem dX2_init_12 : decode cX2_init 12 = .ok (.aload_n 0, 1) := by decide +kernel
theorem dX2_init_13 : decode cX2_init 13 = .ok (.bipush 8, 2) := by decide +kernel
theorem dX2_init_15 : decode cX2_init 15 = .ok (.newarray .int, 2) := by decide +kernel
theorem dX2_init_17 : decode cX2_init 17 = .ok (.putfield 15, 3) := by decide +kernel
theorem dX2_init_20 : decode cX2_init 20 = .ok (.aload_n 0, 1) := by decide +kernel
theorem dX2_init_21 : decode cX2_init 21 = .ok (.bipush 8, 2) := by decide +kernel
theorem dX2_init_23 : decode cX2_init 23 = .ok (.newarray .int, 2) := by decide +kernel
theorem dX2_init_25 : decode cX2_init 25 = .ok (.putfield 18, 3) := by decide +kernel
theorem dX2_init_28 : decode cX2_init 28 = .ok (.aload_n 0, 1) := by decide +kernel
theorem dX2_init_29 : decode cX2_init 29 = .ok (.bipush 8, 2) := by decide +kernel
theorem dX2_init_31 : decode cX2_init 31 = .ok (.newarray .int, 2) := by decide +kernel
theorem dX2_init_33 : decode cX2_init 33 = .ok (.putfield 21, 3) := by decide +kernel
theorem dX2_init_36 : decode cX2_init 36 = .ok (.aload_n 0, 1) := by decide +kernel
theorem dX2_init_37 : decode cX2_init 37 = .ok (.new 24, 3) := by decide +kernel
theorem dX2_init_40 : decode cX2_init 40 = .ok (.dup, 1) := by decide +kernel
theorem dX2_init_41 : decode cX2_init 41 = .ok (.invokespecial 26, 3) := by decide +kernel
theorem dX2_init_44 : decode cX2_init 44 = .ok (.putfield 27, 3) := by decide +kernel
theorem dX2_init_47 : decode cX2_init 47 = .ok (.return_, 1) := by decide +kernel
theorem dX2_run_0 : decode cX2_run 0 = .ok (.aload_n 0, 1) := by decide +kernel
theorem dX2_run_1 : decode cX2_run 1 = .ok (.getfield 27, 3) := by decide +kernel
theorem dX2_run_4 : decode cX2_run 4 = .ok (.aload_n 1, 1) := by decide +kernel
theorem dX2_run_5 : decode cX2_run 5 = .ok (.invokevirtual 31, 3) := by decide +kernel
theorem dX2_run_8 : decode cX2_run 8 = .ok (.aload_n 0, 1) := by decide +kernel
theorem dX2_run_9 : decode cX2_run 9 = .ok (.iconst 0, 1) := by decide +kernel
theorem dX2_run_10 : decode cX2_run 10 = .ok (.putfield 35, 3) := by decide +kernel
theorem dX2_run_13 : decode cX2_run 13 = .ok (.aload_n 0, 1) := by decide +kernel
theorem dX2_run_14 : decode cX2_run 14 = .ok (.iconst 1, 1) := by decide +kernel
theorem dX2_run_15 : decode cX2_run 15 = .ok (.aload_n 0, 1) := by decide +kernel
theorem dX2_run_16 : decode cX2_run 16 = .ok (.getfield 27, 3) := by decide +kernel
theorem dX2_run_19 : decode cX2_run 19 = .ok (.getfield 39, 3) := by decide +kernel
theorem dX2_run_22 : decode cX2_run 22 = .ok (.ishl, 1) := by decide +kernel
theorem dX2_run_23 : decode cX2_run 23 = .ok (.iconst 1, 1) := by decide +kernel
theorem dX2_run_24 : decode cX2_run 24 = .ok (.isub, 1) := by decide +kernel
theorem dX2_run_25 : decode cX2_run 25 = .ok (.putfield 43, 3) := by decide +kernel
theorem dX2_run_28 : decode cX2_run 28 = .ok (.iconst 0, 1) := by decide +kernel
theorem dX2_run_29 : decode cX2_run 29 = .ok (.istore_n 2, 1) := by decide +kernel
theorem dX2_run_30 : decode cX2_run 30 = .ok (.iload_n 2, 1) := by decide +kernel
theorem dX2_run_31 : decode cX2_run 31 = .ok (.aload_n 0, 1) := by decide +kernel
theorem dX2_run_32 : decode cX2_run 32 = .ok (.getfield 27, 3) := by decide +kernel
theorem dX2_run_35 : decode cX2_run 35 = .ok (.getfield 39, 3) := by decide +kernel
theorem dX2_run_38 : decode cX2_run 38 = .ok (.if_icmp .ge 153, 3) := by decide +kernel
theorem dX2_run_41 : decode cX2_run 41 = .ok (.aload_n 0, 1) := by decide +kernel
theorem dX2_run_42 : decode cX2_run 42 = .ok (.invokevirtual 46, 3) := by decide +kernel
theorem dX2_run_45 : decode cX2_run 45 = .ok (.istore_n 3, 1) := by decide +kernel
theorem dX2_run_46 : decode cX2_run 46 = .ok (.aload_n 0, 1) := by decide +kernel
theorem dX2_run_47 : decode cX2_run 47 = .ok (.dup, 1) := by decide +kernel
theorem dX2_run_48 : decode cX2_run 48 = .ok (.getfield 43, 3) := by decide +kernel
theorem dX2_run_51 : decode cX2_run 51 = .ok (.iconst 1, 1) := by decide +kernel
theorem dX2_run_52 : decode cX2_run 52 = .ok (.iload_n 3, 1) := by decide +kernel
theorem dX2_run_53 : decode cX2_run 53 = .ok (.ishl, 1) := by decide +kernel
theorem dX2_run_54 : decode cX2_run 54 = .ok (.iconst (-1), 1) := by decide +kernel
theorem dX2_run_55 : decode cX2_run 55 = .ok (.ixor, 1) := by decide +kernel
theorem dX2_run_56 : decode cX2_run 56 = .ok (.iand, 1) := by decide +kernel
theorem dX2_run_57 : decode cX2_run 57 = .ok (.putfield 43, 3) := by decide +kernel
theorem dX2_run_60 : decode cX2_run 60 = .ok (.aload_n 0, 1) := by decide +kernel
theorem dX2_run_61 : decode cX2_run 61 = .ok (.getfield 9, 3) := by decide +kernel
theorem dX2_run_64 : decode cX2_run 64 = .ok (.iload_n 2, 1) := by decide +kernel
theorem dX2_run_65 : decode cX2_run 65 = .ok (.iload_n 3, 1) := by decide +kernel
theorem dX2_run_66 : decode cX2_run 66 = .ok (.iastore, 1) := by decide +kernel
theorem dX2_run_67 : decode cX2_run 67 = .ok (.aload_n 0, 1) := by decide +kernel
theorem dX2_run_68 : decode cX2_run 68 = .ok (.getfield 21, 3) := by decide +kernel
theorem dX2_run_71 : decode cX2_run 71 = .ok (.iload_n 2, 1) := by decide +kernel
theorem dX2_run_72 : decode cX2_run 72 = .ok (.aload_n 0, 1) := by decide +kernel
theorem dX2_run_73 : decode cX2_run 73 = .ok (.iload_n 3, 1) := by decide +kernel
theorem dX2_run_74 : decode cX2_run 74 = .ok (.invokevirtual 50, 3) := by decide +kernel
theorem dX2_run_77 : decode cX2_run 77 = .ok (.iastore, 1) := by decide +kernel
theorem dX2_run_78 : decode cX2_run 78 = .ok (.aload_n 0, 1) := by decide +kernel
theorem dX2_run_79 : decode cX2_run 79 = .ok (.getfield 15, 3) := by decide +kernel
theorem dX2_run_82 : decode cX2_run 82 = .ok (.iload_n 2, 1) := by decide +kernel
theorem dX2_run_83 : decode cX2_run 83 = .ok (.aload_n 0, 1) := by decide +kernel
theorem dX2_run_84 : decode cX2_run 84 = .ok (.getfield 21, 3) := by decide +kernel
theorem dX2_run_87 : decode cX2_run 87 = .ok (.iload_n 2, 1) := by decide +kernel
theorem dX2_run_88 : decode cX2_run 88 = .ok (.iaload, 1) := by decide +kernel
theorem dX2_run_89 : decode cX2_run 89 = .ok (.invokestatic 54, 3) := by decide +kernel
theorem dX2_run_92 : decode cX2_run 92 = .ok (.iconst 3, 1) := by decide +kernel
theorem dX2_run_93 : decode cX2_run 93 = .ok (.invokestatic 59, 3) := by decide +kernel
theorem dX2_run_96 : decode cX2_run 96 = .ok (.iastore, 1) := by decide +kernel
theorem dX2_run_97 : decode cX2_run 97 = .ok (.aload_n 0, 1) := by decide +kernel
theorem dX2_run_98 : decode cX2_run 98 = .ok (.getfield 21, 3) := by decide +kernel
theorem dX2_run_101 : decode cX2_run 101 = .ok (.iload_n 2, 1) := by decide +kernel
theorem dX2_run_102 : decode cX2_run 102 = .ok (.iaload, 1) := by decide +kernel
theorem dX2_run_103 : decode cX2_run 103 = .ok (.invokestatic 65, 3) := by decide +kernel
theorem dX2_run_106 : decode cX2_run 106 = .ok (.istore 4, 2) := by decide +kernel
theorem dX2_run_108 : decode cX2_run 108 = .ok (.aload_n 0, 1) := by decide +kernel
theorem dX2_run_109 : decode cX2_run 109 = .ok (.getfield 15, 3) := by decide +kernel
theorem dX2_run_112 : decode cX2_run 112 = .ok (.iload_n 2, 1) := by decide +kernel
theorem dX2_run_113 : decode cX2_run 113 = .ok (.iaload, 1) := by decide +kernel
theorem dX2_run_114 : decode cX2_run 114 = .ok (.iconst 1, 1) := by decide +kernel
theorem dX2_run_115 : decode cX2_run 115 = .ok (.if_icmp .ne 13, 3) := by decide +kernel
theorem dX2_run_118 : decode cX2_run 118 = .ok (.aload_n 0, 1) := by decide +kernel
theorem dX2_run_119 : decode cX2_run 119 = .ok (.iload_n 3, 1) := by decide +kernel
theorem dX2_run_120 : decode cX2_run 120 = .ok (.iload 4, 2) := by decide +kernel
theorem dX2_run_122 : decode cX2_run 122 = .ok (.invokevirtual 68, 3) := by decide +kernel
theorem dX2_run_125 : decode cX2_run 125 = .ok (.goto 60, 3) := by decide +kernel
theorem dX2_run_128 : decode cX2_run 128 = .ok (.aload_n 0, 1) := by decide +kernel
theorem dX2_run_129 : decode cX2_run 129 = .ok (.getfield 15, 3) := by decide +kernel
theorem dX2_run_132 : decode cX2_run 132 = .ok (.iload_n 2, 1) := by decide +kernel
theorem dX2_run_133 : decode cX2_run 133 = .ok (.iaload, 1) := by decide +kernel
theorem dX2_run_134 : decode cX2_run 134 = .ok (.iconst 2, 1) := by decide +kernel
theorem dX2_run_135 : decode cX2_run 135 = .ok (.if_icmp .ne 29, 3) := by decide +kernel
theorem dX2_run_138 : decode cX2_run 138 = .ok (.aload_n 0, 1) := by decide +kernel
theorem dX2_run_139 : decode cX2_run 139 = .ok (.iload_n 3, 1) := by decide +kernel
theorem dX2_run_140 : decode cX2_run 140 = .ok (.iload 4, 2) := by decide +kernel
theorem dX2_run_142 : decode cX2_run 142 = .ok (.aload_n 0, 1) := by decide +kernel
theorem dX2_run_143 : decode cX2_run 143 = .ok (.getfield 21, 3) := by decide +kernel
theorem dX2_run_146 : decode cX2_run 146 = .ok (.iload_n 2, 1) := by decide +kernel
theorem dX2_run_147 : decode cX2_run 147 = .ok (.iaload, 1) := by decide +kernel
theorem dX2_run_148 : decode cX2_run 148 = .ok (.iconst 1, 1) := by decide +kernel
theorem dX2_run_149 : decode cX2_run 149 = .ok (.iload 4, 2) := by decide +kernel
theorem dX2_run_151 : decode cX2_run 151 = .ok (.ishl, 1) := by decide +kernel
theorem dX2_run_152 : decode cX2_run 152 = .ok (.iconst (-1), 1) := by decide +kernel
theorem dX2_run_153 : decode cX2_run 153 = .ok (.ixor, 1) := by decide +kernel
theorem dX2_run_154 : decode cX2_run 154 = .ok (.iand, 1) := by decide +kernel
theorem dX2_run_155 : decode cX2_run 155 = .ok (.invokestatic 65, 3) := by decide +kernel
theorem dX2_run_158 : decode cX2_run 158 = .ok (.invokevirtual 72, 3) := by decide +kernel
theorem dX2_run_161 : decode cX2_run 161 = .ok (.goto 24, 3) := by decide +kernel
theorem dX2_run_164 : decode cX2_run 164 = .ok (.aload_n 0, 1) := by decide +kernel
theorem dX2_run_165 : decode cX2_run 165 = .ok (.getfield 15, 3) := by decide +kernel
theorem dX2_run_168 : decode cX2_run 168 = .ok (.iload_n 2, 1) := by decide +kernel
theorem dX2_run_169 : decode cX2_run 169 = .ok (.iaload, 1) := by decide +kernel
theorem dX2_run_170 : decode cX2_run 170 = .ok (.iconst 3, 1) := by decide +kernel
theorem dX2_run_171 : decode cX2_run 171 = .ok (.if_icmp .ne 14, 3) := by decide +kernel
theorem dX2_run_174 : decode cX2_run 174 = .ok (.aload_n 0, 1) := by decide +kernel
theorem dX2_run_175 : decode cX2_run 175 = .ok (.iload_n 3, 1) := by decide +kernel
theorem dX2_run_176 : decode cX2_run 176 = .ok (.aload_n 0, 1) := by decide +kernel
theorem dX2_run_177 : decode cX2_run 177 = .ok (.getfield 21, 3) := by decide +kernel
theorem dX2_run_180 : decode cX2_run 180 = .ok (.iload_n 2, 1) := by decide +kernel
theorem dX2_run_181 : decode cX2_run 181 = .ok (.iaload, 1) := by decide +kernel
theorem dX2_run_182 : decode cX2_run 182 = .ok (.invokevirtual 76, 3) := by decide +kernel
theorem dX2_run_185 : decode cX2_run 185 = .ok (.iinc 2 1, 3) := by decide +kernel
theorem dX2_run_188 : decode cX2_run 188 = .ok (.goto (-158), 3) := by decide +kernel
theorem dX2_run_191 : decode cX2_run 191 = .ok (.aload_n 0, 1) := by decide +kernel
theorem dX2_run_192 : decode cX2_run 192 = .ok (.invokevirtual 79, 3) := by decide +kernel
theorem dX2_run_195 : decode cX2_run 195 = .ok (.return_, 1) := by decide +kernel
theorem dX2_matesLeft_0 : decode cX2_matesLeft 0 = .ok (.aload_n 0, 1) := by decide +kernel
theorem dX2_matesLeft_1 : decode cX2_matesLeft 1 = .ok (.getfield 27, 3) := by decide +kernel
theorem dX2_matesLeft_4 : decode cX2_matesLeft 4 = .ok (.getfield 82, 3) := by decide +kernel
theorem dX2_matesLeft_7 : decode cX2_matesLeft 7 = .ok (.iload_n 1, 1) := by decide +kernel
theorem dX2_matesLeft_8 : decode cX2_matesLeft 8 = .ok (.iaload, 1) := by decide +kernel
theorem dX2_matesLeft_9 : decode cX2_matesLeft 9 = .ok (.aload_n 0, 1) := by decide +kernel
theorem dX2_matesLeft_10 : decode cX2_matesLeft 10 = .ok (.getfield 43, 3) := by decide +kernel
theorem dX2_matesLeft_13 : decode cX2_matesLeft 13 = .ok (.iand, 1) := by decide +kernel
theorem dX2_matesLeft_14 : decode cX2_matesLeft 14 = .ok (.ireturn, 1) := by decide +kernel
theorem dX2_nextNode_0 : decode cX2_nextNode 0 = .ok (.iconst (-1), 1) := by decide +kernel
theorem dX2_nextNode_1 : decode cX2_nextNode 1 = .ok (.istore_n 1, 1) := by decide +kernel
theorem dX2_nextNode_2 : decode cX2_nextNode 2 = .ok (.iconst (-1), 1) := by decide +kernel
theorem dX2_nextNode_3 : decode cX2_nextNode 3 = .ok (.istore_n 2, 1) := by decide +kernel
theorem dX2_nextNode_4 : decode cX2_nextNode 4 = .ok (.iconst 0, 1) := by decide +kernel
theorem dX2_nextNode_5 : decode cX2_nextNode 5 = .ok (.istore_n 3, 1) := by decide +kernel
theorem dX2_nextNode_6 : decode cX2_nextNode 6 = .ok (.iload_n 3, 1) := by decide +kernel
theorem dX2_nextNode_7 : decode cX2_nextNode 7 = .ok (.aload_n 0, 1) := by decide +kernel
theorem dX2_nextNode_8 : decode cX2_nextNode 8 = .ok (.getfield 27, 3) := by decide +kernel
theorem dX2_nextNode_11 : decode cX2_nextNode 11 = .ok (.getfield 39, 3) := by decide +kernel
theorem dX2_nextNode_14 : decode cX2_nextNode 14 = .ok (.if_icmp .ge 58, 3) := by decide +kernel
theorem dX2_nextNode_17 : decode cX2_nextNode 17 = .ok (.aload_n 0, 1) := by decide +kernel
theorem dX2_nextNode_18 : decode cX2_nextNode 18 = .ok (.getfield 43, 3) := by decide +kernel
theorem dX2_nextNode_21 : decode cX2_nextNode 21 = .ok (.iload_n 3, 1) := by decide +kernel
theorem dX2_nextNode_22 : decode cX2_nextNode 22 = .ok (.invokestatic 85, 3) := by decide +kernel
theorem dX2_nextNode_25 : decode cX2_nextNode 25 = .ok (.ifCond .eq 41, 3) := by decide +kernel
theorem dX2_nextNode_28 : decode cX2_nextNode 28 = .ok (.iload_n 1, 1) := by decide +kernel
theorem dX2_nextNode_29 : decode cX2_nextNode 29 = .ok (.ifCond .lt 12, 3) := by decide +kernel
theorem dX2_nextNode_32 : decode cX2_nextNode 32 = .ok (.aload_n 0, 1) := by decide +kernel
theorem dX2_nextNode_33 : decode cX2_nextNode 33 = .ok (.iload_n 3, 1) := by decide +kernel
theorem dX2_nextNode_34 : decode cX2_nextNode 34 = .ok (.iload_n 1, 1) := by decide +kernel
theorem dX2_nextNode_35 : decode cX2_nextNode 35 = .ok (.invokevirtual 89, 3) := by decide +kernel
theorem dX2_nextNode_38 : decode cX2_nextNode 38 = .ok (.ifCond .eq 7, 3) := by decide +kernel
theorem dX2_nextNode_41 : decode cX2_nextNode 41 = .ok (.iload_n 3, 1) := by decide +kernel
theorem dX2_nextNode_42 : decode cX2_nextNode 42 = .ok (.goto 4, 3) := by decide +kernel
theorem dX2_nextNode_45 : decode cX2_nextNode 45 = .ok (.iload_n 1, 1) := by decide +kernel
theorem dX2_nextNode_46 : decode cX2_nextNode 46 = .ok (.istore_n 1, 1) := by decide +kernel
theorem dX2_nextNode_47 : decode cX2_nextNode 47 = .ok (.iload_n 2, 1) := by decide +kernel
theorem dX2_nextNode_48 : decode cX2_nextNode 48 = .ok (.ifCond .lt 12, 3) := by decide +kernel
theorem dX2_nextNode_51 : decode cX2_nextNode 51 = .ok (.aload_n 0, 1) := by decide +kernel
theorem dX2_nextNode_52 : decode cX2_nextNode 52 = .ok (.iload_n 2, 1) := by decide +kernel
theorem dX2_nextNode_53 : decode cX2_nextNode 53 = .ok (.iload_n 3, 1) := by decide +kernel
theorem dX2_nextNode_54 : decode cX2_nextNode 54 = .ok (.invokevirtual 89, 3) := by decide +kernel
theorem dX2_nextNode_57 : decode cX2_nextNode 57 = .ok (.ifCond .eq 7, 3) := by decide +kernel
theorem dX2_nextNode_60 : decode cX2_nextNode 60 = .ok (.iload_n 3, 1) := by decide +kernel
theorem dX2_nextNode_61 : decode cX2_nextNode 61 = .ok (.goto 4, 3) := by decide +kernel
theorem dX2_nextNode_64 : decode cX2_nextNode 64 = .ok (.iload_n 2, 1) := by decide +kernel
theorem dX2_nextNode_65 : decode cX2_nextNode 65 = .ok (.istore_n 2, 1) := by decide +kernel
theorem dX2_nextNode_66 : decode cX2_nextNode 66 = .ok (.iinc 3 1, 3) := by decide +kernel
theorem dX2_nextNode_69 : decode cX2_nextNode 69 = .ok (.goto (-63), 3) := by decide +kernel
theorem dX2_nextNode_72 : decode cX2_nextNode 72 = .ok (.iload_n 1, 1) := by decide +kernel
theorem dX2_nextNode_73 : decode cX2_nextNode 73 = .ok (.ifCond .lt 7, 3) := by decide +kernel
theorem dX2_nextNode_76 : decode cX2_nextNode 76 = .ok (.iload_n 2, 1) := by decide +kernel
theorem dX2_nextNode_77 : decode cX2_nextNode 77 = .ok (.ifCond .ge 5, 3) := by decide +kernel
theorem dX2_nextNode_80 : decode cX2_nextNode 80 = .ok (.iconst 0, 1) := by decide +kernel
theorem dX2_nextNode_81 : decode cX2_nextNode 81 = .ok (.ireturn, 1) := by decide +kernel
theorem dX2_nextNode_82 : decode cX2_nextNode 82 = .ok (.aload_n 0, 1) := by decide +kernel
theorem dX2_nextNode_83 : decode cX2_nextNode 83 = .ok (.iload_n 1, 1) := by decide +kernel
theorem dX2_nextNode_84 : decode cX2_nextNode 84 = .ok (.invokevirtual 50, 3) := by decide +kernel
theorem dX2_nextNode_87 : decode cX2_nextNode 87 = .ok (.invokestatic 54, 3) := by decide +kernel
theorem dX2_nextNode_90 : decode cX2_nextNode 90 = .ok (.iconst 2, 1) := by decide +kernel
theorem dX2_nextNode_91 : decode cX2_nextNode 91 = .ok (.if_icmp .gt 7, 3) := by decide +kernel
theorem dX2_nextNode_94 : decode cX2_nextNode 94 = .ok (.iload_n 1, 1) := by decide +kernel
theorem dX2_nextNode_95 : decode cX2_nextNode 95 = .ok (.goto 4, 3) := by decide +kernel
theorem dX2_nextNode_98 : decode cX2_nextNode 98 = .ok (.iload_n 2, 1) := by decide +kernel
theorem dX2_nextNode_99 : decode cX2_nextNode 99 = .ok (.ireturn, 1) := by decide +kernel
theorem dX2_comesAhead_0 : decode cX2_comesAhead 0 = .ok (.aload_n 0, 1) := by decide +kernel
theorem dX2_comesAhead_1 : decode cX2_comesAhead 1 = .ok (.iload_n 1, 1) := by decide +kernel
theorem dX2_comesAhead_2 : decode cX2_comesAhead 2 = .ok (.invokevirtual 50, 3) := by decide +kernel
theorem dX2_comesAhead_5 : decode cX2_comesAhead 5 = .ok (.invokestatic 54, 3) := by decide +kernel
theorem dX2_comesAhead_8 : decode cX2_comesAhead 8 = .ok (.istore_n 3, 1) := by decide +kernel
theorem dX2_comesAhead_9 : decode cX2_comesAhead 9 = .ok (.aload_n 0, 1) := by decide +kernel
theorem dX2_comesAhead_10 : decode cX2_comesAhead 10 = .ok (.iload_n 2, 1) := by decide +kernel
theorem dX2_comesAhead_11 : decode cX2_comesAhead 11 = .ok (.invokevirtual 50, 3) := by decide +kernel
theorem dX2_comesAhead_14 : decode cX2_comesAhead 14 = .ok (.invokestatic 54, 3) := by decide +kernel
theorem dX2_comesAhead_17 : decode cX2_comesAhead 17 = .ok (.istore 4, 2) := by decide +kernel
theorem dX2_comesAhead_19 : decode cX2_comesAhead 19 = .ok (.iload_n 3, 1) := by decide +kernel
theorem dX2_comesAhead_20 : decode cX2_comesAhead 20 = .ok (.iload 4, 2) := by decide +kernel
theorem dX2_comesAhead_22 : decode cX2_comesAhead 22 = .ok (.if_icmp .eq 15, 3) := by decide +kernel
theorem dX2_comesAhead_25 : decode cX2_comesAhead 25 = .ok (.iload_n 3, 1) := by decide +kernel
theorem dX2_comesAhead_26 : decode cX2_comesAhead 26 = .ok (.iload 4, 2) := by decide +kernel
theorem dX2_comesAhead_28 : decode cX2_comesAhead 28 = .ok (.if_icmp .ge 7, 3) := by decide +kernel
theorem dX2_comesAhead_31 : decode cX2_comesAhead 31 = .ok (.iconst 1, 1) := by decide +kernel
theorem dX2_comesAhead_32 : decode cX2_comesAhead 32 = .ok (.goto 4, 3) := by decide +kernel
theorem dX2_comesAhead_35 : decode cX2_comesAhead 35 = .ok (.iconst 0, 1) := by decide +kernel
theorem dX2_comesAhead_36 : decode cX2_comesAhead 36 = .ok (.ireturn, 1) := by decide +kernel
theorem dX2_comesAhead_37 : decode cX2_comesAhead 37 = .ok (.aload_n 0, 1) := by decide +kernel
theorem dX2_comesAhead_38 : decode cX2_comesAhead 38 = .ok (.getfield 27, 3) := by decide +kernel
theorem dX2_comesAhead_41 : decode cX2_comesAhead 41 = .ok (.getfield 92, 3) := by decide +kernel
theorem dX2_comesAhead_44 : decode cX2_comesAhead 44 = .ok (.iload_n 1, 1) := by decide +kernel
theorem dX2_comesAhead_45 : decode cX2_comesAhead 45 = .ok (.iaload, 1) := by decide +kernel
theorem dX2_comesAhead_46 : decode cX2_comesAhead 46 = .ok (.aload_n 0, 1) := by decide +kernel
theorem dX2_comesAhead_47 : decode cX2_comesAhead 47 = .ok (.getfield 27, 3) := by decide +kernel
theorem dX2_comesAhead_50 : decode cX2_comesAhead 50 = .ok (.getfield 92, 3) := by decide +kernel
theorem dX2_comesAhead_53 : decode cX2_comesAhead 53 = .ok (.iload_n 2, 1) := by decide +kernel
theorem dX2_comesAhead_54 : decode cX2_comesAhead 54 = .ok (.iaload, 1) := by decide +kernel
theorem dX2_comesAhead_55 : decode cX2_comesAhead 55 = .ok (.if_icmp .eq 30, 3) := by decide +kernel
theorem dX2_comesAhead_58 : decode cX2_comesAhead 58 = .ok (.aload_n 0, 1) := by decide +kernel
theorem dX2_comesAhead_59 : decode cX2_comesAhead 59 = .ok (.getfield 27, 3) := by decide +kernel
theorem dX2_comesAhead_62 : decode cX2_comesAhead 62 = .ok (.getfield 92, 3) := by decide +kernel
theorem dX2_comesAhead_65 : decode cX2_comesAhead 65 = .ok (.iload_n 1, 1) := by decide +kernel
theorem dX2_comesAhead_66 : decode cX2_comesAhead 66 = .ok (.iaload, 1) := by decide +kernel
theorem dX2_comesAhead_67 : decode cX2_comesAhead 67 = .ok (.aload_n 0, 1) := by decide +kernel
theorem dX2_comesAhead_68 : decode cX2_comesAhead 68 = .ok (.getfield 27, 3) := by decide +kernel
theorem dX2_comesAhead_71 : decode cX2_comesAhead 71 = .ok (.getfield 92, 3) := by decide +kernel
theorem dX2_comesAhead_74 : decode cX2_comesAhead 74 = .ok (.iload_n 2, 1) := by decide +kernel
theorem dX2_comesAhead_75 : decode cX2_comesAhead 75 = .ok (.iaload, 1) := by decide +kernel
theorem dX2_comesAhead_76 : decode cX2_comesAhead 76 = .ok (.if_icmp .ge 7, 3) := by decide +kernel
theorem dX2_comesAhead_79 : decode cX2_comesAhead 79 = .ok (.iconst 1, 1) := by decide +kernel
theorem dX2_comesAhead_80 : decode cX2_comesAhead 80 = .ok (.goto 4, 3) := by decide +kernel
theorem dX2_comesAhead_83 : decode cX2_comesAhead 83 = .ok (.iconst 0, 1) := by decide +kernel
theorem dX2_comesAhead_84 : decode cX2_comesAhead 84 = .ok (.ireturn, 1) := by decide +kernel
theorem dX2_comesAhead_85 : decode cX2_comesAhead 85 = .ok (.iload_n 1, 1) := by decide +kernel
theorem dX2_comesAhead_86 : decode cX2_comesAhead 86 = .ok (.iload_n 2, 1) := by decide +kernel
theorem dX2_comesAhead_87 : decode cX2_comesAhead 87 = .ok (.if_icmp .ge 7, 3) := by decide +kernel
theorem dX2_comesAhead_90 : decode cX2_comesAhead 90 = .ok (.iconst 1, 1) := by decide +kernel
theorem dX2_comesAhead_91 : decode cX2_comesAhead 91 = .ok (.goto 4, 3) := by decide +kernel
theorem dX2_comesAhead_94 : decode cX2_comesAhead 94 = .ok (.iconst 0, 1) := by decide +kernel
theorem dX2_comesAhead_95 : decode cX2_comesAhead 95 = .ok (.ireturn, 1) := by decide +kernel
theorem dX2_foldIntoOne_0 : decode cX2_foldIntoOne 0 = .ok (.iconst 0, 1) := by decide +kernel
theorem dX2_foldIntoOne_1 : decode cX2_foldIntoOne 1 = .ok (.istore_n 3, 1) := by decide +kernel
theorem dX2_foldIntoOne_2 : decode cX2_foldIntoOne 2 = .ok (.iload_n 3, 1) := by decide +kernel
theorem dX2_foldIntoOne_3 : decode cX2_foldIntoOne 3 = .ok (.aload_n 0, 1) := by decide +kernel
theorem dX2_foldIntoOne_4 : decode cX2_foldIntoOne 4 = .ok (.getfield 27, 3) := by decide +kernel
theorem dX2_foldIntoOne_7 : decode cX2_foldIntoOne 7 = .ok (.getfield 92, 3) := by decide +kernel
theorem dX2_foldIntoOne_10 : decode cX2_foldIntoOne 10 = .ok (.iload_n 2, 1) := by decide +kernel
theorem dX2_foldIntoOne_11 : decode cX2_foldIntoOne 11 = .ok (.iaload, 1) := by decide +kernel
theorem dX2_foldIntoOne_12 : decode cX2_foldIntoOne 12 = .ok (.if_icmp .ge 77, 3) := by decide +kernel
theorem dX2_foldIntoOne_15 : decode cX2_foldIntoOne 15 = .ok (.ldc 95, 2) := by decide +kernel
theorem dX2_foldIntoOne_17 : decode cX2_foldIntoOne 17 = .ok (.istore 4, 2) := by decide +kernel
theorem dX2_foldIntoOne_19 : decode cX2_foldIntoOne 19 = .ok (.iconst 0, 1) := by decide +kernel
theorem dX2_foldIntoOne_20 : decode cX2_foldIntoOne 20 = .ok (.istore 5, 2) := by decide +kernel
theorem dX2_foldIntoOne_22 : decode cX2_foldIntoOne 22 = .ok (.iload 5, 2) := by decide +kernel
theorem dX2_foldIntoOne_24 : decode cX2_foldIntoOne 24 = .ok (.aload_n 0, 1) := by decide +kernel
theorem dX2_foldIntoOne_25 : decode cX2_foldIntoOne 25 = .ok (.getfield 27, 3) := by decide +kernel
theorem dX2_foldIntoOne_28 : decode cX2_foldIntoOne 28 = .ok (.getfield 92, 3) := by decide +kernel
theorem dX2_foldIntoOne_31 : decode cX2_foldIntoOne 31 = .ok (.iload_n 1, 1) := by decide +kernel
theorem dX2_foldIntoOne_32 : decode cX2_foldIntoOne 32 = .ok (.iaload, 1) := by decide +kernel
theorem dX2_foldIntoOne_33 : decode cX2_foldIntoOne 33 = .ok (.if_icmp .ge 39, 3) := by decide +kernel
theorem dX2_foldIntoOne_36 : decode cX2_foldIntoOne 36 = .ok (.iload 4, 2) := by decide +kernel
theorem dX2_foldIntoOne_38 : decode cX2_foldIntoOne 38 = .ok (.aload_n 0, 1) := by decide +kernel
theorem dX2_foldIntoOne_39 : decode cX2_foldIntoOne 39 = .ok (.getfield 27, 3) := by decide +kernel
theorem dX2_foldIntoOne_42 : decode cX2_foldIntoOne 42 = .ok (.iload_n 1, 1) := by decide +kernel
theorem dX2_foldIntoOne_43 : decode cX2_foldIntoOne 43 = .ok (.iload 5, 2) := by decide +kernel
theorem dX2_foldIntoOne_45 : decode cX2_foldIntoOne 45 = .ok (.invokevirtual 96, 3) := by decide +kernel
theorem dX2_foldIntoOne_48 : decode cX2_foldIntoOne 48 = .ok (.aload_n 0, 1) := by decide +kernel
theorem dX2_foldIntoOne_49 : decode cX2_foldIntoOne 49 = .ok (.getfield 27, 3) := by decide +kernel
theorem dX2_foldIntoOne_52 : decode cX2_foldIntoOne 52 = .ok (.iload_n 1, 1) := by decide +kernel
theorem dX2_foldIntoOne_53 : decode cX2_foldIntoOne 53 = .ok (.iload_n 2, 1) := by decide +kernel
theorem dX2_foldIntoOne_54 : decode cX2_foldIntoOne 54 = .ok (.iload 5, 2) := by decide +kernel
theorem dX2_foldIntoOne_56 : decode cX2_foldIntoOne 56 = .ok (.iload_n 3, 1) := by decide +kernel
theorem dX2_foldIntoOne_57 : decode cX2_foldIntoOne 57 = .ok (.invokevirtual 99, 3) := by decide +kernel
theorem dX2_foldIntoOne_60 : decode cX2_foldIntoOne 60 = .ok (.iadd, 1) := by decide +kernel
theorem dX2_foldIntoOne_61 : decode cX2_foldIntoOne 61 = .ok (.invokestatic 59, 3) := by decide +kernel
theorem dX2_foldIntoOne_64 : decode cX2_foldIntoOne 64 = .ok (.istore 4, 2) := by decide +kernel
theorem dX2_foldIntoOne_66 : decode cX2_foldIntoOne 66 = .ok (.iinc 5 1, 3) := by decide +kernel
theorem dX2_foldIntoOne_69 : decode cX2_foldIntoOne 69 = .ok (.goto (-47), 3) := by decide +kernel
theorem dX2_foldIntoOne_72 : decode cX2_foldIntoOne 72 = .ok (.aload_n 0, 1) := by decide +kernel
theorem dX2_foldIntoOne_73 : decode cX2_foldIntoOne 73 = .ok (.getfield 27, 3) := by decide +kernel
theorem dX2_foldIntoOne_76 : decode cX2_foldIntoOne 76 = .ok (.iload_n 2, 1) := by decide +kernel
theorem dX2_foldIntoOne_77 : decode cX2_foldIntoOne 77 = .ok (.iload_n 3, 1) := by decide +kernel
theorem dX2_foldIntoOne_78 : decode cX2_foldIntoOne 78 = .ok (.iload 4, 2) := by decide +kernel
theorem dX2_foldIntoOne_80 : decode cX2_foldIntoOne 80 = .ok (.invokevirtual 103, 3) := by decide +kernel
theorem dX2_foldIntoOne_83 : decode cX2_foldIntoOne 83 = .ok (.iinc 3 1, 3) := by decide +kernel
theorem dX2_foldIntoOne_86 : decode cX2_foldIntoOne 86 = .ok (.goto (-84), 3) := by decide +kernel
theorem dX2_foldIntoOne_89 : decode cX2_foldIntoOne 89 = .ok (.return_, 1) := by decide +kernel
theorem dX2_foldIntoTwo_0 : decode cX2_foldIntoTwo 0 = .ok (.aload_n 0, 1) := by decide +kernel
theorem dX2_foldIntoTwo_1 : decode cX2_foldIntoTwo 1 = .ok (.getfield 27, 3) := by decide +kernel
theorem dX2_foldIntoTwo_4 : decode cX2_foldIntoTwo 4 = .ok (.iload_n 2, 1) := by decide +kernel
theorem dX2_foldIntoTwo_5 : decode cX2_foldIntoTwo 5 = .ok (.iload_n 3, 1) := by decide +kernel
theorem dX2_foldIntoTwo_6 : decode cX2_foldIntoTwo 6 = .ok (.invokevirtual 106, 3) := by decide +kernel
theorem dX2_foldIntoTwo_9 : decode cX2_foldIntoTwo 9 = .ok (.ifCond .ne 22, 3) := by decide +kernel
theorem dX2_foldIntoTwo_12 : decode cX2_foldIntoTwo 12 = .ok (.aload_n 0, 1) := by decide +kernel
theorem dX2_foldIntoTwo_13 : decode cX2_foldIntoTwo 13 = .ok (.getfield 27, 3) := by decide +kernel
theorem dX2_foldIntoTwo_16 : decode cX2_foldIntoTwo 16 = .ok (.getfield 82, 3) := by decide +kernel
theorem dX2_foldIntoTwo_19 : decode cX2_foldIntoTwo 19 = .ok (.aload_n 0, 1) := by decide +kernel
theorem dX2_foldIntoTwo_20 : decode cX2_foldIntoTwo 20 = .ok (.getfield 27, 3) := by decide +kernel
theorem dX2_foldIntoTwo_23 : decode cX2_foldIntoTwo 23 = .ok (.getfield 109, 3) := by decide +kernel
theorem dX2_foldIntoTwo_26 : decode cX2_foldIntoTwo 26 = .ok (.iload_n 2, 1) := by decide +kernel
theorem dX2_foldIntoTwo_27 : decode cX2_foldIntoTwo 27 = .ok (.iload_n 3, 1) := by decide +kernel
theorem dX2_foldIntoTwo_28 : decode cX2_foldIntoTwo 28 = .ok (.invokestatic 112, 3) := by decide +kernel
theorem dX2_foldIntoTwo_31 : decode cX2_foldIntoTwo 31 = .ok (.iconst 0, 1) := by decide +kernel
theorem dX2_foldIntoTwo_32 : decode cX2_foldIntoTwo 32 = .ok (.istore 4, 2) := by decide +kernel
theorem dX2_foldIntoTwo_34 : decode cX2_foldIntoTwo 34 = .ok (.iload 4, 2) := by decide +kernel
theorem dX2_foldIntoTwo_36 : decode cX2_foldIntoTwo 36 = .ok (.aload_n 0, 1) := by decide +kernel
theorem dX2_foldIntoTwo_37 : decode cX2_foldIntoTwo 37 = .ok (.getfield 27, 3) := by decide +kernel
theorem dX2_foldIntoTwo_40 : decode cX2_foldIntoTwo 40 = .ok (.getfield 92, 3) := by decide +kernel
theorem dX2_foldIntoTwo_43 : decode cX2_foldIntoTwo 43 = .ok (.iload_n 2, 1) := by decide +kernel
theorem dX2_foldIntoTwo_44 : decode cX2_foldIntoTwo 44 = .ok (.iaload, 1) := by decide +kernel
theorem dX2_foldIntoTwo_45 : decode cX2_foldIntoTwo 45 = .ok (.if_icmp .ge 123, 3) := by decide +kernel
theorem dX2_foldIntoTwo_48 : decode cX2_foldIntoTwo 48 = .ok (.iconst 0, 1) := by decide +kernel
theorem dX2_foldIntoTwo_49 : decode cX2_foldIntoTwo 49 = .ok (.istore 5, 2) := by decide +kernel
theorem dX2_foldIntoTwo_51 : decode cX2_foldIntoTwo 51 = .ok (.iload 5, 2) := by decide +kernel
theorem dX2_foldIntoTwo_53 : decode cX2_foldIntoTwo 53 = .ok (.aload_n 0, 1) := by decide +kernel
theorem dX2_foldIntoTwo_54 : decode cX2_foldIntoTwo 54 = .ok (.getfield 27, 3) := by decide +kernel
theorem dX2_foldIntoTwo_57 : decode cX2_foldIntoTwo 57 = .ok (.getfield 92, 3) := by decide +kernel
theorem dX2_foldIntoTwo_60 : decode cX2_foldIntoTwo 60 = .ok (.iload_n 3, 1) := by decide +kernel
theorem dX2_foldIntoTwo_61 : decode cX2_foldIntoTwo 61 = .ok (.iaload, 1) := by decide +kernel
theorem dX2_foldIntoTwo_62 : decode cX2_foldIntoTwo 62 = .ok (.if_icmp .ge 100, 3) := by decide +kernel
theorem dX2_foldIntoTwo_65 : decode cX2_foldIntoTwo 65 = .ok (.ldc 95, 2) := by decide +kernel
theorem dX2_foldIntoTwo_67 : decode cX2_foldIntoTwo 67 = .ok (.istore 6, 2) := by decide +kernel
theorem dX2_foldIntoTwo_69 : decode cX2_foldIntoTwo 69 = .ok (.iconst 0, 1) := by decide +kernel
theorem dX2_foldIntoTwo_70 : decode cX2_foldIntoTwo 70 = .ok (.istore 7, 2) := by decide +kernel
theorem dX2_foldIntoTwo_72 : decode cX2_foldIntoTwo 72 = .ok (.iload 7, 2) := by decide +kernel
theorem dX2_foldIntoTwo_74 : decode cX2_foldIntoTwo 74 = .ok (.aload_n 0, 1) := by decide +kernel
theorem dX2_foldIntoTwo_75 : decode cX2_foldIntoTwo 75 = .ok (.getfield 27, 3) := by decide +kernel
theorem dX2_foldIntoTwo_78 : decode cX2_foldIntoTwo 78 = .ok (.getfield 92, 3) := by decide +kernel
theorem dX2_foldIntoTwo_81 : decode cX2_foldIntoTwo 81 = .ok (.iload_n 1, 1) := by decide +kernel
theorem dX2_foldIntoTwo_82 : decode cX2_foldIntoTwo 82 = .ok (.iaload, 1) := by decide +kernel
theorem dX2_foldIntoTwo_83 : decode cX2_foldIntoTwo 83 = .ok (.if_icmp .ge 58, 3) := by decide +kernel
theorem dX2_foldIntoTwo_86 : decode cX2_foldIntoTwo 86 = .ok (.aload_n 0, 1) := by decide +kernel
theorem dX2_foldIntoTwo_87 : decode cX2_foldIntoTwo 87 = .ok (.getfield 27, 3) := by decide +kernel
theorem dX2_foldIntoTwo_90 : decode cX2_foldIntoTwo 90 = .ok (.iload_n 1, 1) := by decide +kernel
theorem dX2_foldIntoTwo_91 : decode cX2_foldIntoTwo 91 = .ok (.iload_n 2, 1) := by decide +kernel
theorem dX2_foldIntoTwo_92 : decode cX2_foldIntoTwo 92 = .ok (.iload 7, 2) := by decide +kernel
theorem dX2_foldIntoTwo_94 : decode cX2_foldIntoTwo 94 = .ok (.iload 4, 2) := by decide +kernel
theorem dX2_foldIntoTwo_96 : decode cX2_foldIntoTwo 96 = .ok (.invokevirtual 99, 3) := by decide +kernel
theorem dX2_foldIntoTwo_99 : decode cX2_foldIntoTwo 99 = .ok (.aload_n 0, 1) := by decide +kernel
theorem dX2_foldIntoTwo_100 : decode cX2_foldIntoTwo 100 = .ok (.getfield 27, 3) := by decide +kernel
theorem dX2_foldIntoTwo_103 : decode cX2_foldIntoTwo 103 = .ok (.iload_n 1, 1) := by decide +kernel
theorem dX2_foldIntoTwo_104 : decode cX2_foldIntoTwo 104 = .ok (.iload_n 3, 1) := by decide +kernel
theorem dX2_foldIntoTwo_105 : decode cX2_foldIntoTwo 105 = .ok (.iload 7, 2) := by decide +kernel
theorem dX2_foldIntoTwo_107 : decode cX2_foldIntoTwo 107 = .ok (.iload 5, 2) := by decide +kernel
theorem dX2_foldIntoTwo_109 : decode cX2_foldIntoTwo 109 = .ok (.invokevirtual 99, 3) := by decide +kernel
theorem dX2_foldIntoTwo_112 : decode cX2_foldIntoTwo 112 = .ok (.iadd, 1) := by decide +kernel
theorem dX2_foldIntoTwo_113 : decode cX2_foldIntoTwo 113 = .ok (.istore 8, 2) := by decide +kernel
theorem dX2_foldIntoTwo_115 : decode cX2_foldIntoTwo 115 = .ok (.iload 6, 2) := by decide +kernel
theorem dX2_foldIntoTwo_117 : decode cX2_foldIntoTwo 117 = .ok (.aload_n 0, 1) := by decide +kernel
theorem dX2_foldIntoTwo_118 : decode cX2_foldIntoTwo 118 = .ok (.getfield 27, 3) := by decide +kernel
theorem dX2_foldIntoTwo_121 : decode cX2_foldIntoTwo 121 = .ok (.iload_n 1, 1) := by decide +kernel
theorem dX2_foldIntoTwo_122 : decode cX2_foldIntoTwo 122 = .ok (.iload 7, 2) := by decide +kernel
theorem dX2_foldIntoTwo_124 : decode cX2_foldIntoTwo 124 = .ok (.invokevirtual 96, 3) := by decide +kernel
theorem dX2_foldIntoTwo_127 : decode cX2_foldIntoTwo 127 = .ok (.iload 8, 2) := by decide +kernel
theorem dX2_foldIntoTwo_129 : decode cX2_foldIntoTwo 129 = .ok (.iadd, 1) := by decide +kernel
theorem dX2_foldIntoTwo_130 : decode cX2_foldIntoTwo 130 = .ok (.invokestatic 59, 3) := by decide +kernel
theorem dX2_foldIntoTwo_133 : decode cX2_foldIntoTwo 133 = .ok (.istore 6, 2) := by decide +kernel
theorem dX2_foldIntoTwo_135 : decode cX2_foldIntoTwo 135 = .ok (.iinc 7 1, 3) := by decide +kernel
theorem dX2_foldIntoTwo_138 : decode cX2_foldIntoTwo 138 = .ok (.goto (-66), 3) := by decide +kernel
theorem dX2_foldIntoTwo_141 : decode cX2_foldIntoTwo 141 = .ok (.aload_n 0, 1) := by decide +kernel
theorem dX2_foldIntoTwo_142 : decode cX2_foldIntoTwo 142 = .ok (.getfield 27, 3) := by decide +kernel
theorem dX2_foldIntoTwo_145 : decode cX2_foldIntoTwo 145 = .ok (.iload_n 2, 1) := by decide +kernel
theorem dX2_foldIntoTwo_146 : decode cX2_foldIntoTwo 146 = .ok (.iload_n 3, 1) := by decide +kernel
theorem dX2_foldIntoTwo_147 : decode cX2_foldIntoTwo 147 = .ok (.iload 4, 2) := by decide +kernel
theorem dX2_foldIntoTwo_149 : decode cX2_foldIntoTwo 149 = .ok (.iload 5, 2) := by decide +kernel
theorem dX2_foldIntoTwo_151 : decode cX2_foldIntoTwo 151 = .ok (.iload 6, 2) := by decide +kernel
theorem dX2_foldIntoTwo_153 : decode cX2_foldIntoTwo 153 = .ok (.invokevirtual 116, 3) := by decide +kernel
theorem dX2_foldIntoTwo_156 : decode cX2_foldIntoTwo 156 = .ok (.iinc 5 1, 3) := by decide +kernel
theorem dX2_foldIntoTwo_159 : decode cX2_foldIntoTwo 159 = .ok (.goto (-108), 3) := by decide +kernel
theorem dX2_foldIntoTwo_162 : decode cX2_foldIntoTwo 162 = .ok (.iinc 4 1, 3) := by decide +kernel
theorem dX2_foldIntoTwo_165 : decode cX2_foldIntoTwo 165 = .ok (.goto (-131), 3) := by decide +kernel
theorem dX2_foldIntoTwo_168 : decode cX2_foldIntoTwo 168 = .ok (.return_, 1) := by decide +kernel
theorem dX2_guess_0 : decode cX2_guess 0 = .ok (.aload_n 0, 1) := by decide +kernel
theorem dX2_guess_1 : decode cX2_guess 1 = .ok (.iconst 1, 1) := by decide +kernel
theorem dX2_guess_2 : decode cX2_guess 2 = .ok (.putfield 35, 3) := by decide +kernel
theorem dX2_guess_5 : decode cX2_guess 5 = .ok (.iconst 0, 1) := by decide +kernel
theorem dX2_guess_6 : decode cX2_guess 6 = .ok (.istore_n 3, 1) := by decide +kernel
theorem dX2_guess_7 : decode cX2_guess 7 = .ok (.aload_n 0, 1) := by decide +kernel
theorem dX2_guess_8 : decode cX2_guess 8 = .ok (.iload_n 1, 1) := by decide +kernel
theorem dX2_guess_9 : decode cX2_guess 9 = .ok (.iconst 0, 1) := by decide +kernel
theorem dX2_guess_10 : decode cX2_guess 10 = .ok (.iload_n 2, 1) := by decide +kernel
theorem dX2_guess_11 : decode cX2_guess 11 = .ok (.invokevirtual 120, 3) := by decide +kernel
theorem dX2_guess_14 : decode cX2_guess 14 = .ok (.istore 4, 2) := by decide +kernel
theorem dX2_guess_16 : decode cX2_guess 16 = .ok (.iconst 1, 1) := by decide +kernel
theorem dX2_guess_17 : decode cX2_guess 17 = .ok (.istore 5, 2) := by decide +kernel
theorem dX2_guess_19 : decode cX2_guess 19 = .ok (.iload 5, 2) := by decide +kernel
theorem dX2_guess_21 : decode cX2_guess 21 = .ok (.aload_n 0, 1) := by decide +kernel
theorem dX2_guess_22 : decode cX2_guess 22 = .ok (.getfield 27, 3) := by decide +kernel
theorem dX2_guess_25 : decode cX2_guess 25 = .ok (.getfield 92, 3) := by decide +kernel
theorem dX2_guess_28 : decode cX2_guess 28 = .ok (.iload_n 1, 1) := by decide +kernel
theorem dX2_guess_29 : decode cX2_guess 29 = .ok (.iaload, 1) := by decide +kernel
theorem dX2_guess_30 : decode cX2_guess 30 = .ok (.if_icmp .ge 33, 3) := by decide +kernel
theorem dX2_guess_33 : decode cX2_guess 33 = .ok (.aload_n 0, 1) := by decide +kernel
theorem dX2_guess_34 : decode cX2_guess 34 = .ok (.iload_n 1, 1) := by decide +kernel
theorem dX2_guess_35 : decode cX2_guess 35 = .ok (.iload 5, 2) := by decide +kernel
theorem dX2_guess_37 : decode cX2_guess 37 = .ok (.iload_n 2, 1) := by decide +kernel
theorem dX2_guess_38 : decode cX2_guess 38 = .ok (.invokevirtual 120, 3) := by decide +kernel
theorem dX2_guess_41 : decode cX2_guess 41 = .ok (.istore 6, 2) := by decide +kernel
theorem dX2_guess_43 : decode cX2_guess 43 = .ok (.iload 6, 2) := by decide +kernel
theorem dX2_guess_45 : decode cX2_guess 45 = .ok (.iload 4, 2) := by decide +kernel
theorem dX2_guess_47 : decode cX2_guess 47 = .ok (.if_icmp .ge 10, 3) := by decide +kernel
theorem dX2_guess_50 : decode cX2_guess 50 = .ok (.iload 6, 2) := by decide +kernel
theorem dX2_guess_52 : decode cX2_guess 52 = .ok (.istore 4, 2) := by decide +kernel
theorem dX2_guess_54 : decode cX2_guess 54 = .ok (.iload 5, 2) := by decide +kernel
theorem dX2_guess_56 : decode cX2_guess 56 = .ok (.istore_n 3, 1) := by decide +kernel
theorem dX2_guess_57 : decode cX2_guess 57 = .ok (.iinc 5 1, 3) := by decide +kernel
theorem dX2_guess_60 : decode cX2_guess 60 = .ok (.goto (-41), 3) := by decide +kernel
theorem dX2_guess_63 : decode cX2_guess 63 = .ok (.aload_n 0, 1) := by decide +kernel
theorem dX2_guess_64 : decode cX2_guess 64 = .ok (.getfield 18, 3) := by decide +kernel
theorem dX2_guess_67 : decode cX2_guess 67 = .ok (.iload_n 1, 1) := by decide +kernel
theorem dX2_guess_68 : decode cX2_guess 68 = .ok (.iload_n 3, 1) := by decide +kernel
theorem dX2_guess_69 : decode cX2_guess 69 = .ok (.iastore, 1) := by decide +kernel
theorem dX2_guess_70 : decode cX2_guess 70 = .ok (.iconst 0, 1) := by decide +kernel
theorem dX2_guess_71 : decode cX2_guess 71 = .ok (.istore 5, 2) := by decide +kernel
theorem dX2_guess_73 : decode cX2_guess 73 = .ok (.iload 5, 2) := by decide +kernel
theorem dX2_guess_75 : decode cX2_guess 75 = .ok (.aload_n 0, 1) := by decide +kernel
theorem dX2_guess_76 : decode cX2_guess 76 = .ok (.getfield 27, 3) := by decide +kernel
theorem dX2_guess_79 : decode cX2_guess 79 = .ok (.getfield 39, 3) := by decide +kernel
theorem dX2_guess_82 : decode cX2_guess 82 = .ok (.if_icmp .ge 66, 3) := by decide +kernel
theorem dX2_guess_85 : decode cX2_guess 85 = .ok (.iload_n 2, 1) := by decide +kernel
theorem dX2_guess_86 : decode cX2_guess 86 = .ok (.iload 5, 2) := by decide +kernel
theorem dX2_guess_88 : decode cX2_guess 88 = .ok (.invokestatic 85, 3) := by decide +kernel
theorem dX2_guess_91 : decode cX2_guess 91 = .ok (.ifCond .eq 51, 3) := by decide +kernel
theorem dX2_guess_94 : decode cX2_guess 94 = .ok (.iconst 0, 1) := by decide +kernel
theorem dX2_guess_95 : decode cX2_guess 95 = .ok (.istore 6, 2) := by decide +kernel
theorem dX2_guess_97 : decode cX2_guess 97 = .ok (.iload 6, 2) := by decide +kernel
theorem dX2_guess_99 : decode cX2_guess 99 = .ok (.aload_n 0, 1) := by decide +kernel
theorem dX2_guess_100 : decode cX2_guess 100 = .ok (.getfield 27, 3) := by decide +kernel
theorem dX2_guess_103 : decode cX2_guess 103 = .ok (.getfield 92, 3) := by decide +kernel
theorem dX2_guess_106 : decode cX2_guess 106 = .ok (.iload 5, 2) := by decide +kernel
theorem dX2_guess_108 : decode cX2_guess 108 = .ok (.iaload, 1) := by decide +kernel
theorem dX2_guess_109 : decode cX2_guess 109 = .ok (.if_icmp .ge 33, 3) := by decide +kernel
theorem dX2_guess_112 : decode cX2_guess 112 = .ok (.aload_n 0, 1) := by decide +kernel
theorem dX2_guess_113 : decode cX2_guess 113 = .ok (.getfield 27, 3) := by decide +kernel
theorem dX2_guess_116 : decode cX2_guess 116 = .ok (.iload 5, 2) := by decide +kernel
theorem dX2_guess_118 : decode cX2_guess 118 = .ok (.iload 6, 2) := by decide +kernel
theorem dX2_guess_120 : decode cX2_guess 120 = .ok (.aload_n 0, 1) := by decide +kernel
theorem dX2_guess_121 : decode cX2_guess 121 = .ok (.getfield 27, 3) := by decide +kernel
theorem dX2_guess_124 : decode cX2_guess 124 = .ok (.iload_n 1, 1) := by decide +kernel
theorem dX2_guess_125 : decode cX2_guess 125 = .ok (.iload 5, 2) := by decide +kernel
theorem dX2_guess_127 : decode cX2_guess 127 = .ok (.iload_n 3, 1) := by decide +kernel
theorem dX2_guess_128 : decode cX2_guess 128 = .ok (.iload 6, 2) := by decide +kernel
theorem dX2_guess_130 : decode cX2_guess 130 = .ok (.invokevirtual 99, 3) := by decide +kernel
theorem dX2_guess_133 : decode cX2_guess 133 = .ok (.invokevirtual 103, 3) := by decide +kernel
theorem dX2_guess_136 : decode cX2_guess 136 = .ok (.iinc 6 1, 3) := by decide +kernel
theorem dX2_guess_139 : decode cX2_guess 139 = .ok (.goto (-42), 3) := by decide +kernel
theorem dX2_guess_142 : decode cX2_guess 142 = .ok (.iinc 5 1, 3) := by decide +kernel
theorem dX2_guess_145 : decode cX2_guess 145 = .ok (.goto (-72), 3) := by decide +kernel
theorem dX2_guess_148 : decode cX2_guess 148 = .ok (.return_, 1) := by decide +kernel
theorem dX2_outlook_0 : decode cX2_outlook 0 = .ok (.aload_n 0, 1) := by decide +kernel
theorem dX2_outlook_1 : decode cX2_outlook 1 = .ok (.getfield 27, 3) := by decide +kernel
theorem dX2_outlook_4 : decode cX2_outlook 4 = .ok (.iload_n 1, 1) := by decide +kernel
theorem dX2_outlook_5 : decode cX2_outlook 5 = .ok (.iload_n 2, 1) := by decide +kernel
theorem dX2_outlook_6 : decode cX2_outlook 6 = .ok (.invokevirtual 96, 3) := by decide +kernel
theorem dX2_outlook_9 : decode cX2_outlook 9 = .ok (.istore 4, 2) := by decide +kernel
theorem dX2_outlook_11 : decode cX2_outlook 11 = .ok (.iconst 0, 1) := by decide +kernel
theorem dX2_outlook_12 : decode cX2_outlook 12 = .ok (.istore 5, 2) := by decide +kernel
theorem dX2_outlook_14 : decode cX2_outlook 14 = .ok (.iload 5, 2) := by decide +kernel
theorem dX2_outlook_16 : decode cX2_outlook 16 = .ok (.aload_n 0, 1) := by decide +kernel
theorem dX2_outlook_17 : decode cX2_outlook 17 = .ok (.getfield 27, 3) := by decide +kernel
theorem dX2_outlook_20 : decode cX2_outlook 20 = .ok (.getfield 39, 3) := by decide +kernel
theorem dX2_outlook_23 : decode cX2_outlook 23 = .ok (.if_icmp .ge 37, 3) := by decide +kernel
theorem dX2_outlook_26 : decode cX2_outlook 26 = .ok (.iload_n 3, 1) := by decide +kernel
theorem dX2_outlook_27 : decode cX2_outlook 27 = .ok (.iload 5, 2) := by decide +kernel
theorem dX2_outlook_29 : decode cX2_outlook 29 = .ok (.invokestatic 85, 3) := by decide +kernel
theorem dX2_outlook_32 : decode cX2_outlook 32 = .ok (.ifCond .eq 22, 3) := by decide +kernel
theorem dX2_outlook_35 : decode cX2_outlook 35 = .ok (.iload 4, 2) := by decide +kernel
theorem dX2_outlook_37 : decode cX2_outlook 37 = .ok (.aload_n 0, 1) := by decide +kernel
theorem dX2_outlook_38 : decode cX2_outlook 38 = .ok (.getfield 27, 3) := by decide +kernel
theorem dX2_outlook_41 : decode cX2_outlook 41 = .ok (.iload_n 1, 1) := by decide +kernel
theorem dX2_outlook_42 : decode cX2_outlook 42 = .ok (.iload_n 2, 1) := by decide +kernel
theorem dX2_outlook_43 : decode cX2_outlook 43 = .ok (.iload 5, 2) := by decide +kernel
theorem dX2_outlook_45 : decode cX2_outlook 45 = .ok (.invokevirtual 124, 3) := by decide +kernel
theorem dX2_outlook_48 : decode cX2_outlook 48 = .ok (.iadd, 1) := by decide +kernel
theorem dX2_outlook_49 : decode cX2_outlook 49 = .ok (.invokestatic 127, 3) := by decide +kernel
theorem dX2_outlook_52 : decode cX2_outlook 52 = .ok (.istore 4, 2) := by decide +kernel
theorem dX2_outlook_54 : decode cX2_outlook 54 = .ok (.iinc 5 1, 3) := by decide +kernel
theorem dX2_outlook_57 : decode cX2_outlook 57 = .ok (.goto (-43), 3) := by decide +kernel
theorem dX2_outlook_60 : decode cX2_outlook 60 = .ok (.iload 4, 2) := by decide +kernel
theorem dX2_outlook_62 : decode cX2_outlook 62 = .ok (.ireturn, 1) := by decide +kernel
theorem dX2_readOff_0 : decode cX2_readOff 0 = .ok (.aload_n 0, 1) := by decide +kernel
theorem dX2_readOff_1 : decode cX2_readOff 1 = .ok (.getfield 27, 3) := by decide +kernel
theorem dX2_readOff_4 : decode cX2_readOff 4 = .ok (.getfield 39, 3) := by decide +kernel
theorem dX2_readOff_7 : decode cX2_readOff 7 = .ok (.iconst 1, 1) := by decide +kernel
theorem dX2_readOff_8 : decode cX2_readOff 8 = .ok (.isub, 1) := by decide +kernel
theorem dX2_readOff_9 : decode cX2_readOff 9 = .ok (.istore_n 1, 1) := by decide +kernel
theorem dX2_readOff_10 : decode cX2_readOff 10 = .ok (.iload_n 1, 1) := by decide +kernel
theorem dX2_readOff_11 : decode cX2_readOff 11 = .ok (.ifCond .lt 46, 3) := by decide +kernel
theorem dX2_readOff_14 : decode cX2_readOff 14 = .ok (.aload_n 0, 1) := by decide +kernel
theorem dX2_readOff_15 : decode cX2_readOff 15 = .ok (.getfield 15, 3) := by decide +kernel
theorem dX2_readOff_18 : decode cX2_readOff 18 = .ok (.iload_n 1, 1) := by decide +kernel
theorem dX2_readOff_19 : decode cX2_readOff 19 = .ok (.iaload, 1) := by decide +kernel
theorem dX2_readOff_20 : decode cX2_readOff 20 = .ok (.iconst 3, 1) := by decide +kernel
theorem dX2_readOff_21 : decode cX2_readOff 21 = .ok (.if_icmp .eq 30, 3) := by decide +kernel
theorem dX2_readOff_24 : decode cX2_readOff 24 = .ok (.aload_n 0, 1) := by decide +kernel
theorem dX2_readOff_25 : decode cX2_readOff 25 = .ok (.getfield 18, 3) := by decide +kernel
theorem dX2_readOff_28 : decode cX2_readOff 28 = .ok (.aload_n 0, 1) := by decide +kernel
theorem dX2_readOff_29 : decode cX2_readOff 29 = .ok (.getfield 9, 3) := by decide +kernel
theorem dX2_readOff_32 : decode cX2_readOff 32 = .ok (.iload_n 1, 1) := by decide +kernel
theorem dX2_readOff_33 : decode cX2_readOff 33 = .ok (.iaload, 1) := by decide +kernel
theorem dX2_readOff_34 : decode cX2_readOff 34 = .ok (.aload_n 0, 1) := by decide +kernel
theorem dX2_readOff_35 : decode cX2_readOff 35 = .ok (.aload_n 0, 1) := by decide +kernel
theorem dX2_readOff_36 : decode cX2_readOff 36 = .ok (.getfield 9, 3) := by decide +kernel
theorem dX2_readOff_39 : decode cX2_readOff 39 = .ok (.iload_n 1, 1) := by decide +kernel
theorem dX2_readOff_40 : decode cX2_readOff 40 = .ok (.iaload, 1) := by decide +kernel
theorem dX2_readOff_41 : decode cX2_readOff 41 = .ok (.aload_n 0, 1) := by decide +kernel
theorem dX2_readOff_42 : decode cX2_readOff 42 = .ok (.getfield 21, 3) := by decide +kernel
theorem dX2_readOff_45 : decode cX2_readOff 45 = .ok (.iload_n 1, 1) := by decide +kernel
theorem dX2_readOff_46 : decode cX2_readOff 46 = .ok (.iaload, 1) := by decide +kernel
theorem dX2_readOff_47 : decode cX2_readOff 47 = .ok (.invokevirtual 130, 3) := by decide +kernel
theorem dX2_readOff_50 : decode cX2_readOff 50 = .ok (.iastore, 1) := by decide +kernel
theorem dX2_readOff_51 : decode cX2_readOff 51 = .ok (.iinc 1 (-1), 3) := by decide +kernel
theorem dX2_readOff_54 : decode cX2_readOff 54 = .ok (.goto (-44), 3) := by decide +kernel
theorem dX2_readOff_57 : decode cX2_readOff 57 = .ok (.return_, 1) := by decide +kernel
theorem dX2_firstLeast_0 : decode cX2_firstLeast 0 = .ok (.iconst 0, 1) := by decide +kernel
theorem dX2_firstLeast_1 : decode cX2_firstLeast 1 = .ok (.istore_n 3, 1) := by decide +kernel
theorem dX2_firstLeast_2 : decode cX2_firstLeast 2 = .ok (.aload_n 0, 1) := by decide +kernel
theorem dX2_firstLeast_3 : decode cX2_firstLeast 3 = .ok (.getfield 27, 3) := by decide +kernel
theorem dX2_firstLeast_6 : decode cX2_firstLeast 6 = .ok (.iload_n 1, 1) := by decide +kernel
theorem dX2_firstLeast_7 : decode cX2_firstLeast 7 = .ok (.iconst 0, 1) := by decide +kernel
theorem dX2_firstLeast_8 : decode cX2_firstLeast 8 = .ok (.iload_n 2, 1) := by decide +kernel
theorem dX2_firstLeast_9 : decode cX2_firstLeast 9 = .ok (.aload_n 0, 1) := by decide +kernel
theorem dX2_firstLeast_10 : decode cX2_firstLeast 10 = .ok (.getfield 18, 3) := by decide +kernel
theorem dX2_firstLeast_13 : decode cX2_firstLeast 13 = .ok (.invokevirtual 133, 3) := by decide +kernel
theorem dX2_firstLeast_16 : decode cX2_firstLeast 16 = .ok (.istore 4, 2) := by decide +kernel
theorem dX2_firstLeast_18 : decode cX2_firstLeast 18 = .ok (.iconst 1, 1) := by decide +kernel
theorem dX2_firstLeast_19 : decode cX2_firstLeast 19 = .ok (.istore 5, 2) := by decide +kernel
theorem dX2_firstLeast_21 : decode cX2_firstLeast 21 = .ok (.iload 5, 2) := by decide +kernel
theorem dX2_firstLeast_23 : decode cX2_firstLeast 23 = .ok (.aload_n 0, 1) := by decide +kernel
theorem dX2_firstLeast_24 : decode cX2_firstLeast 24 = .ok (.getfield 27, 3) := by decide +kernel
theorem dX2_firstLeast_27 : decode cX2_firstLeast 27 = .ok (.getfield 92, 3) := by decide +kernel
theorem dX2_firstLeast_30 : decode cX2_firstLeast 30 = .ok (.iload_n 1, 1) := by decide +kernel
theorem dX2_firstLeast_31 : decode cX2_firstLeast 31 = .ok (.iaload, 1) := by decide +kernel
theorem dX2_firstLeast_32 : decode cX2_firstLeast 32 = .ok (.if_icmp .ge 40, 3) := by decide +kernel
theorem dX2_firstLeast_35 : decode cX2_firstLeast 35 = .ok (.aload_n 0, 1) := by decide +kernel
theorem dX2_firstLeast_36 : decode cX2_firstLeast 36 = .ok (.getfield 27, 3) := by decide +kernel
theorem dX2_firstLeast_39 : decode cX2_firstLeast 39 = .ok (.iload_n 1, 1) := by decide +kernel
theorem dX2_firstLeast_40 : decode cX2_firstLeast 40 = .ok (.iload 5, 2) := by decide +kernel
theorem dX2_firstLeast_42 : decode cX2_firstLeast 42 = .ok (.iload_n 2, 1) := by decide +kernel
theorem dX2_firstLeast_43 : decode cX2_firstLeast 43 = .ok (.aload_n 0, 1) := by decide +kernel
theorem dX2_firstLeast_44 : decode cX2_firstLeast 44 = .ok (.getfield 18, 3) := by decide +kernel
theorem dX2_firstLeast_47 : decode cX2_firstLeast 47 = .ok (.invokevirtual 133, 3) := by decide +kernel
theorem dX2_firstLeast_50 : decode cX2_firstLeast 50 = .ok (.istore 6, 2) := by decide +kernel
theorem dX2_firstLeast_52 : decode cX2_firstLeast 52 = .ok (.iload 6, 2) := by decide +kernel
theorem dX2_firstLeast_54 : decode cX2_firstLeast 54 = .ok (.iload 4, 2) := by decide +kernel
theorem dX2_firstLeast_56 : decode cX2_firstLeast 56 = .ok (.if_icmp .ge 10, 3) := by decide +kernel
theorem dX2_firstLeast_59 : decode cX2_firstLeast 59 = .ok (.iload 6, 2) := by decide +kernel
theorem dX2_firstLeast_61 : decode cX2_firstLeast 61 = .ok (.istore 4, 2) := by decide +kernel
theorem dX2_firstLeast_63 : decode cX2_firstLeast 63 = .ok (.iload 5, 2) := by decide +kernel
theorem dX2_firstLeast_65 : decode cX2_firstLeast 65 = .ok (.istore_n 3, 1) := by decide +kernel
theorem dX2_firstLeast_66 : decode cX2_firstLeast 66 = .ok (.iinc 5 1, 3) := by decide +kernel
theorem dX2_firstLeast_69 : decode cX2_firstLeast 69 = .ok (.goto (-48), 3) := by decide +kernel
theorem dX2_firstLeast_72 : decode cX2_firstLeast 72 = .ok (.iload_n 3, 1) := by decide +kernel
theorem dX2_firstLeast_73 : decode cX2_firstLeast 73 = .ok (.ireturn, 1) := by decide +kernel
theorem dX3_init_0 : decode cX3_init 0 = .ok (.aload_n 0, 1) := by decide +kernel
theorem dX3_init_1 : decode cX3_init 1 = .ok (.invokespecial 3, 3) := by decide +kernel
theorem dX3_init_4 : decode cX3_init 4 = .ok (.aload_n 0, 1) := by decide +kernel
theorem dX3_init_5 : decode cX3_init 5 = .ok (.bipush 8, 2) := by decide +kernel
theorem dX3_init_7 : decode cX3_init 7 = .ok (.newarray .int, 2) := by decide +kernel
theorem dX3_init_9 : decode cX3_init 9 = .ok (.putfield 9, 3) := by decide +kernel
theorem dX3_init_12 : decode cX3_init 12 = .ok (.aload_n 0, 1) := by decide +kernel
theorem dX3_init_13 : decode cX3_init 13 = .ok (.bipush 8, 2) := by decide +kernel
theorem dX3_init_15 : decode cX3_init 15 = .ok (.newarray .int, 2) := by decide +kernel
theorem dX3_init_17 : decode cX3_init 17 = .ok (.putfield 15, 3) := by decide +kernel
theorem dX3_init_20 : decode cX3_init 20 = .ok (.aload_n 0, 1) := by decide +kernel
theorem dX3_init_21 : decode cX3_init 21 = .ok (.bipush 9, 2) := by decide +kernel
theorem dX3_init_23 : decode cX3_init 23 = .ok (.newarray .int, 2) := by decide +kernel
theorem dX3_init_25 : decode cX3_init 25 = .ok (.putfield 18, 3) := by decide +kernel
theorem dX3_init_28 : decode cX3_init 28 = .ok (.aload_n 0, 1) := by decide +kernel
theorem dX3_init_29 : decode cX3_init 29 = .ok (.aload_n 1, 1) := by decide +kernel
theorem dX3_init_30 : decode cX3_init 30 = .ok (.putfield 21, 3) := by decide +kernel
theorem dX3_init_33 : decode cX3_init 33 = .ok (.aload_n 0, 1) := by decide +kernel
theorem dX3_init_34 : decode cX3_init 34 = .ok (.iload_n 2, 1) := by decide +kernel
theorem dX3_init_35 : decode cX3_init 35 = .ok (.putfield 25, 3) := by decide +kernel
theorem dX3_init_38 : decode cX3_init 38 = .ok (.return_, 1) := by decide +kernel
theorem dX3_run_0 : decode cX3_run 0 = .ok (.aload_n 0, 1) := by decide +kernel
theorem dX3_run_1 : decode cX3_run 1 = .ok (.ldc 29, 2) := by decide +kernel
theorem dX3_run_3 : decode cX3_run 3 = .ok (.putfield 30, 3) := by decide +kernel
theorem dX3_run_6 : decode cX3_run 6 = .ok (.aload_n 0, 1) := by decide +kernel
theorem dX3_run_7 : decode cX3_run 7 = .ok (.ldc 29, 2) := by decide +kernel
theorem dX3_run_9 : decode cX3_run 9 = .ok (.putfield 34, 3) := by decide +kernel
theorem dX3_run_12 : decode cX3_run 12 = .ok (.aload_n 0, 1) := by decide +kernel
theorem dX3_run_13 : decode cX3_run 13 = .ok (.iconst 0, 1) := by decide +kernel
theorem dX3_run_14 : decode cX3_run 14 = .ok (.putfield 37, 3) := by decide +kernel
theorem dX3_run_17 : decode cX3_run 17 = .ok (.aload_n 0, 1) := by decide +kernel
theorem dX3_run_18 : decode cX3_run 18 = .ok (.iconst 0, 1) := by decide +kernel
theorem dX3_run_19 : decode cX3_run 19 = .ok (.putfield 40, 3) := by decide +kernel
theorem dX3_run_22 : decode cX3_run 22 = .ok (.aload_n 0, 1) := by decide +kernel
theorem dX3_run_23 : decode cX3_run 23 = .ok (.getfield 18, 3) := by decide +kernel
theorem dX3_run_26 : decode cX3_run 26 = .ok (.aload_n 0, 1) := by decide +kernel
theorem dX3_run_27 : decode cX3_run 27 = .ok (.getfield 21, 3) := by decide +kernel
theorem dX3_run_30 : decode cX3_run 30 = .ok (.getfield 43, 3) := by decide +kernel
theorem dX3_run_33 : decode cX3_run 33 = .ok (.iconst 0, 1) := by decide +kernel
theorem dX3_run_34 : decode cX3_run 34 = .ok (.iastore, 1) := by decide +kernel
theorem dX3_run_35 : decode cX3_run 35 = .ok (.aload_n 0, 1) := by decide +kernel
theorem dX3_run_36 : decode cX3_run 36 = .ok (.getfield 21, 3) := by decide +kernel
theorem dX3_run_39 : decode cX3_run 39 = .ok (.getfield 43, 3) := by decide +kernel
theorem dX3_run_42 : decode cX3_run 42 = .ok (.iconst 1, 1) := by decide +kernel
theorem dX3_run_43 : decode cX3_run 43 = .ok (.isub, 1) := by decide +kernel
theorem dX3_run_44 : decode cX3_run 44 = .ok (.istore_n 1, 1) := by decide +kernel
theorem dX3_run_45 : decode cX3_run 45 = .ok (.iload_n 1, 1) := by decide +kernel
theorem dX3_run_46 : decode cX3_run 46 = .ok (.ifCond .lt 35, 3) := by decide +kernel
theorem dX3_run_49 : decode cX3_run 49 = .ok (.aload_n 0, 1) := by decide +kernel
theorem dX3_run_50 : decode cX3_run 50 = .ok (.getfield 18, 3) := by decide +kernel
theorem dX3_run_53 : decode cX3_run 53 = .ok (.iload_n 1, 1) := by decide +kernel
theorem dX3_run_54 : decode cX3_run 54 = .ok (.aload_n 0, 1) := by decide +kernel
theorem dX3_run_55 : decode cX3_run 55 = .ok (.getfield 18, 3) := by decide +kernel
theorem dX3_run_58 : decode cX3_run 58 = .ok (.iload_n 1, 1) := by decide +kernel
theorem dX3_run_59 : decode cX3_run 59 = .ok (.iconst 1, 1) := by decide +kernel
theorem dX3_run_60 : decode cX3_run 60 = .ok (.iadd, 1) := by decide +kernel
theorem dX3_run_61 : decode cX3_run 61 = .ok (.iaload, 1) := by decide +kernel
theorem dX3_run_62 : decode cX3_run 62 = .ok (.aload_n 0, 1) := by decide +kernel
theorem dX3_run_63 : decode cX3_run 63 = .ok (.getfield 21, 3) := by decide +kernel
theorem dX3_run_66 : decode cX3_run 66 = .ok (.iload_n 1, 1) := by decide +kernel
theorem dX3_run_67 : decode cX3_run 67 = .ok (.invokevirtual 48, 3) := by decide +kernel
theorem dX3_run_70 : decode cX3_run 70 = .ok (.iadd, 1) := by decide +kernel
theorem dX3_run_71 : decode cX3_run 71 = .ok (.invokestatic 52, 3) := by decide +kernel
theorem dX3_run_74 : decode cX3_run 74 = .ok (.iastore, 1) := by decide +kernel
theorem dX3_run_75 : decode cX3_run 75 = .ok (.iinc 1 (-1), 3) := by decide +kernel
theorem dX3_run_78 : decode cX3_run 78 = .ok (.goto (-33), 3) := by decide +kernel
theorem dX3_run_81 : decode cX3_run 81 = .ok (.aload_n 0, 1) := by decide +kernel
theorem dX3_run_82 : decode cX3_run 82 = .ok (.iconst 0, 1) := by decide +kernel
theorem dX3_run_83 : decode cX3_run 83 = .ok (.iconst 0, 1) := by decide +kernel
theorem dX3_run_84 : decode cX3_run 84 = .ok (.invokevirtual 55, 3) := by decide +kernel
theorem dX3_run_87 : decode cX3_run 87 = .ok (.return_, 1) := by decide +kernel
theorem dX3_tryFrom_0 : decode cX3_tryFrom 0 = .ok (.iload_n 1, 1) := by decide +kernel
theorem dX3_tryFrom_1 : decode cX3_tryFrom 1 = .ok (.aload_n 0, 1) := by decide +kernel
theorem dX3_tryFrom_2 : decode cX3_tryFrom 2 = .ok (.getfield 21, 3) := by decide +kernel
theorem dX3_tryFrom_5 : decode cX3_tryFrom 5 = .ok (.getfield 43, 3) := by decide +kernel
theorem dX3_tryFrom_8 : decode cX3_tryFrom 8 = .ok (.if_icmp .ge 9, 3) := by decide +kernel
theorem dX3_tryFrom_11 : decode cX3_tryFrom 11 = .ok (.iload_n 1, 1) := by decide +kernel
theorem dX3_tryFrom_12 : decode cX3_tryFrom 12 = .ok (.bipush 8, 2) := by decide +kernel
theorem dX3_tryFrom_14 : decode cX3_tryFrom 14 = .ok (.if_icmp .lt 9, 3) := by decide +kernel
theorem dX3_tryFrom_17 : decode cX3_tryFrom 17 = .ok (.aload_n 0, 1) := by decide +kernel
theorem dX3_tryFrom_18 : decode cX3_tryFrom 18 = .ok (.iload_n 2, 1) := by decide +kernel
theorem dX3_tryFrom_19 : decode cX3_tryFrom 19 = .ok (.invokevirtual 59, 3) := by decide +kernel
theorem dX3_tryFrom_22 : decode cX3_tryFrom 22 = .ok (.return_, 1) := by decide +kernel
theorem dX3_tryFrom_23 : decode cX3_tryFrom 23 = .ok (.aload_n 0, 1) := by decide +kernel
theorem dX3_tryFrom_24 : decode cX3_tryFrom 24 = .ok (.getfield 21, 3) := by decide +kernel
theorem dX3_tryFrom_27 : decode cX3_tryFrom 27 = .ok (.iload_n 1, 1) := by decide +kernel
theorem dX3_tryFrom_28 : decode cX3_tryFrom 28 = .ok (.invokevirtual 63, 3) := by decide +kernel
theorem dX3_tryFrom_31 : decode cX3_tryFrom 31 = .ok (.istore_n 3, 1) := by decide +kernel
theorem dX3_tryFrom_32 : decode cX3_tryFrom 32 = .ok (.iconst 0, 1) := by decide +kernel
theorem dX3_tryFrom_33 : decode cX3_tryFrom 33 = .ok (.istore 4, 2) := by decide +kernel
theorem dX3_tryFrom_35 : decode cX3_tryFrom 35 = .ok (.iload 4, 2) := by decide +kernel
theorem dX3_tryFrom_37 : decode cX3_tryFrom 37 = .ok (.aload_n 0, 1) := by decide +kernel
theorem dX3_tryFrom_38 : decode cX3_tryFrom 38 = .ok (.getfield 21, 3) := by decide +kernel
theorem dX3_tryFrom_41 : decode cX3_tryFrom 41 = .ok (.getfield 66, 3) := by decide +kernel
theorem dX3_tryFrom_44 : decode cX3_tryFrom 44 = .ok (.iload_n 1, 1) := by decide +kernel
theorem dX3_tryFrom_45 : decode cX3_tryFrom 45 = .ok (.iaload, 1) := by decide +kernel
theorem dX3_tryFrom_46 : decode cX3_tryFrom 46 = .ok (.if_icmp .ge 63, 3) := by decide +kernel
theorem dX3_tryFrom_49 : decode cX3_tryFrom 49 = .ok (.iload_n 2, 1) := by decide +kernel
theorem dX3_tryFrom_50 : decode cX3_tryFrom 50 = .ok (.aload_n 0, 1) := by decide +kernel
theorem dX3_tryFrom_51 : decode cX3_tryFrom 51 = .ok (.getfield 21, 3) := by decide +kernel
theorem dX3_tryFrom_54 : decode cX3_tryFrom 54 = .ok (.iload_n 1, 1) := by decide +kernel
theorem dX3_tryFrom_55 : decode cX3_tryFrom 55 = .ok (.iload 4, 2) := by decide +kernel
theorem dX3_tryFrom_57 : decode cX3_tryFrom 57 = .ok (.iload_n 3, 1) := by decide +kernel
theorem dX3_tryFrom_58 : decode cX3_tryFrom 58 = .ok (.aload_n 0, 1) := by decide +kernel
theorem dX3_tryFrom_59 : decode cX3_tryFrom 59 = .ok (.getfield 15, 3) := by decide +kernel
theorem dX3_tryFrom_62 : decode cX3_tryFrom 62 = .ok (.invokevirtual 69, 3) := by decide +kernel
theorem dX3_tryFrom_65 : decode cX3_tryFrom 65 = .ok (.iadd, 1) := by decide +kernel
theorem dX3_tryFrom_66 : decode cX3_tryFrom 66 = .ok (.istore 5, 2) := by decide +kernel
theorem dX3_tryFrom_68 : decode cX3_tryFrom 68 = .ok (.iload 5, 2) := by decide +kernel
theorem dX3_tryFrom_70 : decode cX3_tryFrom 70 = .ok (.aload_n 0, 1) := by decide +kernel
theorem dX3_tryFrom_71 : decode cX3_tryFrom 71 = .ok (.getfield 18, 3) := by decide +kernel
theorem dX3_tryFrom_74 : decode cX3_tryFrom 74 = .ok (.iload_n 1, 1) := by decide +kernel
theorem dX3_tryFrom_75 : decode cX3_tryFrom 75 = .ok (.iconst 1, 1) := by decide +kernel
theorem dX3_tryFrom_76 : decode cX3_tryFrom 76 = .ok (.iadd, 1) := by decide +kernel
theorem dX3_tryFrom_77 : decode cX3_tryFrom 77 = .ok (.iaload, 1) := by decide +kernel
theorem dX3_tryFrom_78 : decode cX3_tryFrom 78 = .ok (.iadd, 1) := by decide +kernel
theorem dX3_tryFrom_79 : decode cX3_tryFrom 79 = .ok (.aload_n 0, 1) := by decide +kernel
theorem dX3_tryFrom_80 : decode cX3_tryFrom 80 = .ok (.getfield 34, 3) := by decide +kernel
theorem dX3_tryFrom_83 : decode cX3_tryFrom 83 = .ok (.if_icmp .ge 20, 3) := by decide +kernel
theorem dX3_tryFrom_86 : decode cX3_tryFrom 86 = .ok (.aload_n 0, 1) := by decide +kernel
theorem dX3_tryFrom_87 : decode cX3_tryFrom 87 = .ok (.getfield 15, 3) := by decide +kernel
theorem dX3_tryFrom_90 : decode cX3_tryFrom 90 = .ok (.iload_n 1, 1) := by decide +kernel
theorem dX3_tryFrom_91 : decode cX3_tryFrom 91 = .ok (.iload 4, 2) := by decide +kernel
theorem dX3_tryFrom_93 : decode cX3_tryFrom 93 = .ok (.iastore, 1) := by decide +kernel
theorem dX3_tryFrom_94 : decode cX3_tryFrom 94 = .ok (.aload_n 0, 1) := by decide +kernel
theorem dX3_tryFrom_95 : decode cX3_tryFrom 95 = .ok (.iload_n 1, 1) := by decide +kernel
theorem dX3_tryFrom_96 : decode cX3_tryFrom 96 = .ok (.iconst 1, 1) := by decide +kernel
theorem dX3_tryFrom_97 : decode cX3_tryFrom 97 = .ok (.iadd, 1) := by decide +kernel
theorem dX3_tryFrom_98 : decode cX3_tryFrom 98 = .ok (.iload 5, 2) := by decide +kernel
theorem dX3_tryFrom_100 : decode cX3_tryFrom 100 = .ok (.invokevirtual 55, 3) := by decide +kernel
theorem dX3_tryFrom_103 : decode cX3_tryFrom 103 = .ok (.iinc 4 1, 3) := by decide +kernel
theorem dX3_tryFrom_106 : decode cX3_tryFrom 106 = .ok (.goto (-71), 3) := by decide +kernel
theorem dX3_tryFrom_109 : decode cX3_tryFrom 109 = .ok (.return_, 1) := by decide +kernel
theorem dX3_takeIn_0 : decode cX3_takeIn 0 = .ok (.iload_n 1, 1) := by decide +kernel
theorem dX3_takeIn_1 : decode cX3_takeIn 1 = .ok (.aload_n 0, 1) := by decide +kernel
theorem dX3_takeIn_2 : decode cX3_takeIn 2 = .ok (.getfield 30, 3) := by decide +kernel
theorem dX3_takeIn_5 : decode cX3_takeIn 5 = .ok (.if_icmp .ge 61, 3) := by decide +kernel
theorem dX3_takeIn_8 : decode cX3_takeIn 8 = .ok (.aload_n 0, 1) := by decide +kernel
theorem dX3_takeIn_9 : decode cX3_takeIn 9 = .ok (.aload_n 0, 1) := by decide +kernel
theorem dX3_takeIn_10 : decode cX3_takeIn 10 = .ok (.getfield 25, 3) := by decide +kernel
theorem dX3_takeIn_13 : decode cX3_takeIn 13 = .ok (.ifCond .eq 7, 3) := by decide +kernel
theorem dX3_takeIn_16 : decode cX3_takeIn 16 = .ok (.iload_n 1, 1) := by decide +kernel
theorem dX3_takeIn_17 : decode cX3_takeIn 17 = .ok (.goto 7, 3) := by decide +kernel
theorem dX3_takeIn_20 : decode cX3_takeIn 20 = .ok (.aload_n 0, 1) := by decide +kernel
theorem dX3_takeIn_21 : decode cX3_takeIn 21 = .ok (.getfield 30, 3) := by decide +kernel
theorem dX3_takeIn_24 : decode cX3_takeIn 24 = .ok (.putfield 34, 3) := by decide +kernel
theorem dX3_takeIn_27 : decode cX3_takeIn 27 = .ok (.aload_n 0, 1) := by decide +kernel
theorem dX3_takeIn_28 : decode cX3_takeIn 28 = .ok (.iload_n 1, 1) := by decide +kernel
theorem dX3_takeIn_29 : decode cX3_takeIn 29 = .ok (.putfield 30, 3) := by decide +kernel
theorem dX3_takeIn_32 : decode cX3_takeIn 32 = .ok (.aload_n 0, 1) := by decide +kernel
theorem dX3_takeIn_33 : decode cX3_takeIn 33 = .ok (.iconst 1, 1) := by decide +kernel
theorem dX3_takeIn_34 : decode cX3_takeIn 34 = .ok (.putfield 37, 3) := by decide +kernel
theorem dX3_takeIn_37 : decode cX3_takeIn 37 = .ok (.aload_n 0, 1) := by decide +kernel
theorem dX3_takeIn_38 : decode cX3_takeIn 38 = .ok (.iconst 1, 1) := by decide +kernel
theorem dX3_takeIn_39 : decode cX3_takeIn 39 = .ok (.aload_n 0, 1) := by decide +kernel
theorem dX3_takeIn_40 : decode cX3_takeIn 40 = .ok (.getfield 21, 3) := by decide +kernel
theorem dX3_takeIn_43 : decode cX3_takeIn 43 = .ok (.getfield 43, 3) := by decide +kernel
theorem dX3_takeIn_46 : decode cX3_takeIn 46 = .ok (.ishl, 1) := by decide +kernel
theorem dX3_takeIn_47 : decode cX3_takeIn 47 = .ok (.iconst 1, 1) := by decide +kernel
theorem dX3_takeIn_48 : decode cX3_takeIn 48 = .ok (.isub, 1) := by decide +kernel
theorem dX3_takeIn_49 : decode cX3_takeIn 49 = .ok (.putfield 40, 3) := by decide +kernel
theorem dX3_takeIn_52 : decode cX3_takeIn 52 = .ok (.aload_n 0, 1) := by decide +kernel
theorem dX3_takeIn_53 : decode cX3_takeIn 53 = .ok (.getfield 15, 3) := by decide +kernel
theorem dX3_takeIn_56 : decode cX3_takeIn 56 = .ok (.aload_n 0, 1) := by decide +kernel
theorem dX3_takeIn_57 : decode cX3_takeIn 57 = .ok (.getfield 9, 3) := by decide +kernel
theorem dX3_takeIn_60 : decode cX3_takeIn 60 = .ok (.invokestatic 73, 3) := by decide +kernel
theorem dX3_takeIn_63 : decode cX3_takeIn 63 = .ok (.goto 42, 3) := by decide +kernel
theorem dX3_takeIn_66 : decode cX3_takeIn 66 = .ok (.iload_n 1, 1) := by decide +kernel
theorem dX3_takeIn_67 : decode cX3_takeIn 67 = .ok (.aload_n 0, 1) := by decide +kernel
theorem dX3_takeIn_68 : decode cX3_takeIn 68 = .ok (.getfield 30, 3) := by decide +kernel
theorem dX3_takeIn_71 : decode cX3_takeIn 71 = .ok (.if_icmp .ne 29, 3) := by decide +kernel
theorem dX3_takeIn_74 : decode cX3_takeIn 74 = .ok (.aload_n 0, 1) := by decide +kernel
theorem dX3_takeIn_75 : decode cX3_takeIn 75 = .ok (.dup, 1) := by decide +kernel
theorem dX3_takeIn_76 : decode cX3_takeIn 76 = .ok (.getfield 37, 3) := by decide +kernel
theorem dX3_takeIn_79 : decode cX3_takeIn 79 = .ok (.iconst 1, 1) := by decide +kernel
theorem dX3_takeIn_80 : decode cX3_takeIn 80 = .ok (.iadd, 1) := by decide +kernel
theorem dX3_takeIn_81 : decode cX3_takeIn 81 = .ok (.putfield 37, 3) := by decide +kernel
theorem dX3_takeIn_84 : decode cX3_takeIn 84 = .ok (.aload_n 0, 1) := by decide +kernel
theorem dX3_takeIn_85 : decode cX3_takeIn 85 = .ok (.dup, 1) := by decide +kernel
theorem dX3_takeIn_86 : decode cX3_takeIn 86 = .ok (.getfield 40, 3) := by decide +kernel
theorem dX3_takeIn_89 : decode cX3_takeIn 89 = .ok (.aload_n 0, 1) := by decide +kernel
theorem dX3_takeIn_90 : decode cX3_takeIn 90 = .ok (.invokevirtual 77, 3) := by decide +kernel
theorem dX3_takeIn_93 : decode cX3_takeIn 93 = .ok (.iand, 1) := by decide +kernel
theorem dX3_takeIn_94 : decode cX3_takeIn 94 = .ok (.putfield 40, 3) := by decide +kernel
theorem dX3_takeIn_97 : decode cX3_takeIn 97 = .ok (.goto 8, 3) := by decide +kernel
theorem dX3_takeIn_100 : decode cX3_takeIn 100 = .ok (.aload_n 0, 1) := by decide +kernel
theorem dX3_takeIn_101 : decode cX3_takeIn 101 = .ok (.iload_n 1, 1) := by decide +kernel
theorem dX3_takeIn_102 : decode cX3_takeIn 102 = .ok (.putfield 34, 3) := by decide +kernel
theorem dX3_takeIn_105 : decode cX3_takeIn 105 = .ok (.return_, 1) := by decide +kernel
theorem dX3_likeFirst_0 : decode cX3_likeFirst 0 = .ok (.iconst 0, 1) := by decide +kernel
theorem dX3_likeFirst_1 : decode cX3_likeFirst 1 = .ok (.istore_n 1, 1) := by decide +kernel
theorem dX3_likeFirst_2 : decode cX3_likeFirst 2 = .ok (.iconst 0, 1) := by decide +kernel
theorem dX3_likeFirst_3 : decode cX3_likeFirst 3 = .ok (.istore_n 2, 1) := by decide +kernel
theorem dX3_likeFirst_4 : decode cX3_likeFirst 4 = .ok (.iload_n 2, 1) := by decide +kernel
theorem dX3_likeFirst_5 : decode cX3_likeFirst 5 = .ok (.aload_n 0, 1) := by decide +kernel
theorem dX3_likeFirst_6 : decode cX3_likeFirst 6 = .ok (.getfield 21, 3) := by decide +kernel
theorem dX3_likeFirst_9 : decode cX3_likeFirst 9 = .ok (.getfield 43, 3) := by decide +kernel
theorem dX3_likeFirst_12 : decode cX3_likeFirst 12 = .ok (.if_icmp .ge 30, 3) := by decide +kernel
theorem dX3_likeFirst_15 : decode cX3_likeFirst 15 = .ok (.aload_n 0, 1) := by decide +kernel
theorem dX3_likeFirst_16 : decode cX3_likeFirst 16 = .ok (.getfield 15, 3) := by decide +kernel
theorem dX3_likeFirst_19 : decode cX3_likeFirst 19 = .ok (.iload_n 2, 1) := by decide +kernel
theorem dX3_likeFirst_20 : decode cX3_likeFirst 20 = .ok (.iaload, 1) := by decide +kernel
theorem dX3_likeFirst_21 : decode cX3_likeFirst 21 = .ok (.aload_n 0, 1) := by decide +kernel
theorem dX3_likeFirst_22 : decode cX3_likeFirst 22 = .ok (.getfield 9, 3) := by decide +kernel
theorem dX3_likeFirst_25 : decode cX3_likeFirst 25 = .ok (.iload_n 2, 1) := by decide +kernel
theorem dX3_likeFirst_26 : decode cX3_likeFirst 26 = .ok (.iaload, 1) := by decide +kernel
theorem dX3_likeFirst_27 : decode cX3_likeFirst 27 = .ok (.if_icmp .ne 9, 3) := by decide +kernel
theorem dX3_likeFirst_30 : decode cX3_likeFirst 30 = .ok (.iload_n 1, 1) := by decide +kernel
theorem dX3_likeFirst_31 : decode cX3_likeFirst 31 = .ok (.iconst 1, 1) := by decide +kernel
theorem dX3_likeFirst_32 : decode cX3_likeFirst 32 = .ok (.iload_n 2, 1) := by decide +kernel
theorem dX3_likeFirst_33 : decode cX3_likeFirst 33 = .ok (.ishl, 1) := by decide +kernel
theorem dX3_likeFirst_34 : decode cX3_likeFirst 34 = .ok (.ior, 1) := by decide +kernel
theorem dX3_likeFirst_35 : decode cX3_likeFirst 35 = .ok (.istore_n 1, 1) := by decide +kernel
theorem dX3_likeFirst_36 : decode cX3_likeFirst 36 = .ok (.iinc 2 1, 3) := by decide +kernel
theorem dX3_likeFirst_39 : decode cX3_likeFirst 39 = .ok (.goto (-35), 3) := by decide +kernel
theorem dX3_likeFirst_42 : decode cX3_likeFirst 42 = .ok (.iload_n 1, 1) := by decide +kernel
theorem dX3_likeFirst_43 : decode cX3_likeFirst 43 = .ok (.ireturn, 1) := by decide +kernel
theorem dX4_init_0 : decode cX4_init 0 = .ok (.aload_n 0, 1) := by decide +kernel
theorem dX4_init_1 : decode cX4_init 1 = .ok (.invokespecial 3, 3) := by decide +kernel
theorem dX4_init_4 : decode cX4_init 4 = .ok (.aload_n 0, 1) := by decide +kernel
theorem dX4_init_5 : decode cX4_init 5 = .ok (.bipush 8, 2) := by decide +kernel
theorem dX4_init_7 : decode cX4_init 7 = .ok (.newarray .int, 2) := by decide +kernel
theorem dX4_init_9 : decode cX4_init 9 = .ok (.putfield 9, 3) := by decide +kernel
theorem dX4_init_12 : decode cX4_init 12 = .ok (.aload_n 0, 1) := by decide +kernel
theorem dX4_init_13 : decode cX4_init 13 = .ok (.bipush 8, 2) := by decide +kernel
theorem dX4_init_15 : decode cX4_init 15 = .ok (.newarray .int, 2) := by decide +kernel
theorem dX4_init_17 : decode cX4_init 17 = .ok (.putfield 15, 3) := by decide +kernel
theorem dX4_init_20 : decode cX4_init 20 = .ok (.aload_n 0, 1) := by decide +kernel
theorem dX4_init_21 : decode cX4_init 21 = .ok (.bipush 32, 2) := by decide +kernel
theorem dX4_init_23 : decode cX4_init 23 = .ok (.newarray .int, 2) := by decide +kernel
theorem dX4_init_25 : decode cX4_init 25 = .ok (.putfield 18, 3) := by decide +kernel
theorem dX4_init_28 : decode cX4_init 28 = .ok (.aload_n 0, 1) := by decide +kernel
theorem dX4_init_29 : decode cX4_init 29 = .ok (.sipush 448, 3) := by decide +kernel
theorem dX4_init_32 : decode cX4_init 32 = .ok (.newarray .int, 2) := by decide +kernel
theorem dX4_init_34 : decode cX4_init 34 = .ok (.putfield 21, 3) := by decide +kernel
theorem dX4_init_37 : decode cX4_init 37 = .ok (.return_, 1) := by decide +kernel
theorem dX4_weigh_0 : decode cX4_weigh 0 = .ok (.aload_n 0, 1) := by decide +kernel
theorem dX4_weigh_1 : decode cX4_weigh 1 = .ok (.aload_n 1, 1) := by decide +kernel
theorem dX4_weigh_2 : decode cX4_weigh 2 = .ok (.getfield 24, 3) := by decide +kernel
theorem dX4_weigh_5 : decode cX4_weigh 5 = .ok (.putfield 30, 3) := by decide +kernel
theorem dX4_weigh_8 : decode cX4_weigh 8 = .ok (.aload_n 1, 1) := by decide +kernel
theorem dX4_weigh_9 : decode cX4_weigh 9 = .ok (.getfield 31, 3) := by decide +kernel
theorem dX4_weigh_12 : decode cX4_weigh 12 = .ok (.aload_n 0, 1) := by decide +kernel
theorem dX4_weigh_13 : decode cX4_weigh 13 = .ok (.getfield 9, 3) := by decide +kernel
theorem dX4_weigh_16 : decode cX4_weigh 16 = .ok (.invokestatic 32, 3) := by decide +kernel
theorem dX4_weigh_19 : decode cX4_weigh 19 = .ok (.aload_n 1, 1) := by decide +kernel
theorem dX4_weigh_20 : decode cX4_weigh 20 = .ok (.getfield 36, 3) := by decide +kernel
theorem dX4_weigh_23 : decode cX4_weigh 23 = .ok (.aload_n 0, 1) := by decide +kernel
theorem dX4_weigh_24 : decode cX4_weigh 24 = .ok (.getfield 15, 3) := by decide +kernel
theorem dX4_weigh_27 : decode cX4_weigh 27 = .ok (.invokestatic 32, 3) := by decide +kernel
theorem dX4_weigh_30 : decode cX4_weigh 30 = .ok (.iconst 0, 1) := by decide +kernel
theorem dX4_weigh_31 : decode cX4_weigh 31 = .ok (.istore_n 2, 1) := by decide +kernel
theorem dX4_weigh_32 : decode cX4_weigh 32 = .ok (.iload_n 2, 1) := by decide +kernel
theorem dX4_weigh_33 : decode cX4_weigh 33 = .ok (.aload_n 0, 1) := by decide +kernel
theorem dX4_weigh_34 : decode cX4_weigh 34 = .ok (.getfield 30, 3) := by decide +kernel
theorem dX4_weigh_37 : decode cX4_weigh 37 = .ok (.if_icmp .ge 72, 3) := by decide +kernel
theorem dX4_weigh_40 : decode cX4_weigh 40 = .ok (.iconst 0, 1) := by decide +kernel
theorem dX4_weigh_41 : decode cX4_weigh 41 = .ok (.istore_n 3, 1) := by decide +kernel
theorem dX4_weigh_42 : decode cX4_weigh 42 = .ok (.iload_n 3, 1) := by decide +kernel
theorem dX4_weigh_43 : decode cX4_weigh 43 = .ok (.aload_n 0, 1) := by decide +kernel
theorem dX4_weigh_44 : decode cX4_weigh 44 = .ok (.getfield 9, 3) := by decide +kernel
theorem dX4_weigh_47 : decode cX4_weigh 47 = .ok (.iload_n 2, 1) := by decide +kernel
theorem dX4_weigh_48 : decode cX4_weigh 48 = .ok (.iaload, 1) := by decide +kernel
theorem dX4_weigh_49 : decode cX4_weigh 49 = .ok (.if_icmp .ge 25, 3) := by decide +kernel
theorem dX4_weigh_52 : decode cX4_weigh 52 = .ok (.aload_n 0, 1) := by decide +kernel
theorem dX4_weigh_53 : decode cX4_weigh 53 = .ok (.getfield 18, 3) := by decide +kernel
theorem dX4_weigh_56 : decode cX4_weigh 56 = .ok (.iload_n 2, 1) := by decide +kernel
theorem dX4_weigh_57 : decode cX4_weigh 57 = .ok (.iload_n 3, 1) := by decide +kernel
theorem dX4_weigh_58 : decode cX4_weigh 58 = .ok (.invokestatic 37, 3) := by decide +kernel
theorem dX4_weigh_61 : decode cX4_weigh 61 = .ok (.aload_n 1, 1) := by decide +kernel
theorem dX4_weigh_62 : decode cX4_weigh 62 = .ok (.iload_n 2, 1) := by decide +kernel
theorem dX4_weigh_63 : decode cX4_weigh 63 = .ok (.iload_n 3, 1) := by decide +kernel
theorem dX4_weigh_64 : decode cX4_weigh 64 = .ok (.invokevirtual 41, 3) := by decide +kernel
theorem dX4_weigh_67 : decode cX4_weigh 67 = .ok (.iastore, 1) := by decide +kernel
theorem dX4_weigh_68 : decode cX4_weigh 68 = .ok (.iinc 3 1, 3) := by decide +kernel
theorem dX4_weigh_71 : decode cX4_weigh 71 = .ok (.goto (-29), 3) := by decide +kernel
theorem dX4_weigh_74 : decode cX4_weigh 74 = .ok (.iconst 0, 1) := by decide +kernel
theorem dX4_weigh_75 : decode cX4_weigh 75 = .ok (.istore_n 3, 1) := by decide +kernel
theorem dX4_weigh_76 : decode cX4_weigh 76 = .ok (.iload_n 3, 1) := by decide +kernel
theorem dX4_weigh_77 : decode cX4_weigh 77 = .ok (.iload_n 2, 1) := by decide +kernel
theorem dX4_weigh_78 : decode cX4_weigh 78 = .ok (.if_icmp .ge 25, 3) := by decide +kernel
theorem dX4_weigh_81 : decode cX4_weigh 81 = .ok (.aload_n 0, 1) := by decide +kernel
theorem dX4_weigh_82 : decode cX4_weigh 82 = .ok (.iload_n 2, 1) := by decide +kernel
theorem dX4_weigh_83 : decode cX4_weigh 83 = .ok (.iload_n 3, 1) := by decide +kernel
theorem dX4_weigh_84 : decode cX4_weigh 84 = .ok (.invokevirtual 44, 3) := by decide +kernel
theorem dX4_weigh_87 : decode cX4_weigh 87 = .ok (.ifCond .eq 10, 3) := by decide +kernel
theorem dX4_weigh_90 : decode cX4_weigh 90 = .ok (.aload_n 0, 1) := by decide +kernel
theorem dX4_weigh_91 : decode cX4_weigh 91 = .ok (.aload_n 1, 1) := by decide +kernel
theorem dX4_weigh_92 : decode cX4_weigh 92 = .ok (.iload_n 2, 1) := by decide +kernel
theorem dX4_weigh_93 : decode cX4_weigh 93 = .ok (.iload_n 3, 1) := by decide +kernel
theorem dX4_weigh_94 : decode cX4_weigh 94 = .ok (.invokevirtual 48, 3) := by decide +kernel
theorem dX4_weigh_97 : decode cX4_weigh 97 = .ok (.iinc 3 1, 3) := by decide +kernel
theorem dX4_weigh_100 : decode cX4_weigh 100 = .ok (.goto (-24), 3) := by decide +kernel
theorem dX4_weigh_103 : decode cX4_weigh 103 = .ok (.iinc 2 1, 3) := by decide +kernel
theorem dX4_weigh_106 : decode cX4_weigh 106 = .ok (.goto (-74), 3) := by decide +kernel
theorem dX4_weigh_109 : decode cX4_weigh 109 = .ok (.return_, 1) := by decide +kernel
theorem dX4_weighTable_0 : decode cX4_weighTable 0 = .ok (.iconst 0, 1) := by decide +kernel
theorem dX4_weighTable_1 : decode cX4_weighTable 1 = .ok (.istore 4, 2) := by decide +kernel
theorem dX4_weighTable_3 : decode cX4_weighTable 3 = .ok (.iload 4, 2) := by decide +kernel
theorem dX4_weighTable_5 : decode cX4_weighTable 5 = .ok (.aload_n 0, 1) := by decide +kernel
theorem dX4_weighTable_6 : decode cX4_weighTable 6 = .ok (.getfield 9, 3) := by decide +kernel
theorem dX4_weighTable_9 : decode cX4_weighTable 9 = .ok (.iload_n 2, 1) := by decide +kernel
theorem dX4_weighTable_10 : decode cX4_weighTable 10 = .ok (.iaload, 1) := by decide +kernel
theorem dX4_weighTable_11 : decode cX4_weighTable 11 = .ok (.if_icmp .ge 53, 3) := by decide +kernel
theorem dX4_weighTable_14 : decode cX4_weighTable 14 = .ok (.iconst 0, 1) := by decide +kernel
theorem dX4_weighTable_15 : decode cX4_weighTable 15 = .ok (.istore 5, 2) := by decide +kernel
theorem dX4_weighTable_17 : decode cX4_weighTable 17 = .ok (.iload 5, 2) := by decide +kernel
theorem dX4_weighTable_19 : decode cX4_weighTable 19 = .ok (.aload_n 0, 1) := by decide +kernel
theorem dX4_weighTable_20 : decode cX4_weighTable 20 = .ok (.getfield 9, 3) := by decide +kernel
theorem dX4_weighTable_23 : decode cX4_weighTable 23 = .ok (.iload_n 3, 1) := by decide +kernel
theorem dX4_weighTable_24 : decode cX4_weighTable 24 = .ok (.iaload, 1) := by decide +kernel
theorem dX4_weighTable_25 : decode cX4_weighTable 25 = .ok (.if_icmp .ge 33, 3) := by decide +kernel
theorem dX4_weighTable_28 : decode cX4_weighTable 28 = .ok (.aload_n 0, 1) := by decide +kernel
theorem dX4_weighTable_29 : decode cX4_weighTable 29 = .ok (.getfield 21, 3) := by decide +kernel
theorem dX4_weighTable_32 : decode cX4_weighTable 32 = .ok (.iload_n 2, 1) := by decide +kernel
theorem dX4_weighTable_33 : decode cX4_weighTable 33 = .ok (.iload_n 3, 1) := by decide +kernel
theorem dX4_weighTable_34 : decode cX4_weighTable 34 = .ok (.iload 4, 2) := by decide +kernel
theorem dX4_weighTable_36 : decode cX4_weighTable 36 = .ok (.iload 5, 2) := by decide +kernel
theorem dX4_weighTable_38 : decode cX4_weighTable 38 = .ok (.invokestatic 52, 3) := by decide +kernel
theorem dX4_weighTable_41 : decode cX4_weighTable 41 = .ok (.aload_n 1, 1) := by decide +kernel
theorem dX4_weighTable_42 : decode cX4_weighTable 42 = .ok (.iload_n 2, 1) := by decide +kernel
theorem dX4_weighTable_43 : decode cX4_weighTable 43 = .ok (.iload_n 3, 1) := by decide +kernel
theorem dX4_weighTable_44 : decode cX4_weighTable 44 = .ok (.iload 4, 2) := by decide +kernel
theorem dX4_weighTable_46 : decode cX4_weighTable 46 = .ok (.iload 5, 2) := by decide +kernel
theorem dX4_weighTable_48 : decode cX4_weighTable 48 = .ok (.invokevirtual 56, 3) := by decide +kernel
theorem dX4_weighTable_51 : decode cX4_weighTable 51 = .ok (.iastore, 1) := by decide +kernel
theorem dX4_weighTable_52 : decode cX4_weighTable 52 = .ok (.iinc 5 1, 3) := by decide +kernel
theorem dX4_weighTable_55 : decode cX4_weighTable 55 = .ok (.goto (-38), 3) := by decide +kernel
theorem dX4_weighTable_58 : decode cX4_weighTable 58 = .ok (.iinc 4 1, 3) := by decide +kernel
theorem dX4_weighTable_61 : decode cX4_weighTable 61 = .ok (.goto (-58), 3) := by decide +kernel
theorem dX4_weighTable_64 : decode cX4_weighTable 64 = .ok (.return_, 1) := by decide +kernel
theorem dX4_areTied_0 : decode cX4_areTied 0 = .ok (.aload_n 0, 1) := by decide +kernel
theorem dX4_areTied_1 : decode cX4_areTied 1 = .ok (.getfield 15, 3) := by decide +kernel
theorem dX4_areTied_4 : decode cX4_areTied 4 = .ok (.iload_n 1, 1) := by decide +kernel
theorem dX4_areTied_5 : decode cX4_areTied 5 = .ok (.iaload, 1) := by decide +kernel
theorem dX4_areTied_6 : decode cX4_areTied 6 = .ok (.iload_n 2, 1) := by decide +kernel
theorem dX4_areTied_7 : decode cX4_areTied 7 = .ok (.invokestatic 59, 3) := by decide +kernel
theorem dX4_areTied_10 : decode cX4_areTied 10 = .ok (.ireturn, 1) := by decide +kernel
theorem dX4_costAt_0 : decode cX4_costAt 0 = .ok (.aload_n 0, 1) := by decide +kernel
theorem dX4_costAt_1 : decode cX4_costAt 1 = .ok (.getfield 18, 3) := by decide +kernel
theorem dX4_costAt_4 : decode cX4_costAt 4 = .ok (.iload_n 1, 1) := by decide +kernel
theorem dX4_costAt_5 : decode cX4_costAt 5 = .ok (.iload_n 2, 1) := by decide +kernel
theorem dX4_costAt_6 : decode cX4_costAt 6 = .ok (.invokestatic 37, 3) := by decide +kernel
theorem dX4_costAt_9 : decode cX4_costAt 9 = .ok (.iaload, 1) := by decide +kernel
theorem dX4_costAt_10 : decode cX4_costAt 10 = .ok (.ireturn, 1) := by decide +kernel
theorem dX4_entryAt_0 : decode cX4_entryAt 0 = .ok (.aload_n 0, 1) := by decide +kernel
theorem dX4_entryAt_1 : decode cX4_entryAt 1 = .ok (.getfield 21, 3) := by decide +kernel
theorem dX4_entryAt_4 : decode cX4_entryAt 4 = .ok (.iload_n 1, 1) := by decide +kernel
theorem dX4_entryAt_5 : decode cX4_entryAt 5 = .ok (.iload_n 2, 1) := by decide +kernel
theorem dX4_entryAt_6 : decode cX4_entryAt 6 = .ok (.iload_n 3, 1) := by decide +kernel
theorem dX4_entryAt_7 : decode cX4_entryAt 7 = .ok (.iload 4, 2) := by decide +kernel
theorem dX4_entryAt_9 : decode cX4_entryAt 9 = .ok (.invokestatic 52, 3) := by decide +kernel
theorem dX4_entryAt_12 : decode cX4_entryAt 12 = .ok (.iaload, 1) := by decide +kernel
theorem dX4_entryAt_13 : decode cX4_entryAt 13 = .ok (.ireturn, 1) := by decide +kernel
theorem dX4_addCost_0 : decode cX4_addCost 0 = .ok (.iload_n 1, 1) := by decide +kernel
theorem dX4_addCost_1 : decode cX4_addCost 1 = .ok (.iload_n 2, 1) := by decide +kernel
theorem dX4_addCost_2 : decode cX4_addCost 2 = .ok (.invokestatic 37, 3) := by decide +kernel
theorem dX4_addCost_5 : decode cX4_addCost 5 = .ok (.istore 4, 2) := by decide +kernel
theorem dX4_addCost_7 : decode cX4_addCost 7 = .ok (.aload_n 0, 1) := by decide +kernel
theorem dX4_addCost_8 : decode cX4_addCost 8 = .ok (.getfield 18, 3) := by decide +kernel
theorem dX4_addCost_11 : decode cX4_addCost 11 = .ok (.iload 4, 2) := by decide +kernel
theorem dX4_addCost_13 : decode cX4_addCost 13 = .ok (.aload_n 0, 1) := by decide +kernel
theorem dX4_addCost_14 : decode cX4_addCost 14 = .ok (.getfield 18, 3) := by decide +kernel
theorem dX4_addCost_17 : decode cX4_addCost 17 = .ok (.iload 4, 2) := by decide +kernel
theorem dX4_addCost_19 : decode cX4_addCost 19 = .ok (.iaload, 1) := by decide +kernel
theorem dX4_addCost_20 : decode cX4_addCost 20 = .ok (.iload_n 3, 1) := by decide +kernel
theorem dX4_addCost_21 : decode cX4_addCost 21 = .ok (.iadd, 1) := by decide +kernel
theorem dX4_addCost_22 : decode cX4_addCost 22 = .ok (.invokestatic 62, 3) := by decide +kernel
theorem dX4_addCost_25 : decode cX4_addCost 25 = .ok (.iastore, 1) := by decide +kernel
theorem dX4_addCost_26 : decode cX4_addCost 26 = .ok (.return_, 1) := by decide +kernel
theorem dX4_addEntry_0 : decode cX4_addEntry 0 = .ok (.iload_n 1, 1) := by decide +kernel
theorem dX4_addEntry_1 : decode cX4_addEntry 1 = .ok (.iload_n 2, 1) := by decide +kernel
theorem dX4_addEntry_2 : decode cX4_addEntry 2 = .ok (.iload_n 3, 1) := by decide +kernel
theorem dX4_addEntry_3 : decode cX4_addEntry 3 = .ok (.iload 4, 2) := by decide +kernel
theorem dX4_addEntry_5 : decode cX4_addEntry 5 = .ok (.invokestatic 52, 3) := by decide +kernel
theorem dX4_addEntry_8 : decode cX4_addEntry 8 = .ok (.istore 6, 2) := by decide +kernel
theorem dX4_addEntry_10 : decode cX4_addEntry 10 = .ok (.aload_n 0, 1) := by decide +kernel
theorem dX4_addEntry_11 : decode cX4_addEntry 11 = .ok (.getfield 21, 3) := by decide +kernel
theorem dX4_addEntry_14 : decode cX4_addEntry 14 = .ok (.iload 6, 2) := by decide +kernel
theorem dX4_addEntry_16 : decode cX4_addEntry 16 = .ok (.aload_n 0, 1) := by decide +kernel
theorem dX4_addEntry_17 : decode cX4_addEntry 17 = .ok (.getfield 21, 3) := by decide +kernel
theorem dX4_addEntry_20 : decode cX4_addEntry 20 = .ok (.iload 6, 2) := by decide +kernel
theorem dX4_addEntry_22 : decode cX4_addEntry 22 = .ok (.iaload, 1) := by decide +kernel
theorem dX4_addEntry_23 : decode cX4_addEntry 23 = .ok (.iload 5, 2) := by decide +kernel
theorem dX4_addEntry_25 : decode cX4_addEntry 25 = .ok (.iadd, 1) := by decide +kernel
theorem dX4_addEntry_26 : decode cX4_addEntry 26 = .ok (.invokestatic 62, 3) := by decide +kernel
theorem dX4_addEntry_29 : decode cX4_addEntry 29 = .ok (.iastore, 1) := by decide +kernel
theorem dX4_addEntry_30 : decode cX4_addEntry 30 = .ok (.return_, 1) := by decide +kernel
theorem dX4_allowOnly_0 : decode cX4_allowOnly 0 = .ok (.iconst 0, 1) := by decide +kernel
theorem dX4_allowOnly_1 : decode cX4_allowOnly 1 = .ok (.istore_n 3, 1) := by decide +kernel
theorem dX4_allowOnly_2 : decode cX4_allowOnly 2 = .ok (.iload_n 3, 1) := by decide +kernel
theorem dX4_allowOnly_3 : decode cX4_allowOnly 3 = .ok (.aload_n 0, 1) := by decide +kernel
theorem dX4_allowOnly_4 : decode cX4_allowOnly 4 = .ok (.getfield 9, 3) := by decide +kernel
theorem dX4_allowOnly_7 : decode cX4_allowOnly 7 = .ok (.iload_n 1, 1) := by decide +kernel
theorem dX4_allowOnly_8 : decode cX4_allowOnly 8 = .ok (.iaload, 1) := by decide +kernel
theorem dX4_allowOnly_9 : decode cX4_allowOnly 9 = .ok (.if_icmp .ge 26, 3) := by decide +kernel
theorem dX4_allowOnly_12 : decode cX4_allowOnly 12 = .ok (.iload_n 3, 1) := by decide +kernel
theorem dX4_allowOnly_13 : decode cX4_allowOnly 13 = .ok (.iload_n 2, 1) := by decide +kernel
theorem dX4_allowOnly_14 : decode cX4_allowOnly 14 = .ok (.if_icmp .eq 15, 3) := by decide +kernel
theorem dX4_allowOnly_17 : decode cX4_allowOnly 17 = .ok (.aload_n 0, 1) := by decide +kernel
theorem dX4_allowOnly_18 : decode cX4_allowOnly 18 = .ok (.getfield 18, 3) := by decide +kernel
theorem dX4_allowOnly_21 : decode cX4_allowOnly 21 = .ok (.iload_n 1, 1) := by decide +kernel
theorem dX4_allowOnly_22 : decode cX4_allowOnly 22 = .ok (.iload_n 3, 1) := by decide +kernel
theorem dX4_allowOnly_23 : decode cX4_allowOnly 23 = .ok (.invokestatic 37, 3) := by decide +kernel
theorem dX4_allowOnly_26 : decode cX4_allowOnly 26 = .ok (.ldc 66, 2) := by decide +kernel
theorem dX4_allowOnly_28 : decode cX4_allowOnly 28 = .ok (.iastore, 1) := by decide +kernel
theorem dX4_allowOnly_29 : decode cX4_allowOnly 29 = .ok (.iinc 3 1, 3) := by decide +kernel
theorem dX4_allowOnly_32 : decode cX4_allowOnly 32 = .ok (.goto (-30), 3) := by decide +kernel
theorem dX4_allowOnly_35 : decode cX4_allowOnly 35 = .ok (.return_, 1) := by decide +kernel
theorem dX4_costBeside_0 : decode cX4_costBeside 0 = .ok (.aload_n 0, 1) := by decide +kernel
theorem dX4_costBeside_1 : decode cX4_costBeside 1 = .ok (.getfield 18, 3) := by decide +kernel
theorem dX4_costBeside_4 : decode cX4_costBeside 4 = .ok (.iload_n 1, 1) := by decide +kernel
theorem dX4_costBeside_5 : decode cX4_costBeside 5 = .ok (.iload_n 2, 1) := by decide +kernel
theorem dX4_costBeside_6 : decode cX4_costBeside 6 = .ok (.invokestatic 37, 3) := by decide +kernel
theorem dX4_costBeside_9 : decode cX4_costBeside 9 = .ok (.iaload, 1) := by decide +kernel
theorem dX4_costBeside_10 : decode cX4_costBeside 10 = .ok (.istore 5, 2) := by decide +kernel
theorem dX4_costBeside_12 : decode cX4_costBeside 12 = .ok (.iload_n 3, 1) := by decide +kernel
theorem dX4_costBeside_13 : decode cX4_costBeside 13 = .ok (.ifCond .ne 6, 3) := by decide +kernel
theorem dX4_costBeside_16 : decode cX4_costBeside 16 = .ok (.iload 5, 2) := by decide +kernel
theorem dX4_costBeside_18 : decode cX4_costBeside 18 = .ok (.ireturn, 1) := by decide +kernel
theorem dX4_costBeside_19 : decode cX4_costBeside 19 = .ok (.iconst 0, 1) := by decide +kernel
theorem dX4_costBeside_20 : decode cX4_costBeside 20 = .ok (.istore 6, 2) := by decide +kernel
theorem dX4_costBeside_22 : decode cX4_costBeside 22 = .ok (.iload 6, 2) := by decide +kernel
theorem dX4_costBeside_24 : decode cX4_costBeside 24 = .ok (.aload_n 0, 1) := by decide +kernel
theorem dX4_costBeside_25 : decode cX4_costBeside 25 = .ok (.getfield 30, 3) := by decide +kernel
theorem dX4_costBeside_28 : decode cX4_costBeside 28 = .ok (.if_icmp .ge 47, 3) := by decide +kernel
theorem dX4_costBeside_31 : decode cX4_costBeside 31 = .ok (.iload_n 3, 1) := by decide +kernel
theorem dX4_costBeside_32 : decode cX4_costBeside 32 = .ok (.iload 6, 2) := by decide +kernel
theorem dX4_costBeside_34 : decode cX4_costBeside 34 = .ok (.ishr, 1) := by decide +kernel
theorem dX4_costBeside_35 : decode cX4_costBeside 35 = .ok (.ifCond .eq 40, 3) := by decide +kernel
theorem dX4_costBeside_38 : decode cX4_costBeside 38 = .ok (.iload_n 3, 1) := by decide +kernel
theorem dX4_costBeside_39 : decode cX4_costBeside 39 = .ok (.iload 6, 2) := by decide +kernel
theorem dX4_costBeside_41 : decode cX4_costBeside 41 = .ok (.invokestatic 59, 3) := by decide +kernel
theorem dX4_costBeside_44 : decode cX4_costBeside 44 = .ok (.ifCond .eq 25, 3) := by decide +kernel
theorem dX4_costBeside_47 : decode cX4_costBeside 47 = .ok (.iload 5, 2) := by decide +kernel
theorem dX4_costBeside_49 : decode cX4_costBeside 49 = .ok (.aload_n 0, 1) := by decide +kernel
theorem dX4_costBeside_50 : decode cX4_costBeside 50 = .ok (.getfield 21, 3) := by decide +kernel
theorem dX4_costBeside_53 : decode cX4_costBeside 53 = .ok (.iload_n 1, 1) := by decide +kernel
theorem dX4_costBeside_54 : decode cX4_costBeside 54 = .ok (.iload 6, 2) := by decide +kernel
theorem dX4_costBeside_56 : decode cX4_costBeside 56 = .ok (.iload_n 2, 1) := by decide +kernel
theorem dX4_costBeside_57 : decode cX4_costBeside 57 = .ok (.aload 4, 2) := by decide +kernel
theorem dX4_costBeside_59 : decode cX4_costBeside 59 = .ok (.iload 6, 2) := by decide +kernel
theorem dX4_costBeside_61 : decode cX4_costBeside 61 = .ok (.iaload, 1) := by decide +kernel
theorem dX4_costBeside_62 : decode cX4_costBeside 62 = .ok (.invokestatic 52, 3) := by decide +kernel
theorem dX4_costBeside_65 : decode cX4_costBeside 65 = .ok (.iaload, 1) := by decide +kernel
theorem dX4_costBeside_66 : decode cX4_costBeside 66 = .ok (.iadd, 1) := by decide +kernel
theorem dX4_costBeside_67 : decode cX4_costBeside 67 = .ok (.istore 5, 2) := by decide +kernel
theorem dX4_costBeside_69 : decode cX4_costBeside 69 = .ok (.iinc 6 1, 3) := by decide +kernel
theorem dX4_costBeside_72 : decode cX4_costBeside 72 = .ok (.goto (-50), 3) := by decide +kernel
theorem dX4_costBeside_75 : decode cX4_costBeside 75 = .ok (.iload 5, 2) := by decide +kernel
theorem dX4_costBeside_77 : decode cX4_costBeside 77 = .ok (.invokestatic 62, 3) := by decide +kernel
theorem dX4_costBeside_80 : decode cX4_costBeside 80 = .ok (.ireturn, 1) := by decide +kernel
theorem dX4_planCost_0 : decode cX4_planCost 0 = .ok (.iconst 0, 1) := by decide +kernel
theorem dX4_planCost_1 : decode cX4_planCost 1 = .ok (.istore_n 2, 1) := by decide +kernel
theorem dX4_planCost_2 : decode cX4_planCost 2 = .ok (.iconst 0, 1) := by decide +kernel
theorem dX4_planCost_3 : decode cX4_planCost 3 = .ok (.istore_n 3, 1) := by decide +kernel
theorem dX4_planCost_4 : decode cX4_planCost 4 = .ok (.iload_n 3, 1) := by decide +kernel
theorem dX4_planCost_5 : decode cX4_planCost 5 = .ok (.aload_n 0, 1) := by decide +kernel
theorem dX4_planCost_6 : decode cX4_planCost 6 = .ok (.getfield 30, 3) := by decide +kernel
theorem dX4_planCost_9 : decode cX4_planCost 9 = .ok (.if_icmp .ge 29, 3) := by decide +kernel
theorem dX4_planCost_12 : decode cX4_planCost 12 = .ok (.iload_n 2, 1) := by decide +kernel
theorem dX4_planCost_13 : decode cX4_planCost 13 = .ok (.aload_n 0, 1) := by decide +kernel
theorem dX4_planCost_14 : decode cX4_planCost 14 = .ok (.iload_n 3, 1) := by decide +kernel
theorem dX4_planCost_15 : decode cX4_planCost 15 = .ok (.aload_n 1, 1) := by decide +kernel
theorem dX4_planCost_16 : decode cX4_planCost 16 = .ok (.iload_n 3, 1) := by decide +kernel
theorem dX4_planCost_17 : decode cX4_planCost 17 = .ok (.iaload, 1) := by decide +kernel
theorem dX4_planCost_18 : decode cX4_planCost 18 = .ok (.aload_n 0, 1) := by decide +kernel
theorem dX4_planCost_19 : decode cX4_planCost 19 = .ok (.iload_n 3, 1) := by decide +kernel
theorem dX4_planCost_20 : decode cX4_planCost 20 = .ok (.invokevirtual 67, 3) := by decide +kernel
theorem dX4_planCost_23 : decode cX4_planCost 23 = .ok (.aload_n 1, 1) := by decide +kernel
theorem dX4_planCost_24 : decode cX4_planCost 24 = .ok (.invokevirtual 70, 3) := by decide +kernel
theorem dX4_planCost_27 : decode cX4_planCost 27 = .ok (.iadd, 1) := by decide +kernel
theorem dX4_planCost_28 : decode cX4_planCost 28 = .ok (.invokestatic 62, 3) := by decide +kernel
theorem dX4_planCost_31 : decode cX4_planCost 31 = .ok (.istore_n 2, 1) := by decide +kernel
theorem dX4_planCost_32 : decode cX4_planCost 32 = .ok (.iinc 3 1, 3) := by decide +kernel
theorem dX4_planCost_35 : decode cX4_planCost 35 = .ok (.goto (-31), 3) := by decide +kernel
theorem dX4_planCost_38 : decode cX4_planCost 38 = .ok (.iload_n 2, 1) := by decide +kernel
theorem dX4_planCost_39 : decode cX4_planCost 39 = .ok (.ireturn, 1) := by decide +kernel
theorem dX4_matesBelow_0 : decode cX4_matesBelow 0 = .ok (.aload_n 0, 1) := by decide +kernel
theorem dX4_matesBelow_1 : decode cX4_matesBelow 1 = .ok (.getfield 15, 3) := by decide +kernel
theorem dX4_matesBelow_4 : decode cX4_matesBelow 4 = .ok (.iload_n 1, 1) := by decide +kernel
theorem dX4_matesBelow_5 : decode cX4_matesBelow 5 = .ok (.iaload, 1) := by decide +kernel
theorem dX4_matesBelow_6 : decode cX4_matesBelow 6 = .ok (.iconst 1, 1) := by decide +kernel
theorem dX4_matesBelow_7 : decode cX4_matesBelow 7 = .ok (.iload_n 1, 1) := by decide +kernel
theorem dX4_matesBelow_8 : decode cX4_matesBelow 8 = .ok (.ishl, 1) := by decide +kernel
theorem dX4_matesBelow_9 : decode cX4_matesBelow 9 = .ok (.iconst 1, 1) := by decide +kernel
theorem dX4_matesBelow_10 : decode cX4_matesBelow 10 = .ok (.isub, 1) := by decide +kernel
theorem dX4_matesBelow_11 : decode cX4_matesBelow 11 = .ok (.iand, 1) := by decide +kernel
theorem dX4_matesBelow_12 : decode cX4_matesBelow 12 = .ok (.ireturn, 1) := by decide +kernel
theorem dX4_leastAcross_0 : decode cX4_leastAcross 0 = .ok (.ldc 66, 2) := by decide +kernel
theorem dX4_leastAcross_2 : decode cX4_leastAcross 2 = .ok (.istore 4, 2) := by decide +kernel
theorem dX4_leastAcross_4 : decode cX4_leastAcross 4 = .ok (.iconst 0, 1) := by decide +kernel
theorem dX4_leastAcross_5 : decode cX4_leastAcross 5 = .ok (.istore 5, 2) := by decide +kernel
theorem dX4_leastAcross_7 : decode cX4_leastAcross 7 = .ok (.iload 5, 2) := by decide +kernel
theorem dX4_leastAcross_9 : decode cX4_leastAcross 9 = .ok (.aload_n 0, 1) := by decide +kernel
theorem dX4_leastAcross_10 : decode cX4_leastAcross 10 = .ok (.getfield 9, 3) := by decide +kernel
theorem dX4_leastAcross_13 : decode cX4_leastAcross 13 = .ok (.iload_n 3, 1) := by decide +kernel
theorem dX4_leastAcross_14 : decode cX4_leastAcross 14 = .ok (.iaload, 1) := by decide +kernel
theorem dX4_leastAcross_15 : decode cX4_leastAcross 15 = .ok (.if_icmp .ge 45, 3) := by decide +kernel
theorem dX4_leastAcross_18 : decode cX4_leastAcross 18 = .ok (.aload_n 0, 1) := by decide +kernel
theorem dX4_leastAcross_19 : decode cX4_leastAcross 19 = .ok (.getfield 18, 3) := by decide +kernel
theorem dX4_leastAcross_22 : decode cX4_leastAcross 22 = .ok (.iload_n 3, 1) := by decide +kernel
theorem dX4_leastAcross_23 : decode cX4_leastAcross 23 = .ok (.iload 5, 2) := by decide +kernel
theorem dX4_leastAcross_25 : decode cX4_leastAcross 25 = .ok (.invokestatic 37, 3) := by decide +kernel
theorem dX4_leastAcross_28 : decode cX4_leastAcross 28 = .ok (.iaload, 1) := by decide +kernel
theorem dX4_leastAcross_29 : decode cX4_leastAcross 29 = .ok (.aload_n 0, 1) := by decide +kernel
theorem dX4_leastAcross_30 : decode cX4_leastAcross 30 = .ok (.getfield 21, 3) := by decide +kernel
theorem dX4_leastAcross_33 : decode cX4_leastAcross 33 = .ok (.iload_n 1, 1) := by decide +kernel
theorem dX4_leastAcross_34 : decode cX4_leastAcross 34 = .ok (.iload_n 3, 1) := by decide +kernel
theorem dX4_leastAcross_35 : decode cX4_leastAcross 35 = .ok (.iload_n 2, 1) := by decide +kernel
theorem dX4_leastAcross_36 : decode cX4_leastAcross 36 = .ok (.iload 5, 2) := by decide +kernel
theorem dX4_leastAcross_38 : decode cX4_leastAcross 38 = .ok (.invokestatic 52, 3) := by decide +kernel
theorem dX4_leastAcross_41 : decode cX4_leastAcross 41 = .ok (.iaload, 1) := by decide +kernel
theorem dX4_leastAcross_42 : decode cX4_leastAcross 42 = .ok (.iadd, 1) := by decide +kernel
theorem dX4_leastAcross_43 : decode cX4_leastAcross 43 = .ok (.istore 6, 2) := by decide +kernel
theorem dX4_leastAcross_45 : decode cX4_leastAcross 45 = .ok (.iload 4, 2) := by decide +kernel
theorem dX4_leastAcross_47 : decode cX4_leastAcross 47 = .ok (.iload 6, 2) := by decide +kernel
theorem dX4_leastAcross_49 : decode cX4_leastAcross 49 = .ok (.invokestatic 74, 3) := by decide +kernel
theorem dX4_leastAcross_52 : decode cX4_leastAcross 52 = .ok (.istore 4, 2) := by decide +kernel
theorem dX4_leastAcross_54 : decode cX4_leastAcross 54 = .ok (.iinc 5 1, 3) := by decide +kernel
theorem dX4_leastAcross_57 : decode cX4_leastAcross 57 = .ok (.goto (-50), 3) := by decide +kernel
theorem dX4_leastAcross_60 : decode cX4_leastAcross 60 = .ok (.iload 4, 2) := by decide +kernel
theorem dX4_leastAcross_62 : decode cX4_leastAcross 62 = .ok (.ireturn, 1) := by decide +kernel
theorem dX4_leastCost_0 : decode cX4_leastCost 0 = .ok (.ldc 66, 2) := by decide +kernel
theorem dX4_leastCost_2 : decode cX4_leastCost 2 = .ok (.istore_n 2, 1) := by decide +kernel
theorem dX4_leastCost_3 : decode cX4_leastCost 3 = .ok (.iconst 0, 1) := by decide +kernel
theorem dX4_leastCost_4 : decode cX4_leastCost 4 = .ok (.istore_n 3, 1) := by decide +kernel
theorem dX4_leastCost_5 : decode cX4_leastCost 5 = .ok (.iload_n 3, 1) := by decide +kernel
theorem dX4_leastCost_6 : decode cX4_leastCost 6 = .ok (.aload_n 0, 1) := by decide +kernel
theorem dX4_leastCost_7 : decode cX4_leastCost 7 = .ok (.getfield 9, 3) := by decide +kernel
theorem dX4_leastCost_10 : decode cX4_leastCost 10 = .ok (.iload_n 1, 1) := by decide +kernel
theorem dX4_leastCost_11 : decode cX4_leastCost 11 = .ok (.iaload, 1) := by decide +kernel
theorem dX4_leastCost_12 : decode cX4_leastCost 12 = .ok (.if_icmp .ge 20, 3) := by decide +kernel
theorem dX4_leastCost_15 : decode cX4_leastCost 15 = .ok (.iload_n 2, 1) := by decide +kernel
theorem dX4_leastCost_16 : decode cX4_leastCost 16 = .ok (.aload_n 0, 1) := by decide +kernel
theorem dX4_leastCost_17 : decode cX4_leastCost 17 = .ok (.iload_n 1, 1) := by decide +kernel
theorem dX4_leastCost_18 : decode cX4_leastCost 18 = .ok (.iload_n 3, 1) := by decide +kernel
theorem dX4_leastCost_19 : decode cX4_leastCost 19 = .ok (.invokevirtual 79, 3) := by decide +kernel
theorem dX4_leastCost_22 : decode cX4_leastCost 22 = .ok (.invokestatic 74, 3) := by decide +kernel
theorem dX4_leastCost_25 : decode cX4_leastCost 25 = .ok (.istore_n 2, 1) := by decide +kernel
theorem dX4_leastCost_26 : decode cX4_leastCost 26 = .ok (.iinc 3 1, 3) := by decide +kernel
theorem dX4_leastCost_29 : decode cX4_leastCost 29 = .ok (.goto (-24), 3) := by decide +kernel
theorem dX4_leastCost_32 : decode cX4_leastCost 32 = .ok (.iload_n 2, 1) := by decide +kernel
theorem dX4_leastCost_33 : decode cX4_leastCost 33 = .ok (.ireturn, 1) := by decide +kernel
theorem dX4_leastEntry_0 : decode cX4_leastEntry 0 = .ok (.ldc 66, 2) := by decide +kernel
theorem dX4_leastEntry_2 : decode cX4_leastEntry 2 = .ok (.istore_n 3, 1) := by decide +kernel
theorem dX4_leastEntry_3 : decode cX4_leastEntry 3 = .ok (.iconst 0, 1) := by decide +kernel
theorem dX4_leastEntry_4 : decode cX4_leastEntry 4 = .ok (.istore 4, 2) := by decide +kernel
theorem dX4_leastEntry_6 : decode cX4_leastEntry 6 = .ok (.iload 4, 2) := by decide +kernel
theorem dX4_leastEntry_8 : decode cX4_leastEntry 8 = .ok (.aload_n 0, 1) := by decide +kernel
theorem dX4_leastEntry_9 : decode cX4_leastEntry 9 = .ok (.getfield 9, 3) := by decide +kernel
theorem dX4_leastEntry_12 : decode cX4_leastEntry 12 = .ok (.iload_n 1, 1) := by decide +kernel
theorem dX4_leastEntry_13 : decode cX4_leastEntry 13 = .ok (.iaload, 1) := by decide +kernel
theorem dX4_leastEntry_14 : decode cX4_leastEntry 14 = .ok (.if_icmp .ge 44, 3) := by decide +kernel
theorem dX4_leastEntry_17 : decode cX4_leastEntry 17 = .ok (.iconst 0, 1) := by decide +kernel
theorem dX4_leastEntry_18 : decode cX4_leastEntry 18 = .ok (.istore 5, 2) := by decide +kernel
theorem dX4_leastEntry_20 : decode cX4_leastEntry 20 = .ok (.iload 5, 2) := by decide +kernel
theorem dX4_leastEntry_22 : decode cX4_leastEntry 22 = .ok (.aload_n 0, 1) := by decide +kernel
theorem dX4_leastEntry_23 : decode cX4_leastEntry 23 = .ok (.getfield 9, 3) := by decide +kernel
theorem dX4_leastEntry_26 : decode cX4_leastEntry 26 = .ok (.iload_n 2, 1) := by decide +kernel
theorem dX4_leastEntry_27 : decode cX4_leastEntry 27 = .ok (.iaload, 1) := by decide +kernel
theorem dX4_leastEntry_28 : decode cX4_leastEntry 28 = .ok (.if_icmp .ge 24, 3) := by decide +kernel
theorem dX4_leastEntry_31 : decode cX4_leastEntry 31 = .ok (.iload_n 3, 1) := by decide +kernel
theorem dX4_leastEntry_32 : decode cX4_leastEntry 32 = .ok (.aload_n 0, 1) := by decide +kernel
theorem dX4_leastEntry_33 : decode cX4_leastEntry 33 = .ok (.iload_n 1, 1) := by decide +kernel
theorem dX4_leastEntry_34 : decode cX4_leastEntry 34 = .ok (.iload_n 2, 1) := by decide +kernel
theorem dX4_leastEntry_35 : decode cX4_leastEntry 35 = .ok (.iload 4, 2) := by decide +kernel
theorem dX4_leastEntry_37 : decode cX4_leastEntry 37 = .ok (.iload 5, 2) := by decide +kernel
theorem dX4_leastEntry_39 : decode cX4_leastEntry 39 = .ok (.invokevirtual 82, 3) := by decide +kernel
theorem dX4_leastEntry_42 : decode cX4_leastEntry 42 = .ok (.invokestatic 74, 3) := by decide +kernel
theorem dX4_leastEntry_45 : decode cX4_leastEntry 45 = .ok (.istore_n 3, 1) := by decide +kernel
theorem dX4_leastEntry_46 : decode cX4_leastEntry 46 = .ok (.iinc 5 1, 3) := by decide +kernel
theorem dX4_leastEntry_49 : decode cX4_leastEntry 49 = .ok (.goto (-29), 3) := by decide +kernel
theorem dX4_leastEntry_52 : decode cX4_leastEntry 52 = .ok (.iinc 4 1, 3) := by decide +kernel
theorem dX4_leastEntry_55 : decode cX4_leastEntry 55 = .ok (.goto (-49), 3) := by decide +kernel
theorem dX4_leastEntry_58 : decode cX4_leastEntry 58 = .ok (.iload_n 3, 1) := by decide +kernel
theorem dX4_leastEntry_59 : decode cX4_leastEntry 59 = .ok (.ireturn, 1) := by decide +kernel
theorem dX4_bound_0 : decode cX4_bound 0 = .ok (.iconst 0, 1) := by decide +kernel
theorem dX4_bound_1 : decode cX4_bound 1 = .ok (.istore_n 1, 1) := by decide +kernel
theorem dX4_bound_2 : decode cX4_bound 2 = .ok (.iconst 0, 1) := by decide +kernel
theorem dX4_bound_3 : decode cX4_bound 3 = .ok (.istore_n 2, 1) := by decide +kernel
theorem dX4_bound_4 : decode cX4_bound 4 = .ok (.iload_n 2, 1) := by decide +kernel
theorem dX4_bound_5 : decode cX4_bound 5 = .ok (.aload_n 0, 1) := by decide +kernel
theorem dX4_bound_6 : decode cX4_bound 6 = .ok (.getfield 30, 3) := by decide +kernel
theorem dX4_bound_9 : decode cX4_bound 9 = .ok (.if_icmp .ge 54, 3) := by decide +kernel
theorem dX4_bound_12 : decode cX4_bound 12 = .ok (.iload_n 1, 1) := by decide +kernel
theorem dX4_bound_13 : decode cX4_bound 13 = .ok (.aload_n 0, 1) := by decide +kernel
theorem dX4_bound_14 : decode cX4_bound 14 = .ok (.iload_n 2, 1) := by decide +kernel
theorem dX4_bound_15 : decode cX4_bound 15 = .ok (.invokevirtual 85, 3) := by decide +kernel
theorem dX4_bound_18 : decode cX4_bound 18 = .ok (.iadd, 1) := by decide +kernel
theorem dX4_bound_19 : decode cX4_bound 19 = .ok (.invokestatic 62, 3) := by decide +kernel
theorem dX4_bound_22 : decode cX4_bound 22 = .ok (.istore_n 1, 1) := by decide +kernel
theorem dX4_bound_23 : decode cX4_bound 23 = .ok (.iconst 0, 1) := by decide +kernel
theorem dX4_bound_24 : decode cX4_bound 24 = .ok (.istore_n 3, 1) := by decide +kernel
theorem dX4_bound_25 : decode cX4_bound 25 = .ok (.iload_n 3, 1) := by decide +kernel
theorem dX4_bound_26 : decode cX4_bound 26 = .ok (.iload_n 2, 1) := by decide +kernel
theorem dX4_bound_27 : decode cX4_bound 27 = .ok (.if_icmp .ge 30, 3) := by decide +kernel
theorem dX4_bound_30 : decode cX4_bound 30 = .ok (.aload_n 0, 1) := by decide +kernel
theorem dX4_bound_31 : decode cX4_bound 31 = .ok (.iload_n 2, 1) := by decide +kernel
theorem dX4_bound_32 : decode cX4_bound 32 = .ok (.iload_n 3, 1) := by decide +kernel
theorem dX4_bound_33 : decode cX4_bound 33 = .ok (.invokevirtual 44, 3) := by decide +kernel
theorem dX4_bound_36 : decode cX4_bound 36 = .ok (.ifCond .eq 15, 3) := by decide +kernel
theorem dX4_bound_39 : decode cX4_bound 39 = .ok (.iload_n 1, 1) := by decide +kernel
theorem dX4_bound_40 : decode cX4_bound 40 = .ok (.aload_n 0, 1) := by decide +kernel
theorem dX4_bound_41 : decode cX4_bound 41 = .ok (.iload_n 2, 1) := by decide +kernel
theorem dX4_bound_42 : decode cX4_bound 42 = .ok (.iload_n 3, 1) := by decide +kernel
theorem dX4_bound_43 : decode cX4_bound 43 = .ok (.invokevirtual 88, 3) := by decide +kernel
theorem dX4_bound_46 : decode cX4_bound 46 = .ok (.iadd, 1) := by decide +kernel
theorem dX4_bound_47 : decode cX4_bound 47 = .ok (.invokestatic 62, 3) := by decide +kernel
theorem dX4_bound_50 : decode cX4_bound 50 = .ok (.istore_n 1, 1) := by decide +kernel
theorem dX4_bound_51 : decode cX4_bound 51 = .ok (.iinc 3 1, 3) := by decide +kernel
theorem dX4_bound_54 : decode cX4_bound 54 = .ok (.goto (-29), 3) := by decide +kernel
theorem dX4_bound_57 : decode cX4_bound 57 = .ok (.iinc 2 1, 3) := by decide +kernel
theorem dX4_bound_60 : decode cX4_bound 60 = .ok (.goto (-56), 3) := by decide +kernel
theorem dX4_bound_63 : decode cX4_bound 63 = .ok (.iload_n 1, 1) := by decide +kernel
theorem dX4_bound_64 : decode cX4_bound 64 = .ok (.ireturn, 1) := by decide +kernel
