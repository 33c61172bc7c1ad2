theorem dX5_init_0 : decode cX5_init 0 = .ok (.aload_n 0, 1) := by decide +kernel
theorem dX5_init_1 : decode cX5_init 1 = .ok (.invokespecial 3, 3) := by decide +kernel
theorem dX5_init_4 : decode cX5_init 4 = .ok (.aload_n 0, 1) := by decide +kernel
theorem dX5_init_5 : decode cX5_init 5 = .ok (.sipush 200, 3) := by decide +kernel
theorem dX5_init_8 : decode cX5_init 8 = .ok (.newarray .char, 2) := by decide +kernel
theorem dX5_init_10 : decode cX5_init 10 = .ok (.putfield 9, 3) := by decide +kernel
theorem dX5_init_13 : decode cX5_init 13 = .ok (.aload_n 0, 1) := by decide +kernel
theorem dX5_init_14 : decode cX5_init 14 = .ok (.new 13, 3) := by decide +kernel
theorem dX5_init_17 : decode cX5_init 17 = .ok (.dup, 1) := by decide +kernel
theorem dX5_init_18 : decode cX5_init 18 = .ok (.invokespecial 15, 3) := by decide +kernel
theorem dX5_init_21 : decode cX5_init 21 = .ok (.putfield 16, 3) := by decide +kernel
theorem dX5_init_24 : decode cX5_init 24 = .ok (.aload_n 0, 1) := by decide +kernel
theorem dX5_init_25 : decode cX5_init 25 = .ok (.new 13, 3) := by decide +kernel
theorem dX5_init_28 : decode cX5_init 28 = .ok (.dup, 1) := by decide +kernel
theorem dX5_init_29 : decode cX5_init 29 = .ok (.invokespecial 15, 3) := by decide +kernel
theorem dX5_init_32 : decode cX5_init 32 = .ok (.putfield 20, 3) := by decide +kernel
theorem dX5_init_35 : decode cX5_init 35 = .ok (.aload_n 0, 1) := by decide +kernel
theorem dX5_init_36 : decode cX5_init 36 = .ok (.new 23, 3) := by decide +kernel
theorem dX5_init_39 : decode cX5_init 39 = .ok (.dup, 1) := by decide +kernel
theorem dX5_init_40 : decode cX5_init 40 = .ok (.aload_n 0, 1) := by decide +kernel
theorem dX5_init_41 : decode cX5_init 41 = .ok (.getfield 9, 3) := by decide +kernel
theorem dX5_init_44 : decode cX5_init 44 = .ok (.aload_n 0, 1) := by decide +kernel
theorem dX5_init_45 : decode cX5_init 45 = .ok (.getfield 20, 3) := by decide +kernel
theorem dX5_init_48 : decode cX5_init 48 = .ok (.invokespecial 25, 3) := by decide +kernel
theorem dX5_init_51 : decode cX5_init 51 = .ok (.putfield 28, 3) := by decide +kernel
theorem dX5_init_54 : decode cX5_init 54 = .ok (.aload_n 0, 1) := by decide +kernel
theorem dX5_init_55 : decode cX5_init 55 = .ok (.bipush 8, 2) := by decide +kernel
theorem dX5_init_57 : decode cX5_init 57 = .ok (.anewarray 13, 3) := by decide +kernel
theorem dX5_init_60 : decode cX5_init 60 = .ok (.putfield 32, 3) := by decide +kernel
theorem dX5_init_63 : decode cX5_init 63 = .ok (.aload_n 0, 1) := by decide +kernel
theorem dX5_init_64 : decode cX5_init 64 = .ok (.iconst 2, 1) := by decide +kernel
theorem dX5_init_65 : decode cX5_init 65 = .ok (.anewarray 13, 3) := by decide +kernel
theorem dX5_init_68 : decode cX5_init 68 = .ok (.putfield 36, 3) := by decide +kernel
theorem dX5_init_71 : decode cX5_init 71 = .ok (.aload_n 0, 1) := by decide +kernel
theorem dX5_init_72 : decode cX5_init 72 = .ok (.new 39, 3) := by decide +kernel
theorem dX5_init_75 : decode cX5_init 75 = .ok (.dup, 1) := by decide +kernel
theorem dX5_init_76 : decode cX5_init 76 = .ok (.invokespecial 41, 3) := by decide +kernel
theorem dX5_init_79 : decode cX5_init 79 = .ok (.putfield 42, 3) := by decide +kernel
theorem dX5_init_82 : decode cX5_init 82 = .ok (.aload_n 0, 1) := by decide +kernel
theorem dX5_init_83 : decode cX5_init 83 = .ok (.new 39, 3) := by decide +kernel
theorem dX5_init_86 : decode cX5_init 86 = .ok (.dup, 1) := by decide +kernel
theorem dX5_init_87 : decode cX5_init 87 = .ok (.invokespecial 41, 3) := by decide +kernel
theorem dX5_init_90 : decode cX5_init 90 = .ok (.putfield 46, 3) := by decide +kernel
theorem dX5_init_93 : decode cX5_init 93 = .ok (.aload_n 0, 1) := by decide +kernel
theorem dX5_init_94 : decode cX5_init 94 = .ok (.new 49, 3) := by decide +kernel
theorem dX5_init_97 : decode cX5_init 97 = .ok (.dup, 1) := by decide +kernel
theorem dX5_init_98 : decode cX5_init 98 = .ok (.invokespecial 51, 3) := by decide +kernel
theorem dX5_init_101 : decode cX5_init 101 = .ok (.putfield 52, 3) := by decide +kernel
theorem dX5_init_104 : decode cX5_init 104 = .ok (.aload_n 0, 1) := by decide +kernel
theorem dX5_init_105 : decode cX5_init 105 = .ok (.new 56, 3) := by decide +kernel
theorem dX5_init_108 : decode cX5_init 108 = .ok (.dup, 1) := by decide +kernel
theorem dX5_init_109 : decode cX5_init 109 = .ok (.aload_n 0, 1) := by decide +kernel
theorem dX5_init_110 : decode cX5_init 110 = .ok (.getfield 42, 3) := by decide +kernel
theorem dX5_init_113 : decode cX5_init 113 = .ok (.iconst 0, 1) := by decide +kernel
theorem dX5_init_114 : decode cX5_init 114 = .ok (.invokespecial 58, 3) := by decide +kernel
theorem dX5_init_117 : decode cX5_init 117 = .ok (.putfield 61, 3) := by decide +kernel
theorem dX5_init_120 : decode cX5_init 120 = .ok (.aload_n 0, 1) := by decide +kernel
theorem dX5_init_121 : decode cX5_init 121 = .ok (.new 56, 3) := by decide +kernel
theorem dX5_init_124 : decode cX5_init 124 = .ok (.dup, 1) := by decide +kernel
theorem dX5_init_125 : decode cX5_init 125 = .ok (.aload_n 0, 1) := by decide +kernel
theorem dX5_init_126 : decode cX5_init 126 = .ok (.getfield 46, 3) := by decide +kernel
theorem dX5_init_129 : decode cX5_init 129 = .ok (.iconst 1, 1) := by decide +kernel
theorem dX5_init_130 : decode cX5_init 130 = .ok (.invokespecial 58, 3) := by decide +kernel
theorem dX5_init_133 : decode cX5_init 133 = .ok (.putfield 65, 3) := by decide +kernel
theorem dX5_init_136 : decode cX5_init 136 = .ok (.iconst 0, 1) := by decide +kernel
theorem dX5_init_137 : decode cX5_init 137 = .ok (.istore_n 1, 1) := by decide +kernel
theorem dX5_init_138 : decode cX5_init 138 = .ok (.iload_n 1, 1) := by decide +kernel
theorem dX5_init_139 : decode cX5_init 139 = .ok (.bipush 8, 2) := by decide +kernel
theorem dX5_init_141 : decode cX5_init 141 = .ok (.if_icmp .ge 22, 3) := by decide +kernel
theorem dX5_init_144 : decode cX5_init 144 = .ok (.aload_n 0, 1) := by decide +kernel
theorem dX5_init_145 : decode cX5_init 145 = .ok (.getfield 32, 3) := by decide +kernel
theorem dX5_init_148 : decode cX5_init 148 = .ok (.iload_n 1, 1) := by decide +kernel
theorem dX5_init_149 : decode cX5_init 149 = .ok (.new 13, 3) := by decide +kernel
theorem dX5_init_152 : decode cX5_init 152 = .ok (.dup, 1) := by decide +kernel
theorem dX5_init_153 : decode cX5_init 153 = .ok (.invokespecial 15, 3) := by decide +kernel
theorem dX5_init_156 : decode cX5_init 156 = .ok (.aastore, 1) := by decide +kernel
theorem dX5_init_157 : decode cX5_init 157 = .ok (.iinc 1 1, 3) := by decide +kernel
theorem dX5_init_160 : decode cX5_init 160 = .ok (.goto (-22), 3) := by decide +kernel
theorem dX5_init_163 : decode cX5_init 163 = .ok (.iconst 0, 1) := by decide +kernel
theorem dX5_init_164 : decode cX5_init 164 = .ok (.istore_n 1, 1) := by decide +kernel
theorem dX5_init_165 : decode cX5_init 165 = .ok (.iload_n 1, 1) := by decide +kernel
theorem dX5_init_166 : decode cX5_init 166 = .ok (.iconst 2, 1) := by decide +kernel
theorem dX5_init_167 : decode cX5_init 167 = .ok (.if_icmp .ge 22, 3) := by decide +kernel
theorem dX5_init_170 : decode cX5_init 170 = .ok (.aload_n 0, 1) := by decide +kernel
theorem dX5_init_171 : decode cX5_init 171 = .ok (.getfield 36, 3) := by decide +kernel
theorem dX5_init_174 : decode cX5_init 174 = .ok (.iload_n 1, 1) := by decide +kernel
theorem dX5_init_175 : decode cX5_init 175 = .ok (.new 13, 3) := by decide +kernel
theorem dX5_init_178 : decode cX5_init 178 = .ok (.dup, 1) := by decide +kernel
theorem dX5_init_179 : decode cX5_init 179 = .ok (.invokespecial 15, 3) := by decide +kernel
theorem dX5_init_182 : decode cX5_init 182 = .ok (.aastore, 1) := by decide +kernel
theorem dX5_init_183 : decode cX5_init 183 = .ok (.iinc 1 1, 3) := by decide +kernel
theorem dX5_init_186 : decode cX5_init 186 = .ok (.goto (-21), 3) := by decide +kernel
theorem dX5_init_189 : decode cX5_init 189 = .ok (.iconst 0, 1) := by decide +kernel
theorem dX5_init_190 : decode cX5_init 190 = .ok (.istore_n 1, 1) := by decide +kernel
theorem dX5_init_191 : decode cX5_init 191 = .ok (.iload_n 1, 1) := by decide +kernel
theorem dX5_init_192 : decode cX5_init 192 = .ok (.ldc 68, 2) := by decide +kernel
theorem dX5_init_194 : decode cX5_init 194 = .ok (.invokevirtual 70, 3) := by decide +kernel
theorem dX5_init_197 : decode cX5_init 197 = .ok (.if_icmp .ge 20, 3) := by decide +kernel
theorem dX5_init_200 : decode cX5_init 200 = .ok (.aload_n 0, 1) := by decide +kernel
theorem dX5_init_201 : decode cX5_init 201 = .ok (.ldc 68, 2) := by decide +kernel
theorem dX5_init_203 : decode cX5_init 203 = .ok (.iload_n 1, 1) := by decide +kernel
theorem dX5_init_204 : decode cX5_init 204 = .ok (.invokevirtual 76, 3) := by decide +kernel
theorem dX5_init_207 : decode cX5_init 207 = .ok (.invokevirtual 80, 3) := by decide +kernel
theorem dX5_init_210 : decode cX5_init 210 = .ok (.pop, 1) := by decide +kernel
theorem dX5_init_211 : decode cX5_init 211 = .ok (.iinc 1 1, 3) := by decide +kernel
theorem dX5_init_214 : decode cX5_init 214 = .ok (.goto (-23), 3) := by decide +kernel
theorem dX5_init_217 : decode cX5_init 217 = .ok (.aload_n 0, 1) := by decide +kernel
theorem dX5_init_218 : decode cX5_init 218 = .ok (.invokevirtual 84, 3) := by decide +kernel
theorem dX5_init_221 : decode cX5_init 221 = .ok (.pop, 1) := by decide +kernel
theorem dX5_init_222 : decode cX5_init 222 = .ok (.aload_n 0, 1) := by decide +kernel
theorem dX5_init_223 : decode cX5_init 223 = .ok (.invokevirtual 87, 3) := by decide +kernel
theorem dX5_init_226 : decode cX5_init 226 = .ok (.pop, 1) := by decide +kernel
theorem dX5_init_227 : decode cX5_init 227 = .ok (.return_, 1) := by decide +kernel
theorem dX5_write_0 : decode cX5_write 0 = .ok (.iload_n 1, 1) := by decide +kernel
theorem dX5_write_1 : decode cX5_write 1 = .ok (.bipush 32, 2) := by decide +kernel
theorem dX5_write_3 : decode cX5_write 3 = .ok (.bipush 126, 2) := by decide +kernel
theorem dX5_write_5 : decode cX5_write 5 = .ok (.invokestatic 90, 3) := by decide +kernel
theorem dX5_write_8 : decode cX5_write 8 = .ok (.ifCond .ne 5, 3) := by decide +kernel
theorem dX5_write_11 : decode cX5_write 11 = .ok (.iconst (-1), 1) := by decide +kernel
theorem dX5_write_12 : decode cX5_write 12 = .ok (.ireturn, 1) := by decide +kernel
theorem dX5_write_13 : decode cX5_write 13 = .ok (.aload_n 0, 1) := by decide +kernel
theorem dX5_write_14 : decode cX5_write 14 = .ok (.getfield 94, 3) := by decide +kernel
theorem dX5_write_17 : decode cX5_write 17 = .ok (.sipush 200, 3) := by decide +kernel
theorem dX5_write_20 : decode cX5_write 20 = .ok (.if_icmp .lt 6, 3) := by decide +kernel
theorem dX5_write_23 : decode cX5_write 23 = .ok (.bipush (-3), 2) := by decide +kernel
theorem dX5_write_25 : decode cX5_write 25 = .ok (.ireturn, 1) := by decide +kernel
theorem dX5_write_26 : decode cX5_write 26 = .ok (.aload_n 0, 1) := by decide +kernel
theorem dX5_write_27 : decode cX5_write 27 = .ok (.getfield 9, 3) := by decide +kernel
theorem dX5_write_30 : decode cX5_write 30 = .ok (.aload_n 0, 1) := by decide +kernel
theorem dX5_write_31 : decode cX5_write 31 = .ok (.getfield 94, 3) := by decide +kernel
theorem dX5_write_34 : decode cX5_write 34 = .ok (.iload_n 1, 1) := by decide +kernel
theorem dX5_write_35 : decode cX5_write 35 = .ok (.i2c, 1) := by decide +kernel
theorem dX5_write_36 : decode cX5_write 36 = .ok (.castore, 1) := by decide +kernel
theorem dX5_write_37 : decode cX5_write 37 = .ok (.aload_n 0, 1) := by decide +kernel
theorem dX5_write_38 : decode cX5_write 38 = .ok (.dup, 1) := by decide +kernel
theorem dX5_write_39 : decode cX5_write 39 = .ok (.getfield 94, 3) := by decide +kernel
theorem dX5_write_42 : decode cX5_write 42 = .ok (.iconst 1, 1) := by decide +kernel
theorem dX5_write_43 : decode cX5_write 43 = .ok (.iadd, 1) := by decide +kernel
theorem dX5_write_44 : decode cX5_write 44 = .ok (.putfield 94, 3) := by decide +kernel
theorem dX5_write_47 : decode cX5_write 47 = .ok (.aload_n 0, 1) := by decide +kernel
theorem dX5_write_48 : decode cX5_write 48 = .ok (.getfield 94, 3) := by decide +kernel
theorem dX5_write_51 : decode cX5_write 51 = .ok (.ireturn, 1) := by decide +kernel
theorem dX5_wipe_0 : decode cX5_wipe 0 = .ok (.aload_n 0, 1) := by decide +kernel
theorem dX5_wipe_1 : decode cX5_wipe 1 = .ok (.getfield 94, 3) := by decide +kernel
theorem dX5_wipe_4 : decode cX5_wipe 4 = .ok (.istore_n 1, 1) := by decide +kernel
theorem dX5_wipe_5 : decode cX5_wipe 5 = .ok (.aload_n 0, 1) := by decide +kernel
theorem dX5_wipe_6 : decode cX5_wipe 6 = .ok (.iconst 0, 1) := by decide +kernel
theorem dX5_wipe_7 : decode cX5_wipe 7 = .ok (.putfield 94, 3) := by decide +kernel
theorem dX5_wipe_10 : decode cX5_wipe 10 = .ok (.iload_n 1, 1) := by decide +kernel
theorem dX5_wipe_11 : decode cX5_wipe 11 = .ok (.ireturn, 1) := by decide +kernel
theorem dX5_fault_0 : decode cX5_fault 0 = .ok (.aload_n 0, 1) := by decide +kernel
theorem dX5_fault_1 : decode cX5_fault 1 = .ok (.getfield 28, 3) := by decide +kernel
theorem dX5_fault_4 : decode cX5_fault 4 = .ok (.aload_n 0, 1) := by decide +kernel
theorem dX5_fault_5 : decode cX5_fault 5 = .ok (.getfield 94, 3) := by decide +kernel
theorem dX5_fault_8 : decode cX5_fault 8 = .ok (.invokevirtual 98, 3) := by decide +kernel
theorem dX5_fault_11 : decode cX5_fault 11 = .ok (.ireturn, 1) := by decide +kernel
theorem dX5_lay_0 : decode cX5_lay 0 = .ok (.aload_n 0, 1) := by decide +kernel
theorem dX5_lay_1 : decode cX5_lay 1 = .ok (.getfield 28, 3) := by decide +kernel
theorem dX5_lay_4 : decode cX5_lay 4 = .ok (.aload_n 0, 1) := by decide +kernel
theorem dX5_lay_5 : decode cX5_lay 5 = .ok (.getfield 94, 3) := by decide +kernel
theorem dX5_lay_8 : decode cX5_lay 8 = .ok (.invokevirtual 98, 3) := by decide +kernel
theorem dX5_lay_11 : decode cX5_lay 11 = .ok (.bipush (-4), 2) := by decide +kernel
theorem dX5_lay_13 : decode cX5_lay 13 = .ok (.if_icmp .ne 13, 3) := by decide +kernel
theorem dX5_lay_16 : decode cX5_lay 16 = .ok (.aload_n 0, 1) := by decide +kernel
theorem dX5_lay_17 : decode cX5_lay 17 = .ok (.getfield 20, 3) := by decide +kernel
theorem dX5_lay_20 : decode cX5_lay 20 = .ok (.getfield 101, 3) := by decide +kernel
theorem dX5_lay_23 : decode cX5_lay 23 = .ok (.ifCond .ne 6, 3) := by decide +kernel
theorem dX5_lay_26 : decode cX5_lay 26 = .ok (.bipush (-2), 2) := by decide +kernel
theorem dX5_lay_28 : decode cX5_lay 28 = .ok (.ireturn, 1) := by decide +kernel
theorem dX5_lay_29 : decode cX5_lay 29 = .ok (.aload_n 0, 1) := by decide +kernel
theorem dX5_lay_30 : decode cX5_lay 30 = .ok (.getfield 16, 3) := by decide +kernel
theorem dX5_lay_33 : decode cX5_lay 33 = .ok (.aload_n 0, 1) := by decide +kernel
theorem dX5_lay_34 : decode cX5_lay 34 = .ok (.getfield 20, 3) := by decide +kernel
theorem dX5_lay_37 : decode cX5_lay 37 = .ok (.invokevirtual 104, 3) := by decide +kernel
theorem dX5_lay_40 : decode cX5_lay 40 = .ok (.aload_n 0, 1) := by decide +kernel
theorem dX5_lay_41 : decode cX5_lay 41 = .ok (.iconst 0, 1) := by decide +kernel
theorem dX5_lay_42 : decode cX5_lay 42 = .ok (.putfield 108, 3) := by decide +kernel
theorem dX5_lay_45 : decode cX5_lay 45 = .ok (.aload_n 0, 1) := by decide +kernel
theorem dX5_lay_46 : decode cX5_lay 46 = .ok (.iconst 0, 1) := by decide +kernel
theorem dX5_lay_47 : decode cX5_lay 47 = .ok (.putfield 111, 3) := by decide +kernel
theorem dX5_lay_50 : decode cX5_lay 50 = .ok (.aload_n 0, 1) := by decide +kernel
theorem dX5_lay_51 : decode cX5_lay 51 = .ok (.invokevirtual 114, 3) := by decide +kernel
theorem dX5_lay_54 : decode cX5_lay 54 = .ok (.aload_n 0, 1) := by decide +kernel
theorem dX5_lay_55 : decode cX5_lay 55 = .ok (.getfield 16, 3) := by decide +kernel
theorem dX5_lay_58 : decode cX5_lay 58 = .ok (.getfield 101, 3) := by decide +kernel
theorem dX5_lay_61 : decode cX5_lay 61 = .ok (.ireturn, 1) := by decide +kernel
theorem dX5_node_0 : decode cX5_node 0 = .ok (.aload_n 0, 1) := by decide +kernel
theorem dX5_node_1 : decode cX5_node 1 = .ok (.iload_n 1, 1) := by decide +kernel
theorem dX5_node_2 : decode cX5_node 2 = .ok (.invokevirtual 117, 3) := by decide +kernel
theorem dX5_node_5 : decode cX5_node 5 = .ok (.ifCond .ne 5, 3) := by decide +kernel
theorem dX5_node_8 : decode cX5_node 8 = .ok (.iconst (-1), 1) := by decide +kernel
theorem dX5_node_9 : decode cX5_node 9 = .ok (.ireturn, 1) := by decide +kernel
theorem dX5_node_10 : decode cX5_node 10 = .ok (.iload_n 2, 1) := by decide +kernel
theorem dX5_node_11 : decode cX5_node 11 = .ok (.tableswitch 68 0 3 #[29, 39, 49, 62], 29) := by decide +kernel
theorem dX5_node_40 : decode cX5_node 40 = .ok (.aload_n 0, 1) := by decide +kernel
theorem dX5_node_41 : decode cX5_node 41 = .ok (.getfield 16, 3) := by decide +kernel
theorem dX5_node_44 : decode cX5_node 44 = .ok (.getfield 121, 3) := by decide +kernel
theorem dX5_node_47 : decode cX5_node 47 = .ok (.iload_n 1, 1) := by decide +kernel
theorem dX5_node_48 : decode cX5_node 48 = .ok (.iaload, 1) := by decide +kernel
theorem dX5_node_49 : decode cX5_node 49 = .ok (.ireturn, 1) := by decide +kernel
theorem dX5_node_50 : decode cX5_node 50 = .ok (.aload_n 0, 1) := by decide +kernel
theorem dX5_node_51 : decode cX5_node 51 = .ok (.getfield 16, 3) := by decide +kernel
theorem dX5_node_54 : decode cX5_node 54 = .ok (.getfield 125, 3) := by decide +kernel
theorem dX5_node_57 : decode cX5_node 57 = .ok (.iload_n 1, 1) := by decide +kernel
theorem dX5_node_58 : decode cX5_node 58 = .ok (.iaload, 1) := by decide +kernel
theorem dX5_node_59 : decode cX5_node 59 = .ok (.ireturn, 1) := by decide +kernel
theorem dX5_node_60 : decode cX5_node 60 = .ok (.aload_n 0, 1) := by decide +kernel
theorem dX5_node_61 : decode cX5_node 61 = .ok (.getfield 16, 3) := by decide +kernel
theorem dX5_node_64 : decode cX5_node 64 = .ok (.getfield 128, 3) := by decide +kernel
theorem dX5_node_67 : decode cX5_node 67 = .ok (.iload_n 1, 1) := by decide +kernel
theorem dX5_node_68 : decode cX5_node 68 = .ok (.iaload, 1) := by decide +kernel
theorem dX5_node_69 : decode cX5_node 69 = .ok (.invokestatic 131, 3) := by decide +kernel
theorem dX5_node_72 : decode cX5_node 72 = .ok (.ireturn, 1) := by decide +kernel
theorem dX5_node_73 : decode cX5_node 73 = .ok (.aload_n 0, 1) := by decide +kernel
theorem dX5_node_74 : decode cX5_node 74 = .ok (.iload_n 1, 1) := by decide +kernel
theorem dX5_node_75 : decode cX5_node 75 = .ok (.invokevirtual 136, 3) := by decide +kernel
theorem dX5_node_78 : decode cX5_node 78 = .ok (.ireturn, 1) := by decide +kernel
theorem dX5_node_79 : decode cX5_node 79 = .ok (.iconst (-1), 1) := by decide +kernel
theorem dX5_node_80 : decode cX5_node 80 = .ok (.ireturn, 1) := by decide +kernel
theorem dX5_cost_0 : decode cX5_cost 0 = .ok (.aload_n 0, 1) := by decide +kernel
theorem dX5_cost_1 : decode cX5_cost 1 = .ok (.iload_n 1, 1) := by decide +kernel
theorem dX5_cost_2 : decode cX5_cost 2 = .ok (.iload_n 2, 1) := by decide +kernel
theorem dX5_cost_3 : decode cX5_cost 3 = .ok (.invokevirtual 139, 3) := by decide +kernel
theorem dX5_cost_6 : decode cX5_cost 6 = .ok (.ifCond .eq 15, 3) := by decide +kernel
theorem dX5_cost_9 : decode cX5_cost 9 = .ok (.aload_n 0, 1) := by decide +kernel
theorem dX5_cost_10 : decode cX5_cost 10 = .ok (.getfield 16, 3) := by decide +kernel
theorem dX5_cost_13 : decode cX5_cost 13 = .ok (.iload_n 1, 1) := by decide +kernel
theorem dX5_cost_14 : decode cX5_cost 14 = .ok (.iload_n 2, 1) := by decide +kernel
theorem dX5_cost_15 : decode cX5_cost 15 = .ok (.invokevirtual 143, 3) := by decide +kernel
theorem dX5_cost_18 : decode cX5_cost 18 = .ok (.goto 4, 3) := by decide +kernel
theorem dX5_cost_21 : decode cX5_cost 21 = .ok (.iconst (-1), 1) := by decide +kernel
theorem dX5_cost_22 : decode cX5_cost 22 = .ok (.ireturn, 1) := by decide +kernel
theorem dX5_tie_0 : decode cX5_tie 0 = .ok (.iload_n 1, 1) := by decide +kernel
theorem dX5_tie_1 : decode cX5_tie 1 = .ok (.iload_n 2, 1) := by decide +kernel
theorem dX5_tie_2 : decode cX5_tie 2 = .ok (.if_icmp .eq 22, 3) := by decide +kernel
theorem dX5_tie_5 : decode cX5_tie 5 = .ok (.aload_n 0, 1) := by decide +kernel
theorem dX5_tie_6 : decode cX5_tie 6 = .ok (.iload_n 1, 1) := by decide +kernel
theorem dX5_tie_7 : decode cX5_tie 7 = .ok (.iload_n 3, 1) := by decide +kernel
theorem dX5_tie_8 : decode cX5_tie 8 = .ok (.invokevirtual 139, 3) := by decide +kernel
theorem dX5_tie_11 : decode cX5_tie 11 = .ok (.ifCond .eq 13, 3) := by decide +kernel
theorem dX5_tie_14 : decode cX5_tie 14 = .ok (.aload_n 0, 1) := by decide +kernel
theorem dX5_tie_15 : decode cX5_tie 15 = .ok (.iload_n 2, 1) := by decide +kernel
theorem dX5_tie_16 : decode cX5_tie 16 = .ok (.iload 4, 2) := by decide +kernel
theorem dX5_tie_18 : decode cX5_tie 18 = .ok (.invokevirtual 139, 3) := by decide +kernel
theorem dX5_tie_21 : decode cX5_tie 21 = .ok (.ifCond .ne 5, 3) := by decide +kernel
theorem dX5_tie_24 : decode cX5_tie 24 = .ok (.iconst (-1), 1) := by decide +kernel
theorem dX5_tie_25 : decode cX5_tie 25 = .ok (.ireturn, 1) := by decide +kernel
theorem dX5_tie_26 : decode cX5_tie 26 = .ok (.aload_n 0, 1) := by decide +kernel
theorem dX5_tie_27 : decode cX5_tie 27 = .ok (.getfield 16, 3) := by decide +kernel
theorem dX5_tie_30 : decode cX5_tie 30 = .ok (.iload_n 1, 1) := by decide +kernel
theorem dX5_tie_31 : decode cX5_tie 31 = .ok (.iload_n 2, 1) := by decide +kernel
theorem dX5_tie_32 : decode cX5_tie 32 = .ok (.invokevirtual 147, 3) := by decide +kernel
theorem dX5_tie_35 : decode cX5_tie 35 = .ok (.ifCond .eq 18, 3) := by decide +kernel
theorem dX5_tie_38 : decode cX5_tie 38 = .ok (.aload_n 0, 1) := by decide +kernel
theorem dX5_tie_39 : decode cX5_tie 39 = .ok (.getfield 16, 3) := by decide +kernel
theorem dX5_tie_42 : decode cX5_tie 42 = .ok (.iload_n 1, 1) := by decide +kernel
theorem dX5_tie_43 : decode cX5_tie 43 = .ok (.iload_n 2, 1) := by decide +kernel
theorem dX5_tie_44 : decode cX5_tie 44 = .ok (.iload_n 3, 1) := by decide +kernel
theorem dX5_tie_45 : decode cX5_tie 45 = .ok (.iload 4, 2) := by decide +kernel
theorem dX5_tie_47 : decode cX5_tie 47 = .ok (.invokevirtual 150, 3) := by decide +kernel
theorem dX5_tie_50 : decode cX5_tie 50 = .ok (.goto 5, 3) := by decide +kernel
theorem dX5_tie_53 : decode cX5_tie 53 = .ok (.bipush (-4), 2) := by decide +kernel
theorem dX5_tie_55 : decode cX5_tie 55 = .ok (.ireturn, 1) := by decide +kernel
theorem dX5_price_0 : decode cX5_price 0 = .ok (.aload_n 0, 1) := by decide +kernel
theorem dX5_price_1 : decode cX5_price 1 = .ok (.iload_n 1, 1) := by decide +kernel
theorem dX5_price_2 : decode cX5_price 2 = .ok (.iload_n 2, 1) := by decide +kernel
theorem dX5_price_3 : decode cX5_price 3 = .ok (.invokevirtual 139, 3) := by decide +kernel
theorem dX5_price_6 : decode cX5_price 6 = .ok (.ifCond .eq 13, 3) := by decide +kernel
theorem dX5_price_9 : decode cX5_price 9 = .ok (.iload_n 3, 1) := by decide +kernel
theorem dX5_price_10 : decode cX5_price 10 = .ok (.iconst 0, 1) := by decide +kernel
theorem dX5_price_11 : decode cX5_price 11 = .ok (.bipush 99, 2) := by decide +kernel
theorem dX5_price_13 : decode cX5_price 13 = .ok (.invokestatic 90, 3) := by decide +kernel
theorem dX5_price_16 : decode cX5_price 16 = .ok (.ifCond .ne 5, 3) := by decide +kernel
theorem dX5_price_19 : decode cX5_price 19 = .ok (.iconst (-1), 1) := by decide +kernel
theorem dX5_price_20 : decode cX5_price 20 = .ok (.ireturn, 1) := by decide +kernel
theorem dX5_price_21 : decode cX5_price 21 = .ok (.aload_n 0, 1) := by decide +kernel
theorem dX5_price_22 : decode cX5_price 22 = .ok (.getfield 16, 3) := by decide +kernel
theorem dX5_price_25 : decode cX5_price 25 = .ok (.getfield 154, 3) := by decide +kernel
theorem dX5_price_28 : decode cX5_price 28 = .ok (.iload_n 1, 1) := by decide +kernel
theorem dX5_price_29 : decode cX5_price 29 = .ok (.iload_n 2, 1) := by decide +kernel
theorem dX5_price_30 : decode cX5_price 30 = .ok (.invokestatic 157, 3) := by decide +kernel
theorem dX5_price_33 : decode cX5_price 33 = .ok (.iaload, 1) := by decide +kernel
theorem dX5_price_34 : decode cX5_price 34 = .ok (.istore 4, 2) := by decide +kernel
theorem dX5_price_36 : decode cX5_price 36 = .ok (.iload 4, 2) := by decide +kernel
theorem dX5_price_38 : decode cX5_price 38 = .ok (.iload_n 3, 1) := by decide +kernel
theorem dX5_price_39 : decode cX5_price 39 = .ok (.if_icmp .ne 6, 3) := by decide +kernel
theorem dX5_price_42 : decode cX5_price 42 = .ok (.bipush (-2), 2) := by decide +kernel
theorem dX5_price_44 : decode cX5_price 44 = .ok (.ireturn, 1) := by decide +kernel
theorem dX5_price_45 : decode cX5_price 45 = .ok (.aload_n 0, 1) := by decide +kernel
theorem dX5_price_46 : decode cX5_price 46 = .ok (.invokevirtual 160, 3) := by decide +kernel
theorem dX5_price_49 : decode cX5_price 49 = .ok (.aload_n 0, 1) := by decide +kernel
theorem dX5_price_50 : decode cX5_price 50 = .ok (.getfield 16, 3) := by decide +kernel
theorem dX5_price_53 : decode cX5_price 53 = .ok (.getfield 154, 3) := by decide +kernel
theorem dX5_price_56 : decode cX5_price 56 = .ok (.iload_n 1, 1) := by decide +kernel
theorem dX5_price_57 : decode cX5_price 57 = .ok (.iload_n 2, 1) := by decide +kernel
theorem dX5_price_58 : decode cX5_price 58 = .ok (.invokestatic 157, 3) := by decide +kernel
theorem dX5_price_61 : decode cX5_price 61 = .ok (.iload_n 3, 1) := by decide +kernel
theorem dX5_price_62 : decode cX5_price 62 = .ok (.iastore, 1) := by decide +kernel
theorem dX5_price_63 : decode cX5_price 63 = .ok (.iload 4, 2) := by decide +kernel
theorem dX5_price_65 : decode cX5_price 65 = .ok (.ireturn, 1) := by decide +kernel
theorem dX5_table_0 : decode cX5_table 0 = .ok (.iload_n 1, 1) := by decide +kernel
theorem dX5_table_1 : decode cX5_table 1 = .ok (.iload_n 2, 1) := by decide +kernel
theorem dX5_table_2 : decode cX5_table 2 = .ok (.if_icmp .eq 33, 3) := by decide +kernel
theorem dX5_table_5 : decode cX5_table 5 = .ok (.aload_n 0, 1) := by decide +kernel
theorem dX5_table_6 : decode cX5_table 6 = .ok (.iload_n 1, 1) := by decide +kernel
theorem dX5_table_7 : decode cX5_table 7 = .ok (.iload_n 3, 1) := by decide +kernel
theorem dX5_table_8 : decode cX5_table 8 = .ok (.invokevirtual 139, 3) := by decide +kernel
theorem dX5_table_11 : decode cX5_table 11 = .ok (.ifCond .eq 24, 3) := by decide +kernel
theorem dX5_table_14 : decode cX5_table 14 = .ok (.aload_n 0, 1) := by decide +kernel
theorem dX5_table_15 : decode cX5_table 15 = .ok (.iload_n 2, 1) := by decide +kernel
theorem dX5_table_16 : decode cX5_table 16 = .ok (.iload 4, 2) := by decide +kernel
theorem dX5_table_18 : decode cX5_table 18 = .ok (.invokevirtual 139, 3) := by decide +kernel
theorem dX5_table_21 : decode cX5_table 21 = .ok (.ifCond .eq 14, 3) := by decide +kernel
theorem dX5_table_24 : decode cX5_table 24 = .ok (.iload 5, 2) := by decide +kernel
theorem dX5_table_26 : decode cX5_table 26 = .ok (.iconst 0, 1) := by decide +kernel
theorem dX5_table_27 : decode cX5_table 27 = .ok (.bipush 9, 2) := by decide +kernel
theorem dX5_table_29 : decode cX5_table 29 = .ok (.invokestatic 90, 3) := by decide +kernel
theorem dX5_table_32 : decode cX5_table 32 = .ok (.ifCond .ne 5, 3) := by decide +kernel
theorem dX5_table_35 : decode cX5_table 35 = .ok (.iconst (-1), 1) := by decide +kernel
theorem dX5_table_36 : decode cX5_table 36 = .ok (.ireturn, 1) := by decide +kernel
theorem dX5_table_37 : decode cX5_table 37 = .ok (.aload_n 0, 1) := by decide +kernel
theorem dX5_table_38 : decode cX5_table 38 = .ok (.getfield 16, 3) := by decide +kernel
theorem dX5_table_41 : decode cX5_table 41 = .ok (.iload_n 1, 1) := by decide +kernel
theorem dX5_table_42 : decode cX5_table 42 = .ok (.iload_n 2, 1) := by decide +kernel
theorem dX5_table_43 : decode cX5_table 43 = .ok (.invokevirtual 147, 3) := by decide +kernel
theorem dX5_table_46 : decode cX5_table 46 = .ok (.istore 6, 2) := by decide +kernel
theorem dX5_table_48 : decode cX5_table 48 = .ok (.iload 6, 2) := by decide +kernel
theorem dX5_table_50 : decode cX5_table 50 = .ok (.ifCond .eq 27, 3) := by decide +kernel
theorem dX5_table_53 : decode cX5_table 53 = .ok (.aload_n 0, 1) := by decide +kernel
theorem dX5_table_54 : decode cX5_table 54 = .ok (.getfield 16, 3) := by decide +kernel
theorem dX5_table_57 : decode cX5_table 57 = .ok (.getfield 163, 3) := by decide +kernel
theorem dX5_table_60 : decode cX5_table 60 = .ok (.iload_n 1, 1) := by decide +kernel
theorem dX5_table_61 : decode cX5_table 61 = .ok (.iload_n 2, 1) := by decide +kernel
theorem dX5_table_62 : decode cX5_table 62 = .ok (.iload_n 3, 1) := by decide +kernel
theorem dX5_table_63 : decode cX5_table 63 = .ok (.iload 4, 2) := by decide +kernel
theorem dX5_table_65 : decode cX5_table 65 = .ok (.invokestatic 166, 3) := by decide +kernel
theorem dX5_table_68 : decode cX5_table 68 = .ok (.iaload, 1) := by decide +kernel
theorem dX5_table_69 : decode cX5_table 69 = .ok (.iload 5, 2) := by decide +kernel
theorem dX5_table_71 : decode cX5_table 71 = .ok (.if_icmp .ne 6, 3) := by decide +kernel
theorem dX5_table_74 : decode cX5_table 74 = .ok (.bipush (-2), 2) := by decide +kernel
theorem dX5_table_76 : decode cX5_table 76 = .ok (.ireturn, 1) := by decide +kernel
theorem dX5_table_77 : decode cX5_table 77 = .ok (.iload 6, 2) := by decide +kernel
theorem dX5_table_79 : decode cX5_table 79 = .ok (.ifCond .ne 18, 3) := by decide +kernel
theorem dX5_table_82 : decode cX5_table 82 = .ok (.aload_n 0, 1) := by decide +kernel
theorem dX5_table_83 : decode cX5_table 83 = .ok (.getfield 16, 3) := by decide +kernel
theorem dX5_table_86 : decode cX5_table 86 = .ok (.invokevirtual 169, 3) := by decide +kernel
theorem dX5_table_89 : decode cX5_table 89 = .ok (.bipush 12, 2) := by decide +kernel
theorem dX5_table_91 : decode cX5_table 91 = .ok (.if_icmp .lt 6, 3) := by decide +kernel
theorem dX5_table_94 : decode cX5_table 94 = .ok (.bipush (-3), 2) := by decide +kernel
theorem dX5_table_96 : decode cX5_table 96 = .ok (.ireturn, 1) := by decide +kernel
theorem dX5_table_97 : decode cX5_table 97 = .ok (.aload_n 0, 1) := by decide +kernel
theorem dX5_table_98 : decode cX5_table 98 = .ok (.invokevirtual 160, 3) := by decide +kernel
theorem dX5_table_101 : decode cX5_table 101 = .ok (.iload 6, 2) := by decide +kernel
theorem dX5_table_103 : decode cX5_table 103 = .ok (.ifCond .ne 22, 3) := by decide +kernel
theorem dX5_table_106 : decode cX5_table 106 = .ok (.aload_n 0, 1) := by decide +kernel
theorem dX5_table_107 : decode cX5_table 107 = .ok (.getfield 16, 3) := by decide +kernel
theorem dX5_table_110 : decode cX5_table 110 = .ok (.getfield 128, 3) := by decide +kernel
theorem dX5_table_113 : decode cX5_table 113 = .ok (.aload_n 0, 1) := by decide +kernel
theorem dX5_table_114 : decode cX5_table 114 = .ok (.getfield 16, 3) := by decide +kernel
theorem dX5_table_117 : decode cX5_table 117 = .ok (.getfield 163, 3) := by decide +kernel
theorem dX5_table_120 : decode cX5_table 120 = .ok (.iload_n 1, 1) := by decide +kernel
theorem dX5_table_121 : decode cX5_table 121 = .ok (.iload_n 2, 1) := by decide +kernel
theorem dX5_table_122 : decode cX5_table 122 = .ok (.invokestatic 172, 3) := by decide +kernel
theorem dX5_table_125 : decode cX5_table 125 = .ok (.aload_n 0, 1) := by decide +kernel
theorem dX5_table_126 : decode cX5_table 126 = .ok (.getfield 16, 3) := by decide +kernel
theorem dX5_table_129 : decode cX5_table 129 = .ok (.getfield 163, 3) := by decide +kernel
theorem dX5_table_132 : decode cX5_table 132 = .ok (.iload_n 1, 1) := by decide +kernel
theorem dX5_table_133 : decode cX5_table 133 = .ok (.iload_n 2, 1) := by decide +kernel
theorem dX5_table_134 : decode cX5_table 134 = .ok (.iload_n 3, 1) := by decide +kernel
theorem dX5_table_135 : decode cX5_table 135 = .ok (.iload 4, 2) := by decide +kernel
theorem dX5_table_137 : decode cX5_table 137 = .ok (.invokestatic 166, 3) := by decide +kernel
theorem dX5_table_140 : decode cX5_table 140 = .ok (.iaload, 1) := by decide +kernel
theorem dX5_table_141 : decode cX5_table 141 = .ok (.istore 7, 2) := by decide +kernel
theorem dX5_table_143 : decode cX5_table 143 = .ok (.aload_n 0, 1) := by decide +kernel
theorem dX5_table_144 : decode cX5_table 144 = .ok (.getfield 16, 3) := by decide +kernel
theorem dX5_table_147 : decode cX5_table 147 = .ok (.getfield 163, 3) := by decide +kernel
theorem dX5_table_150 : decode cX5_table 150 = .ok (.iload_n 1, 1) := by decide +kernel
theorem dX5_table_151 : decode cX5_table 151 = .ok (.iload_n 2, 1) := by decide +kernel
theorem dX5_table_152 : decode cX5_table 152 = .ok (.iload_n 3, 1) := by decide +kernel
theorem dX5_table_153 : decode cX5_table 153 = .ok (.iload 4, 2) := by decide +kernel
theorem dX5_table_155 : decode cX5_table 155 = .ok (.invokestatic 166, 3) := by decide +kernel
theorem dX5_table_158 : decode cX5_table 158 = .ok (.iload 5, 2) := by decide +kernel
theorem dX5_table_160 : decode cX5_table 160 = .ok (.iastore, 1) := by decide +kernel
theorem dX5_table_161 : decode cX5_table 161 = .ok (.iload 7, 2) := by decide +kernel
theorem dX5_table_163 : decode cX5_table 163 = .ok (.ireturn, 1) := by decide +kernel
theorem dX5_loose_0 : decode cX5_loose 0 = .ok (.aload_n 0, 1) := by decide +kernel
theorem dX5_loose_1 : decode cX5_loose 1 = .ok (.iload_n 1, 1) := by decide +kernel
theorem dX5_loose_2 : decode cX5_loose 2 = .ok (.invokevirtual 117, 3) := by decide +kernel
theorem dX5_loose_5 : decode cX5_loose 5 = .ok (.ifCond .eq 11, 3) := by decide +kernel
theorem dX5_loose_8 : decode cX5_loose 8 = .ok (.aload_n 0, 1) := by decide +kernel
theorem dX5_loose_9 : decode cX5_loose 9 = .ok (.iload_n 2, 1) := by decide +kernel
theorem dX5_loose_10 : decode cX5_loose 10 = .ok (.invokevirtual 117, 3) := by decide +kernel
theorem dX5_loose_13 : decode cX5_loose 13 = .ok (.ifCond .ne 5, 3) := by decide +kernel
theorem dX5_loose_16 : decode cX5_loose 16 = .ok (.iconst (-1), 1) := by decide +kernel
theorem dX5_loose_17 : decode cX5_loose 17 = .ok (.ireturn, 1) := by decide +kernel
theorem dX5_loose_18 : decode cX5_loose 18 = .ok (.aload_n 0, 1) := by decide +kernel
theorem dX5_loose_19 : decode cX5_loose 19 = .ok (.getfield 16, 3) := by decide +kernel
theorem dX5_loose_22 : decode cX5_loose 22 = .ok (.iload_n 1, 1) := by decide +kernel
theorem dX5_loose_23 : decode cX5_loose 23 = .ok (.iload_n 2, 1) := by decide +kernel
theorem dX5_loose_24 : decode cX5_loose 24 = .ok (.invokevirtual 147, 3) := by decide +kernel
theorem dX5_loose_27 : decode cX5_loose 27 = .ok (.ifCond .ne 6, 3) := by decide +kernel
theorem dX5_loose_30 : decode cX5_loose 30 = .ok (.bipush (-2), 2) := by decide +kernel
theorem dX5_loose_32 : decode cX5_loose 32 = .ok (.ireturn, 1) := by decide +kernel
theorem dX5_loose_33 : decode cX5_loose 33 = .ok (.aload_n 0, 1) := by decide +kernel
theorem dX5_loose_34 : decode cX5_loose 34 = .ok (.invokevirtual 160, 3) := by decide +kernel
theorem dX5_loose_37 : decode cX5_loose 37 = .ok (.aload_n 0, 1) := by decide +kernel
theorem dX5_loose_38 : decode cX5_loose 38 = .ok (.getfield 16, 3) := by decide +kernel
theorem dX5_loose_41 : decode cX5_loose 41 = .ok (.getfield 128, 3) := by decide +kernel
theorem dX5_loose_44 : decode cX5_loose 44 = .ok (.iload_n 1, 1) := by decide +kernel
theorem dX5_loose_45 : decode cX5_loose 45 = .ok (.iload_n 2, 1) := by decide +kernel
theorem dX5_loose_46 : decode cX5_loose 46 = .ok (.invokestatic 176, 3) := by decide +kernel
theorem dX5_loose_49 : decode cX5_loose 49 = .ok (.aload_n 0, 1) := by decide +kernel
theorem dX5_loose_50 : decode cX5_loose 50 = .ok (.getfield 16, 3) := by decide +kernel
theorem dX5_loose_53 : decode cX5_loose 53 = .ok (.invokevirtual 169, 3) := by decide +kernel
theorem dX5_loose_56 : decode cX5_loose 56 = .ok (.ireturn, 1) := by decide +kernel
theorem dX5_pin_0 : decode cX5_pin 0 = .ok (.aload_n 0, 1) := by decide +kernel
theorem dX5_pin_1 : decode cX5_pin 1 = .ok (.iload_n 1, 1) := by decide +kernel
theorem dX5_pin_2 : decode cX5_pin 2 = .ok (.invokevirtual 117, 3) := by decide +kernel
theorem dX5_pin_5 : decode cX5_pin 5 = .ok (.ifCond .eq 17, 3) := by decide +kernel
theorem dX5_pin_8 : decode cX5_pin 8 = .ok (.iload_n 2, 1) := by decide +kernel
theorem dX5_pin_9 : decode cX5_pin 9 = .ok (.iconst (-1), 1) := by decide +kernel
theorem dX5_pin_10 : decode cX5_pin 10 = .ok (.if_icmp .eq 14, 3) := by decide +kernel
theorem dX5_pin_13 : decode cX5_pin 13 = .ok (.aload_n 0, 1) := by decide +kernel
theorem dX5_pin_14 : decode cX5_pin 14 = .ok (.iload_n 1, 1) := by decide +kernel
theorem dX5_pin_15 : decode cX5_pin 15 = .ok (.iload_n 2, 1) := by decide +kernel
theorem dX5_pin_16 : decode cX5_pin 16 = .ok (.invokevirtual 139, 3) := by decide +kernel
theorem dX5_pin_19 : decode cX5_pin 19 = .ok (.ifCond .ne 5, 3) := by decide +kernel
theorem dX5_pin_22 : decode cX5_pin 22 = .ok (.iconst (-1), 1) := by decide +kernel
theorem dX5_pin_23 : decode cX5_pin 23 = .ok (.ireturn, 1) := by decide +kernel
theorem dX5_pin_24 : decode cX5_pin 24 = .ok (.aload_n 0, 1) := by decide +kernel
theorem dX5_pin_25 : decode cX5_pin 25 = .ok (.getfield 16, 3) := by decide +kernel
theorem dX5_pin_28 : decode cX5_pin 28 = .ok (.getfield 180, 3) := by decide +kernel
theorem dX5_pin_31 : decode cX5_pin 31 = .ok (.iload_n 1, 1) := by decide +kernel
theorem dX5_pin_32 : decode cX5_pin 32 = .ok (.iaload, 1) := by decide +kernel
theorem dX5_pin_33 : decode cX5_pin 33 = .ok (.iload_n 2, 1) := by decide +kernel
theorem dX5_pin_34 : decode cX5_pin 34 = .ok (.if_icmp .ne 6, 3) := by decide +kernel
theorem dX5_pin_37 : decode cX5_pin 37 = .ok (.bipush (-2), 2) := by decide +kernel
theorem dX5_pin_39 : decode cX5_pin 39 = .ok (.ireturn, 1) := by decide +kernel
theorem dX5_pin_40 : decode cX5_pin 40 = .ok (.aload_n 0, 1) := by decide +kernel
theorem dX5_pin_41 : decode cX5_pin 41 = .ok (.iload_n 1, 1) := by decide +kernel
theorem dX5_pin_42 : decode cX5_pin 42 = .ok (.invokevirtual 136, 3) := by decide +kernel
theorem dX5_pin_45 : decode cX5_pin 45 = .ok (.istore_n 3, 1) := by decide +kernel
theorem dX5_pin_46 : decode cX5_pin 46 = .ok (.aload_n 0, 1) := by decide +kernel
theorem dX5_pin_47 : decode cX5_pin 47 = .ok (.invokevirtual 160, 3) := by decide +kernel
theorem dX5_pin_50 : decode cX5_pin 50 = .ok (.aload_n 0, 1) := by decide +kernel
theorem dX5_pin_51 : decode cX5_pin 51 = .ok (.getfield 16, 3) := by decide +kernel
theorem dX5_pin_54 : decode cX5_pin 54 = .ok (.getfield 180, 3) := by decide +kernel
theorem dX5_pin_57 : decode cX5_pin 57 = .ok (.iload_n 1, 1) := by decide +kernel
theorem dX5_pin_58 : decode cX5_pin 58 = .ok (.iload_n 2, 1) := by decide +kernel
theorem dX5_pin_59 : decode cX5_pin 59 = .ok (.iastore, 1) := by decide +kernel
theorem dX5_pin_60 : decode cX5_pin 60 = .ok (.iload_n 3, 1) := by decide +kernel
theorem dX5_pin_61 : decode cX5_pin 61 = .ok (.ireturn, 1) := by decide +kernel
theorem dX5_rename_0 : decode cX5_rename 0 = .ok (.aload_n 0, 1) := by decide +kernel
theorem dX5_rename_1 : decode cX5_rename 1 = .ok (.iload_n 1, 1) := by decide +kernel
theorem dX5_rename_2 : decode cX5_rename 2 = .ok (.invokevirtual 117, 3) := by decide +kernel
theorem dX5_rename_5 : decode cX5_rename 5 = .ok (.ifCond .eq 12, 3) := by decide +kernel
theorem dX5_rename_8 : decode cX5_rename 8 = .ok (.iload_n 2, 1) := by decide +kernel
theorem dX5_rename_9 : decode cX5_rename 9 = .ok (.iconst 0, 1) := by decide +kernel
theorem dX5_rename_10 : decode cX5_rename 10 = .ok (.iconst 3, 1) := by decide +kernel
theorem dX5_rename_11 : decode cX5_rename 11 = .ok (.invokestatic 90, 3) := by decide +kernel
theorem dX5_rename_14 : decode cX5_rename 14 = .ok (.ifCond .ne 5, 3) := by decide +kernel
theorem dX5_rename_17 : decode cX5_rename 17 = .ok (.iconst (-1), 1) := by decide +kernel
theorem dX5_rename_18 : decode cX5_rename 18 = .ok (.ireturn, 1) := by decide +kernel
theorem dX5_rename_19 : decode cX5_rename 19 = .ok (.aload_n 0, 1) := by decide +kernel
theorem dX5_rename_20 : decode cX5_rename 20 = .ok (.getfield 16, 3) := by decide +kernel
theorem dX5_rename_23 : decode cX5_rename 23 = .ok (.getfield 121, 3) := by decide +kernel
theorem dX5_rename_26 : decode cX5_rename 26 = .ok (.iload_n 1, 1) := by decide +kernel
theorem dX5_rename_27 : decode cX5_rename 27 = .ok (.iaload, 1) := by decide +kernel
theorem dX5_rename_28 : decode cX5_rename 28 = .ok (.istore_n 3, 1) := by decide +kernel
theorem dX5_rename_29 : decode cX5_rename 29 = .ok (.iload_n 3, 1) := by decide +kernel
theorem dX5_rename_30 : decode cX5_rename 30 = .ok (.iload_n 2, 1) := by decide +kernel
theorem dX5_rename_31 : decode cX5_rename 31 = .ok (.if_icmp .ne 6, 3) := by decide +kernel
theorem dX5_rename_34 : decode cX5_rename 34 = .ok (.bipush (-2), 2) := by decide +kernel
theorem dX5_rename_36 : decode cX5_rename 36 = .ok (.ireturn, 1) := by decide +kernel
theorem dX5_rename_37 : decode cX5_rename 37 = .ok (.aload_n 0, 1) := by decide +kernel
theorem dX5_rename_38 : decode cX5_rename 38 = .ok (.invokevirtual 160, 3) := by decide +kernel
theorem dX5_rename_41 : decode cX5_rename 41 = .ok (.aload_n 0, 1) := by decide +kernel
theorem dX5_rename_42 : decode cX5_rename 42 = .ok (.getfield 16, 3) := by decide +kernel
theorem dX5_rename_45 : decode cX5_rename 45 = .ok (.getfield 121, 3) := by decide +kernel
theorem dX5_rename_48 : decode cX5_rename 48 = .ok (.iload_n 1, 1) := by decide +kernel
theorem dX5_rename_49 : decode cX5_rename 49 = .ok (.iload_n 2, 1) := by decide +kernel
theorem dX5_rename_50 : decode cX5_rename 50 = .ok (.iastore, 1) := by decide +kernel
theorem dX5_rename_51 : decode cX5_rename 51 = .ok (.iload_n 3, 1) := by decide +kernel
theorem dX5_rename_52 : decode cX5_rename 52 = .ok (.ireturn, 1) := by decide +kernel
theorem dX5_undo_0 : decode cX5_undo 0 = .ok (.aload_n 0, 1) := by decide +kernel
theorem dX5_undo_1 : decode cX5_undo 1 = .ok (.getfield 108, 3) := by decide +kernel
theorem dX5_undo_4 : decode cX5_undo 4 = .ok (.ifCond .gt 6, 3) := by decide +kernel
theorem dX5_undo_7 : decode cX5_undo 7 = .ok (.bipush (-2), 2) := by decide +kernel
theorem dX5_undo_9 : decode cX5_undo 9 = .ok (.ireturn, 1) := by decide +kernel
theorem dX5_undo_10 : decode cX5_undo 10 = .ok (.aload_n 0, 1) := by decide +kernel
theorem dX5_undo_11 : decode cX5_undo 11 = .ok (.dup, 1) := by decide +kernel
theorem dX5_undo_12 : decode cX5_undo 12 = .ok (.getfield 108, 3) := by decide +kernel
theorem dX5_undo_15 : decode cX5_undo 15 = .ok (.iconst 1, 1) := by decide +kernel
theorem dX5_undo_16 : decode cX5_undo 16 = .ok (.isub, 1) := by decide +kernel
theorem dX5_undo_17 : decode cX5_undo 17 = .ok (.putfield 108, 3) := by decide +kernel
theorem dX5_undo_20 : decode cX5_undo 20 = .ok (.aload_n 0, 1) := by decide +kernel
theorem dX5_undo_21 : decode cX5_undo 21 = .ok (.getfield 16, 3) := by decide +kernel
theorem dX5_undo_24 : decode cX5_undo 24 = .ok (.aload_n 0, 1) := by decide +kernel
theorem dX5_undo_25 : decode cX5_undo 25 = .ok (.getfield 32, 3) := by decide +kernel
theorem dX5_undo_28 : decode cX5_undo 28 = .ok (.aload_n 0, 1) := by decide +kernel
theorem dX5_undo_29 : decode cX5_undo 29 = .ok (.getfield 108, 3) := by decide +kernel
theorem dX5_undo_32 : decode cX5_undo 32 = .ok (.aaload, 1) := by decide +kernel
theorem dX5_undo_33 : decode cX5_undo 33 = .ok (.invokevirtual 104, 3) := by decide +kernel
theorem dX5_undo_36 : decode cX5_undo 36 = .ok (.aload_n 0, 1) := by decide +kernel
theorem dX5_undo_37 : decode cX5_undo 37 = .ok (.invokevirtual 114, 3) := by decide +kernel
theorem dX5_undo_40 : decode cX5_undo 40 = .ok (.aload_n 0, 1) := by decide +kernel
theorem dX5_undo_41 : decode cX5_undo 41 = .ok (.getfield 108, 3) := by decide +kernel
theorem dX5_undo_44 : decode cX5_undo 44 = .ok (.ireturn, 1) := by decide +kernel
theorem dX5_turn_0 : decode cX5_turn 0 = .ok (.aload_n 0, 1) := by decide +kernel
theorem dX5_turn_1 : decode cX5_turn 1 = .ok (.iload_n 1, 1) := by decide +kernel
theorem dX5_turn_2 : decode cX5_turn 2 = .ok (.invokevirtual 117, 3) := by decide +kernel
theorem dX5_turn_5 : decode cX5_turn 5 = .ok (.ifCond .eq 12, 3) := by decide +kernel
theorem dX5_turn_8 : decode cX5_turn 8 = .ok (.iload_n 2, 1) := by decide +kernel
theorem dX5_turn_9 : decode cX5_turn 9 = .ok (.iconst 0, 1) := by decide +kernel
theorem dX5_turn_10 : decode cX5_turn 10 = .ok (.iconst 1, 1) := by decide +kernel
theorem dX5_turn_11 : decode cX5_turn 11 = .ok (.invokestatic 90, 3) := by decide +kernel
theorem dX5_turn_14 : decode cX5_turn 14 = .ok (.ifCond .ne 5, 3) := by decide +kernel
theorem dX5_turn_17 : decode cX5_turn 17 = .ok (.iconst (-1), 1) := by decide +kernel
theorem dX5_turn_18 : decode cX5_turn 18 = .ok (.ireturn, 1) := by decide +kernel
theorem dX5_turn_19 : decode cX5_turn 19 = .ok (.aload_n 0, 1) := by decide +kernel
theorem dX5_turn_20 : decode cX5_turn 20 = .ok (.invokevirtual 183, 3) := by decide +kernel
theorem dX5_turn_23 : decode cX5_turn 23 = .ok (.iload_n 2, 1) := by decide +kernel
theorem dX5_turn_24 : decode cX5_turn 24 = .ok (.ifCond .ne 15, 3) := by decide +kernel
theorem dX5_turn_27 : decode cX5_turn 27 = .ok (.aload_n 0, 1) := by decide +kernel
theorem dX5_turn_28 : decode cX5_turn 28 = .ok (.getfield 52, 3) := by decide +kernel
theorem dX5_turn_31 : decode cX5_turn 31 = .ok (.getfield 186, 3) := by decide +kernel
theorem dX5_turn_34 : decode cX5_turn 34 = .ok (.iload_n 1, 1) := by decide +kernel
theorem dX5_turn_35 : decode cX5_turn 35 = .ok (.iaload, 1) := by decide +kernel
theorem dX5_turn_36 : decode cX5_turn 36 = .ok (.goto 12, 3) := by decide +kernel
theorem dX5_turn_39 : decode cX5_turn 39 = .ok (.aload_n 0, 1) := by decide +kernel
theorem dX5_turn_40 : decode cX5_turn 40 = .ok (.getfield 52, 3) := by decide +kernel
theorem dX5_turn_43 : decode cX5_turn 43 = .ok (.getfield 189, 3) := by decide +kernel
theorem dX5_turn_46 : decode cX5_turn 46 = .ok (.iload_n 1, 1) := by decide +kernel
theorem dX5_turn_47 : decode cX5_turn 47 = .ok (.iaload, 1) := by decide +kernel
theorem dX5_turn_48 : decode cX5_turn 48 = .ok (.ireturn, 1) := by decide +kernel
theorem dX5_reduced_0 : decode cX5_reduced 0 = .ok (.aload_n 0, 1) := by decide +kernel
theorem dX5_reduced_1 : decode cX5_reduced 1 = .ok (.iload_n 1, 1) := by decide +kernel
theorem dX5_reduced_2 : decode cX5_reduced 2 = .ok (.invokevirtual 117, 3) := by decide +kernel
theorem dX5_reduced_5 : decode cX5_reduced 5 = .ok (.ifCond .ne 5, 3) := by decide +kernel
theorem dX5_reduced_8 : decode cX5_reduced 8 = .ok (.iconst (-1), 1) := by decide +kernel
theorem dX5_reduced_9 : decode cX5_reduced 9 = .ok (.ireturn, 1) := by decide +kernel
theorem dX5_reduced_10 : decode cX5_reduced 10 = .ok (.aload_n 0, 1) := by decide +kernel
theorem dX5_reduced_11 : decode cX5_reduced 11 = .ok (.invokevirtual 183, 3) := by decide +kernel
theorem dX5_reduced_14 : decode cX5_reduced 14 = .ok (.aload_n 0, 1) := by decide +kernel
theorem dX5_reduced_15 : decode cX5_reduced 15 = .ok (.getfield 52, 3) := by decide +kernel
theorem dX5_reduced_18 : decode cX5_reduced 18 = .ok (.getfield 192, 3) := by decide +kernel
theorem dX5_reduced_21 : decode cX5_reduced 21 = .ok (.iload_n 1, 1) := by decide +kernel
theorem dX5_reduced_22 : decode cX5_reduced 22 = .ok (.iaload, 1) := by decide +kernel
theorem dX5_reduced_23 : decode cX5_reduced 23 = .ok (.ireturn, 1) := by decide +kernel
theorem dX5_plan_0 : decode cX5_plan 0 = .ok (.iload_n 1, 1) := by decide +kernel
theorem dX5_plan_1 : decode cX5_plan 1 = .ok (.iconst 0, 1) := by decide +kernel
theorem dX5_plan_2 : decode cX5_plan 2 = .ok (.iconst 1, 1) := by decide +kernel
theorem dX5_plan_3 : decode cX5_plan 3 = .ok (.invokestatic 90, 3) := by decide +kernel
theorem dX5_plan_6 : decode cX5_plan 6 = .ok (.ifCond .ne 5, 3) := by decide +kernel
theorem dX5_plan_9 : decode cX5_plan 9 = .ok (.iconst (-1), 1) := by decide +kernel
theorem dX5_plan_10 : decode cX5_plan 10 = .ok (.ireturn, 1) := by decide +kernel
theorem dX5_plan_11 : decode cX5_plan 11 = .ok (.aload_n 0, 1) := by decide +kernel
theorem dX5_plan_12 : decode cX5_plan 12 = .ok (.invokevirtual 183, 3) := by decide +kernel
theorem dX5_plan_15 : decode cX5_plan 15 = .ok (.iload_n 1, 1) := by decide +kernel
theorem dX5_plan_16 : decode cX5_plan 16 = .ok (.ifCond .ne 18, 3) := by decide +kernel
theorem dX5_plan_19 : decode cX5_plan 19 = .ok (.aload_n 0, 1) := by decide +kernel
theorem dX5_plan_20 : decode cX5_plan 20 = .ok (.getfield 42, 3) := by decide +kernel
theorem dX5_plan_23 : decode cX5_plan 23 = .ok (.aload_n 0, 1) := by decide +kernel
theorem dX5_plan_24 : decode cX5_plan 24 = .ok (.getfield 52, 3) := by decide +kernel
theorem dX5_plan_27 : decode cX5_plan 27 = .ok (.getfield 192, 3) := by decide +kernel
theorem dX5_plan_30 : decode cX5_plan 30 = .ok (.invokevirtual 195, 3) := by decide +kernel
theorem dX5_plan_33 : decode cX5_plan 33 = .ok (.ireturn, 1) := by decide +kernel
theorem dX5_plan_34 : decode cX5_plan 34 = .ok (.aload_n 0, 1) := by decide +kernel
theorem dX5_plan_35 : decode cX5_plan 35 = .ok (.getfield 52, 3) := by decide +kernel
theorem dX5_plan_38 : decode cX5_plan 38 = .ok (.getfield 199, 3) := by decide +kernel
theorem dX5_plan_41 : decode cX5_plan 41 = .ok (.ifCond .eq 7, 3) := by decide +kernel
theorem dX5_plan_44 : decode cX5_plan 44 = .ok (.iconst 0, 1) := by decide +kernel
theorem dX5_plan_45 : decode cX5_plan 45 = .ok (.goto 4, 3) := by decide +kernel
theorem dX5_plan_48 : decode cX5_plan 48 = .ok (.iconst 1, 1) := by decide +kernel
theorem dX5_plan_49 : decode cX5_plan 49 = .ok (.ireturn, 1) := by decide +kernel
theorem dX5_least_0 : decode cX5_least 0 = .ok (.iload_n 1, 1) := by decide +kernel
theorem dX5_least_1 : decode cX5_least 1 = .ok (.iconst 0, 1) := by decide +kernel
theorem dX5_least_2 : decode cX5_least 2 = .ok (.iconst 4, 1) := by decide +kernel
theorem dX5_least_3 : decode cX5_least 3 = .ok (.invokestatic 90, 3) := by decide +kernel
theorem dX5_least_6 : decode cX5_least 6 = .ok (.ifCond .ne 5, 3) := by decide +kernel
theorem dX5_least_9 : decode cX5_least 9 = .ok (.iconst (-1), 1) := by decide +kernel
theorem dX5_least_10 : decode cX5_least 10 = .ok (.ireturn, 1) := by decide +kernel
theorem dX5_least_11 : decode cX5_least 11 = .ok (.aload_n 0, 1) := by decide +kernel
theorem dX5_least_12 : decode cX5_least 12 = .ok (.invokevirtual 203, 3) := by decide +kernel
theorem dX5_least_15 : decode cX5_least 15 = .ok (.iload_n 1, 1) := by decide +kernel
theorem dX5_least_16 : decode cX5_least 16 = .ok (.tableswitch 96 0 3 #[32, 40, 48, 71], 32) := by decide +kernel
theorem dX5_least_48 : decode cX5_least 48 = .ok (.aload_n 0, 1) := by decide +kernel
theorem dX5_least_49 : decode cX5_least 49 = .ok (.getfield 61, 3) := by decide +kernel
theorem dX5_least_52 : decode cX5_least 52 = .ok (.getfield 206, 3) := by decide +kernel
theorem dX5_least_55 : decode cX5_least 55 = .ok (.ireturn, 1) := by decide +kernel
theorem dX5_least_56 : decode cX5_least 56 = .ok (.aload_n 0, 1) := by decide +kernel
theorem dX5_least_57 : decode cX5_least 57 = .ok (.getfield 61, 3) := by decide +kernel
theorem dX5_least_60 : decode cX5_least 60 = .ok (.getfield 209, 3) := by decide +kernel
theorem dX5_least_63 : decode cX5_least 63 = .ok (.ireturn, 1) := by decide +kernel
theorem dX5_least_64 : decode cX5_least 64 = .ok (.aload_n 0, 1) := by decide +kernel
theorem dX5_least_65 : decode cX5_least 65 = .ok (.getfield 61, 3) := by decide +kernel
theorem dX5_least_68 : decode cX5_least 68 = .ok (.getfield 209, 3) := by decide +kernel
theorem dX5_least_71 : decode cX5_least 71 = .ok (.ifCond .ne 8, 3) := by decide +kernel
theorem dX5_least_74 : decode cX5_least 74 = .ok (.bipush (-4), 2) := by decide +kernel
theorem dX5_least_76 : decode cX5_least 76 = .ok (.goto 10, 3) := by decide +kernel
theorem dX5_least_79 : decode cX5_least 79 = .ok (.aload_n 0, 1) := by decide +kernel
theorem dX5_least_80 : decode cX5_least 80 = .ok (.getfield 61, 3) := by decide +kernel
theorem dX5_least_83 : decode cX5_least 83 = .ok (.getfield 212, 3) := by decide +kernel
theorem dX5_least_86 : decode cX5_least 86 = .ok (.ireturn, 1) := by decide +kernel
theorem dX5_least_87 : decode cX5_least 87 = .ok (.aload_n 0, 1) := by decide +kernel
theorem dX5_least_88 : decode cX5_least 88 = .ok (.getfield 61, 3) := by decide +kernel
theorem dX5_least_91 : decode cX5_least 91 = .ok (.getfield 215, 3) := by decide +kernel
theorem dX5_least_94 : decode cX5_least 94 = .ok (.ldc 218, 2) := by decide +kernel
theorem dX5_least_96 : decode cX5_least 96 = .ok (.if_icmp .ne 8, 3) := by decide +kernel
theorem dX5_least_99 : decode cX5_least 99 = .ok (.bipush (-4), 2) := by decide +kernel
theorem dX5_least_101 : decode cX5_least 101 = .ok (.goto 10, 3) := by decide +kernel
theorem dX5_least_104 : decode cX5_least 104 = .ok (.aload_n 0, 1) := by decide +kernel
theorem dX5_least_105 : decode cX5_least 105 = .ok (.getfield 61, 3) := by decide +kernel
theorem dX5_least_108 : decode cX5_least 108 = .ok (.getfield 215, 3) := by decide +kernel
theorem dX5_least_111 : decode cX5_least 111 = .ok (.ireturn, 1) := by decide +kernel
theorem dX5_least_112 : decode cX5_least 112 = .ok (.aload_n 0, 1) := by decide +kernel
theorem dX5_least_113 : decode cX5_least 113 = .ok (.getfield 42, 3) := by decide +kernel
theorem dX5_least_116 : decode cX5_least 116 = .ok (.invokevirtual 219, 3) := by decide +kernel
theorem dX5_least_119 : decode cX5_least 119 = .ok (.ireturn, 1) := by decide +kernel
theorem dX5_first_0 : decode cX5_first 0 = .ok (.aload_n 0, 1) := by decide +kernel
theorem dX5_first_1 : decode cX5_first 1 = .ok (.iload_n 1, 1) := by decide +kernel
theorem dX5_first_2 : decode cX5_first 2 = .ok (.invokevirtual 117, 3) := by decide +kernel
theorem dX5_first_5 : decode cX5_first 5 = .ok (.ifCond .ne 5, 3) := by decide +kernel
theorem dX5_first_8 : decode cX5_first 8 = .ok (.iconst (-1), 1) := by decide +kernel
theorem dX5_first_9 : decode cX5_first 9 = .ok (.ireturn, 1) := by decide +kernel
theorem dX5_first_10 : decode cX5_first 10 = .ok (.aload_n 0, 1) := by decide +kernel
theorem dX5_first_11 : decode cX5_first 11 = .ok (.invokevirtual 203, 3) := by decide +kernel
theorem dX5_first_14 : decode cX5_first 14 = .ok (.aload_n 0, 1) := by decide +kernel
theorem dX5_first_15 : decode cX5_first 15 = .ok (.getfield 61, 3) := by decide +kernel
theorem dX5_first_18 : decode cX5_first 18 = .ok (.getfield 209, 3) := by decide +kernel
theorem dX5_first_21 : decode cX5_first 21 = .ok (.ifCond .ne 8, 3) := by decide +kernel
theorem dX5_first_24 : decode cX5_first 24 = .ok (.bipush (-4), 2) := by decide +kernel
theorem dX5_first_26 : decode cX5_first 26 = .ok (.goto 12, 3) := by decide +kernel
theorem dX5_first_29 : decode cX5_first 29 = .ok (.aload_n 0, 1) := by decide +kernel
theorem dX5_first_30 : decode cX5_first 30 = .ok (.getfield 61, 3) := by decide +kernel
theorem dX5_first_33 : decode cX5_first 33 = .ok (.getfield 222, 3) := by decide +kernel
theorem dX5_first_36 : decode cX5_first 36 = .ok (.iload_n 1, 1) := by decide +kernel
theorem dX5_first_37 : decode cX5_first 37 = .ok (.iaload, 1) := by decide +kernel
theorem dX5_first_38 : decode cX5_first 38 = .ok (.ireturn, 1) := by decide +kernel
theorem dX5_with_0 : decode cX5_with 0 = .ok (.aload_n 0, 1) := by decide +kernel
theorem dX5_with_1 : decode cX5_with 1 = .ok (.iload_n 1, 1) := by decide +kernel
theorem dX5_with_2 : decode cX5_with 2 = .ok (.iload_n 2, 1) := by decide +kernel
theorem dX5_with_3 : decode cX5_with 3 = .ok (.invokevirtual 139, 3) := by decide +kernel
theorem dX5_with_6 : decode cX5_with 6 = .ok (.ifCond .ne 5, 3) := by decide +kernel
theorem dX5_with_9 : decode cX5_with 9 = .ok (.iconst (-1), 1) := by decide +kernel
theorem dX5_with_10 : decode cX5_with 10 = .ok (.ireturn, 1) := by decide +kernel
theorem dX5_with_11 : decode cX5_with 11 = .ok (.aload_n 0, 1) := by decide +kernel
theorem dX5_with_12 : decode cX5_with 12 = .ok (.getfield 46, 3) := by decide +kernel
theorem dX5_with_15 : decode cX5_with 15 = .ok (.aload_n 0, 1) := by decide +kernel
theorem dX5_with_16 : decode cX5_with 16 = .ok (.getfield 16, 3) := by decide +kernel
theorem dX5_with_19 : decode cX5_with 19 = .ok (.invokevirtual 225, 3) := by decide +kernel
theorem dX5_with_22 : decode cX5_with 22 = .ok (.aload_n 0, 1) := by decide +kernel
theorem dX5_with_23 : decode cX5_with 23 = .ok (.getfield 46, 3) := by decide +kernel
theorem dX5_with_26 : decode cX5_with 26 = .ok (.iload_n 1, 1) := by decide +kernel
theorem dX5_with_27 : decode cX5_with 27 = .ok (.iload_n 2, 1) := by decide +kernel
theorem dX5_with_28 : decode cX5_with 28 = .ok (.invokevirtual 228, 3) := by decide +kernel
theorem dX5_with_31 : decode cX5_with 31 = .ok (.aload_n 0, 1) := by decide +kernel
theorem dX5_with_32 : decode cX5_with 32 = .ok (.getfield 65, 3) := by decide +kernel
theorem dX5_with_35 : decode cX5_with 35 = .ok (.invokevirtual 232, 3) := by decide +kernel
theorem dX5_with_38 : decode cX5_with 38 = .ok (.aload_n 0, 1) := by decide +kernel
theorem dX5_with_39 : decode cX5_with 39 = .ok (.getfield 65, 3) := by decide +kernel
theorem dX5_with_42 : decode cX5_with 42 = .ok (.getfield 206, 3) := by decide +kernel
theorem dX5_with_45 : decode cX5_with 45 = .ok (.ireturn, 1) := by decide +kernel
theorem dX5_without_0 : decode cX5_without 0 = .ok (.aload_n 0, 1) := by decide +kernel
theorem dX5_without_1 : decode cX5_without 1 = .ok (.iload_n 1, 1) := by decide +kernel
theorem dX5_without_2 : decode cX5_without 2 = .ok (.invokevirtual 117, 3) := by decide +kernel
theorem dX5_without_5 : decode cX5_without 5 = .ok (.ifCond .eq 11, 3) := by decide +kernel
theorem dX5_without_8 : decode cX5_without 8 = .ok (.aload_n 0, 1) := by decide +kernel
theorem dX5_without_9 : decode cX5_without 9 = .ok (.iload_n 2, 1) := by decide +kernel
theorem dX5_without_10 : decode cX5_without 10 = .ok (.invokevirtual 117, 3) := by decide +kernel
theorem dX5_without_13 : decode cX5_without 13 = .ok (.ifCond .ne 5, 3) := by decide +kernel
theorem dX5_without_16 : decode cX5_without 16 = .ok (.iconst (-1), 1) := by decide +kernel
theorem dX5_without_17 : decode cX5_without 17 = .ok (.ireturn, 1) := by decide +kernel
theorem dX5_without_18 : decode cX5_without 18 = .ok (.aload_n 0, 1) := by decide +kernel
theorem dX5_without_19 : decode cX5_without 19 = .ok (.getfield 16, 3) := by decide +kernel
theorem dX5_without_22 : decode cX5_without 22 = .ok (.iload_n 1, 1) := by decide +kernel
theorem dX5_without_23 : decode cX5_without 23 = .ok (.iload_n 2, 1) := by decide +kernel
theorem dX5_without_24 : decode cX5_without 24 = .ok (.invokevirtual 147, 3) := by decide +kernel
theorem dX5_without_27 : decode cX5_without 27 = .ok (.ifCond .ne 6, 3) := by decide +kernel
theorem dX5_without_30 : decode cX5_without 30 = .ok (.bipush (-4), 2) := by decide +kernel
theorem dX5_without_32 : decode cX5_without 32 = .ok (.ireturn, 1) := by decide +kernel
theorem dX5_without_33 : decode cX5_without 33 = .ok (.aload_n 0, 1) := by decide +kernel
theorem dX5_without_34 : decode cX5_without 34 = .ok (.getfield 46, 3) := by decide +kernel
theorem dX5_without_37 : decode cX5_without 37 = .ok (.aload_n 0, 1) := by decide +kernel
theorem dX5_without_38 : decode cX5_without 38 = .ok (.getfield 16, 3) := by decide +kernel
theorem dX5_without_41 : decode cX5_without 41 = .ok (.invokevirtual 225, 3) := by decide +kernel
theorem dX5_without_44 : decode cX5_without 44 = .ok (.aload_n 0, 1) := by decide +kernel
theorem dX5_without_45 : decode cX5_without 45 = .ok (.getfield 46, 3) := by decide +kernel
theorem dX5_without_48 : decode cX5_without 48 = .ok (.getfield 235, 3) := by decide +kernel
theorem dX5_without_51 : decode cX5_without 51 = .ok (.iload_n 1, 1) := by decide +kernel
theorem dX5_without_52 : decode cX5_without 52 = .ok (.iload_n 2, 1) := by decide +kernel
theorem dX5_without_53 : decode cX5_without 53 = .ok (.invokestatic 176, 3) := by decide +kernel
theorem dX5_without_56 : decode cX5_without 56 = .ok (.aload_n 0, 1) := by decide +kernel
theorem dX5_without_57 : decode cX5_without 57 = .ok (.getfield 65, 3) := by decide +kernel
theorem dX5_without_60 : decode cX5_without 60 = .ok (.invokevirtual 232, 3) := by decide +kernel
theorem dX5_without_63 : decode cX5_without 63 = .ok (.aload_n 0, 1) := by decide +kernel
theorem dX5_without_64 : decode cX5_without 64 = .ok (.getfield 65, 3) := by decide +kernel
theorem dX5_without_67 : decode cX5_without 67 = .ok (.getfield 206, 3) := by decide +kernel
theorem dX5_without_70 : decode cX5_without 70 = .ok (.ireturn, 1) := by decide +kernel
theorem dX5_keep_0 : decode cX5_keep 0 = .ok (.aload_n 0, 1) := by decide +kernel
theorem dX5_keep_1 : decode cX5_keep 1 = .ok (.getfield 111, 3) := by decide +kernel
theorem dX5_keep_4 : decode cX5_keep 4 = .ok (.iconst 2, 1) := by decide +kernel
theorem dX5_keep_5 : decode cX5_keep 5 = .ok (.if_icmp .lt 6, 3) := by decide +kernel
theorem dX5_keep_8 : decode cX5_keep 8 = .ok (.bipush (-3), 2) := by decide +kernel
theorem dX5_keep_10 : decode cX5_keep 10 = .ok (.ireturn, 1) := by decide +kernel
theorem dX5_keep_11 : decode cX5_keep 11 = .ok (.aload_n 0, 1) := by decide +kernel
theorem dX5_keep_12 : decode cX5_keep 12 = .ok (.getfield 36, 3) := by decide +kernel
theorem dX5_keep_15 : decode cX5_keep 15 = .ok (.aload_n 0, 1) := by decide +kernel
theorem dX5_keep_16 : decode cX5_keep 16 = .ok (.getfield 111, 3) := by decide +kernel
theorem dX5_keep_19 : decode cX5_keep 19 = .ok (.aaload, 1) := by decide +kernel
theorem dX5_keep_20 : decode cX5_keep 20 = .ok (.aload_n 0, 1) := by decide +kernel
theorem dX5_keep_21 : decode cX5_keep 21 = .ok (.getfield 16, 3) := by decide +kernel
theorem dX5_keep_24 : decode cX5_keep 24 = .ok (.invokevirtual 104, 3) := by decide +kernel
theorem dX5_keep_27 : decode cX5_keep 27 = .ok (.aload_n 0, 1) := by decide +kernel
theorem dX5_keep_28 : decode cX5_keep 28 = .ok (.dup, 1) := by decide +kernel
theorem dX5_keep_29 : decode cX5_keep 29 = .ok (.getfield 111, 3) := by decide +kernel
theorem dX5_keep_32 : decode cX5_keep 32 = .ok (.iconst 1, 1) := by decide +kernel
theorem dX5_keep_33 : decode cX5_keep 33 = .ok (.iadd, 1) := by decide +kernel
theorem dX5_keep_34 : decode cX5_keep 34 = .ok (.putfield 111, 3) := by decide +kernel
theorem dX5_keep_37 : decode cX5_keep 37 = .ok (.aload_n 0, 1) := by decide +kernel
theorem dX5_keep_38 : decode cX5_keep 38 = .ok (.getfield 111, 3) := by decide +kernel
theorem dX5_keep_41 : decode cX5_keep 41 = .ok (.ireturn, 1) := by decide +kernel
theorem dX5_back_0 : decode cX5_back 0 = .ok (.aload_n 0, 1) := by decide +kernel
theorem dX5_back_1 : decode cX5_back 1 = .ok (.getfield 111, 3) := by decide +kernel
theorem dX5_back_4 : decode cX5_back 4 = .ok (.ifCond .gt 6, 3) := by decide +kernel
theorem dX5_back_7 : decode cX5_back 7 = .ok (.bipush (-2), 2) := by decide +kernel
theorem dX5_back_9 : decode cX5_back 9 = .ok (.ireturn, 1) := by decide +kernel
theorem dX5_back_10 : decode cX5_back 10 = .ok (.aload_n 0, 1) := by decide +kernel
theorem dX5_back_11 : decode cX5_back 11 = .ok (.dup, 1) := by decide +kernel
theorem dX5_back_12 : decode cX5_back 12 = .ok (.getfield 111, 3) := by decide +kernel
theorem dX5_back_15 : decode cX5_back 15 = .ok (.iconst 1, 1) := by decide +kernel
theorem dX5_back_16 : decode cX5_back 16 = .ok (.isub, 1) := by decide +kernel
theorem dX5_back_17 : decode cX5_back 17 = .ok (.putfield 111, 3) := by decide +kernel
theorem dX5_back_20 : decode cX5_back 20 = .ok (.aload_n 0, 1) := by decide +kernel
theorem dX5_back_21 : decode cX5_back 21 = .ok (.getfield 16, 3) := by decide +kernel
theorem dX5_back_24 : decode cX5_back 24 = .ok (.aload_n 0, 1) := by decide +kernel
theorem dX5_back_25 : decode cX5_back 25 = .ok (.getfield 36, 3) := by decide +kernel
theorem dX5_back_28 : decode cX5_back 28 = .ok (.aload_n 0, 1) := by decide +kernel
theorem dX5_back_29 : decode cX5_back 29 = .ok (.getfield 111, 3) := by decide +kernel
theorem dX5_back_32 : decode cX5_back 32 = .ok (.aaload, 1) := by decide +kernel
theorem dX5_back_33 : decode cX5_back 33 = .ok (.invokevirtual 104, 3) := by decide +kernel
theorem dX5_back_36 : decode cX5_back 36 = .ok (.aload_n 0, 1) := by decide +kernel
theorem dX5_back_37 : decode cX5_back 37 = .ok (.iconst 0, 1) := by decide +kernel
theorem dX5_back_38 : decode cX5_back 38 = .ok (.putfield 108, 3) := by decide +kernel
theorem dX5_back_41 : decode cX5_back 41 = .ok (.aload_n 0, 1) := by decide +kernel
theorem dX5_back_42 : decode cX5_back 42 = .ok (.invokevirtual 114, 3) := by decide +kernel
theorem dX5_back_45 : decode cX5_back 45 = .ok (.aload_n 0, 1) := by decide +kernel
theorem dX5_back_46 : decode cX5_back 46 = .ok (.getfield 111, 3) := by decide +kernel
theorem dX5_back_49 : decode cX5_back 49 = .ok (.ireturn, 1) := by decide +kernel
theorem dX5_count_0 : decode cX5_count 0 = .ok (.iload_n 1, 1) := by decide +kernel
theorem dX5_count_1 : decode cX5_count 1 = .ok (.tableswitch 78 0 5 #[39, 47, 55, 63, 68, 73], 39) := by decide +kernel
theorem dX5_count_40 : decode cX5_count 40 = .ok (.aload_n 0, 1) := by decide +kernel
theorem dX5_count_41 : decode cX5_count 41 = .ok (.getfield 16, 3) := by decide +kernel
theorem dX5_count_44 : decode cX5_count 44 = .ok (.getfield 101, 3) := by decide +kernel
theorem dX5_count_47 : decode cX5_count 47 = .ok (.ireturn, 1) := by decide +kernel
theorem dX5_count_48 : decode cX5_count 48 = .ok (.aload_n 0, 1) := by decide +kernel
theorem dX5_count_49 : decode cX5_count 49 = .ok (.getfield 16, 3) := by decide +kernel
theorem dX5_count_52 : decode cX5_count 52 = .ok (.invokevirtual 169, 3) := by decide +kernel
theorem dX5_count_55 : decode cX5_count 55 = .ok (.ireturn, 1) := by decide +kernel
theorem dX5_count_56 : decode cX5_count 56 = .ok (.aload_n 0, 1) := by decide +kernel
theorem dX5_count_57 : decode cX5_count 57 = .ok (.getfield 16, 3) := by decide +kernel
theorem dX5_count_60 : decode cX5_count 60 = .ok (.invokevirtual 236, 3) := by decide +kernel
theorem dX5_count_63 : decode cX5_count 63 = .ok (.ireturn, 1) := by decide +kernel
theorem dX5_count_64 : decode cX5_count 64 = .ok (.aload_n 0, 1) := by decide +kernel
theorem dX5_count_65 : decode cX5_count 65 = .ok (.getfield 108, 3) := by decide +kernel
theorem dX5_count_68 : decode cX5_count 68 = .ok (.ireturn, 1) := by decide +kernel
theorem dX5_count_69 : decode cX5_count 69 = .ok (.aload_n 0, 1) := by decide +kernel
theorem dX5_count_70 : decode cX5_count 70 = .ok (.getfield 111, 3) := by decide +kernel
theorem dX5_count_73 : decode cX5_count 73 = .ok (.ireturn, 1) := by decide +kernel
theorem dX5_count_74 : decode cX5_count 74 = .ok (.aload_n 0, 1) := by decide +kernel
theorem dX5_count_75 : decode cX5_count 75 = .ok (.getfield 94, 3) := by decide +kernel
theorem dX5_count_78 : decode cX5_count 78 = .ok (.ireturn, 1) := by decide +kernel
theorem dX5_count_79 : decode cX5_count 79 = .ok (.iconst (-1), 1) := by decide +kernel
theorem dX5_count_80 : decode cX5_count 80 = .ok (.ireturn, 1) := by decide +kernel
theorem dX5_isNode_0 : decode cX5_isNode 0 = .ok (.iload_n 1, 1) := by decide +kernel
theorem dX5_isNode_1 : decode cX5_isNode 1 = .ok (.iconst 0, 1) := by decide +kernel
theorem dX5_isNode_2 : decode cX5_isNode 2 = .ok (.aload_n 0, 1) := by decide +kernel
theorem dX5_isNode_3 : decode cX5_isNode 3 = .ok (.getfield 16, 3) := by decide +kernel
theorem dX5_isNode_6 : decode cX5_isNode 6 = .ok (.getfield 101, 3) := by decide +kernel
theorem dX5_isNode_9 : decode cX5_isNode 9 = .ok (.iconst 1, 1) := by decide +kernel
theorem dX5_isNode_10 : decode cX5_isNode 10 = .ok (.isub, 1) := by decide +kernel
theorem dX5_isNode_11 : decode cX5_isNode 11 = .ok (.invokestatic 90, 3) := by decide +kernel
theorem dX5_isNode_14 : decode cX5_isNode 14 = .ok (.ireturn, 1) := by decide +kernel
theorem dX5_isChoice_0 : decode cX5_isChoice 0 = .ok (.aload_n 0, 1) := by decide +kernel
theorem dX5_isChoice_1 : decode cX5_isChoice 1 = .ok (.iload_n 1, 1) := by decide +kernel
theorem dX5_isChoice_2 : decode cX5_isChoice 2 = .ok (.invokevirtual 117, 3) := by decide +kernel
theorem dX5_isChoice_5 : decode cX5_isChoice 5 = .ok (.ifCond .eq 26, 3) := by decide +kernel
theorem dX5_isChoice_8 : decode cX5_isChoice 8 = .ok (.iload_n 2, 1) := by decide +kernel
theorem dX5_isChoice_9 : decode cX5_isChoice 9 = .ok (.iconst 0, 1) := by decide +kernel
theorem dX5_isChoice_10 : decode cX5_isChoice 10 = .ok (.aload_n 0, 1) := by decide +kernel
theorem dX5_isChoice_11 : decode cX5_isChoice 11 = .ok (.getfield 16, 3) := by decide +kernel
theorem dX5_isChoice_14 : decode cX5_isChoice 14 = .ok (.getfield 125, 3) := by decide +kernel
theorem dX5_isChoice_17 : decode cX5_isChoice 17 = .ok (.iload_n 1, 1) := by decide +kernel
theorem dX5_isChoice_18 : decode cX5_isChoice 18 = .ok (.iaload, 1) := by decide +kernel
theorem dX5_isChoice_19 : decode cX5_isChoice 19 = .ok (.iconst 1, 1) := by decide +kernel
theorem dX5_isChoice_20 : decode cX5_isChoice 20 = .ok (.isub, 1) := by decide +kernel
theorem dX5_isChoice_21 : decode cX5_isChoice 21 = .ok (.invokestatic 90, 3) := by decide +kernel
theorem dX5_isChoice_24 : decode cX5_isChoice 24 = .ok (.ifCond .eq 7, 3) := by decide +kernel
theorem dX5_isChoice_27 : decode cX5_isChoice 27 = .ok (.iconst 1, 1) := by decide +kernel
theorem dX5_isChoice_28 : decode cX5_isChoice 28 = .ok (.goto 4, 3) := by decide +kernel
theorem dX5_isChoice_31 : decode cX5_isChoice 31 = .ok (.iconst 0, 1) := by decide +kernel
theorem dX5_isChoice_32 : decode cX5_isChoice 32 = .ok (.ireturn, 1) := by decide +kernel
theorem dX5_pinnedTo_0 : decode cX5_pinnedTo 0 = .ok (.aload_n 0, 1) := by decide +kernel
theorem dX5_pinnedTo_1 : decode cX5_pinnedTo 1 = .ok (.getfield 16, 3) := by decide +kernel
theorem dX5_pinnedTo_4 : decode cX5_pinnedTo 4 = .ok (.getfield 180, 3) := by decide +kernel
theorem dX5_pinnedTo_7 : decode cX5_pinnedTo 7 = .ok (.iload_n 1, 1) := by decide +kernel
theorem dX5_pinnedTo_8 : decode cX5_pinnedTo 8 = .ok (.iaload, 1) := by decide +kernel
theorem dX5_pinnedTo_9 : decode cX5_pinnedTo 9 = .ok (.iconst (-1), 1) := by decide +kernel
theorem dX5_pinnedTo_10 : decode cX5_pinnedTo 10 = .ok (.if_icmp .ne 8, 3) := by decide +kernel
theorem dX5_pinnedTo_13 : decode cX5_pinnedTo 13 = .ok (.bipush (-4), 2) := by decide +kernel
theorem dX5_pinnedTo_15 : decode cX5_pinnedTo 15 = .ok (.goto 12, 3) := by decide +kernel
theorem dX5_pinnedTo_18 : decode cX5_pinnedTo 18 = .ok (.aload_n 0, 1) := by decide +kernel
theorem dX5_pinnedTo_19 : decode cX5_pinnedTo 19 = .ok (.getfield 16, 3) := by decide +kernel
theorem dX5_pinnedTo_22 : decode cX5_pinnedTo 22 = .ok (.getfield 180, 3) := by decide +kernel
theorem dX5_pinnedTo_25 : decode cX5_pinnedTo 25 = .ok (.iload_n 1, 1) := by decide +kernel
theorem dX5_pinnedTo_26 : decode cX5_pinnedTo 26 = .ok (.iaload, 1) := by decide +kernel
theorem dX5_pinnedTo_27 : decode cX5_pinnedTo 27 = .ok (.ireturn, 1) := by decide +kernel
theorem dX5_beginAct_0 : decode cX5_beginAct 0 = .ok (.aload_n 0, 1) := by decide +kernel
theorem dX5_beginAct_1 : decode cX5_beginAct 1 = .ok (.getfield 108, 3) := by decide +kernel
theorem dX5_beginAct_4 : decode cX5_beginAct 4 = .ok (.bipush 8, 2) := by decide +kernel
theorem dX5_beginAct_6 : decode cX5_beginAct 6 = .ok (.if_icmp .lt 7, 3) := by decide +kernel
theorem dX5_beginAct_9 : decode cX5_beginAct 9 = .ok (.aload_n 0, 1) := by decide +kernel
theorem dX5_beginAct_10 : decode cX5_beginAct 10 = .ok (.invokevirtual 239, 3) := by decide +kernel
theorem dX5_beginAct_13 : decode cX5_beginAct 13 = .ok (.aload_n 0, 1) := by decide +kernel
theorem dX5_beginAct_14 : decode cX5_beginAct 14 = .ok (.getfield 32, 3) := by decide +kernel
theorem dX5_beginAct_17 : decode cX5_beginAct 17 = .ok (.aload_n 0, 1) := by decide +kernel
theorem dX5_beginAct_18 : decode cX5_beginAct 18 = .ok (.getfield 108, 3) := by decide +kernel
theorem dX5_beginAct_21 : decode cX5_beginAct 21 = .ok (.aaload, 1) := by decide +kernel
theorem dX5_beginAct_22 : decode cX5_beginAct 22 = .ok (.aload_n 0, 1) := by decide +kernel
theorem dX5_beginAct_23 : decode cX5_beginAct 23 = .ok (.getfield 16, 3) := by decide +kernel
theorem dX5_beginAct_26 : decode cX5_beginAct 26 = .ok (.invokevirtual 104, 3) := by decide +kernel
theorem dX5_beginAct_29 : decode cX5_beginAct 29 = .ok (.aload_n 0, 1) := by decide +kernel
theorem dX5_beginAct_30 : decode cX5_beginAct 30 = .ok (.dup, 1) := by decide +kernel
theorem dX5_beginAct_31 : decode cX5_beginAct 31 = .ok (.getfield 108, 3) := by decide +kernel
theorem dX5_beginAct_34 : decode cX5_beginAct 34 = .ok (.iconst 1, 1) := by decide +kernel
theorem dX5_beginAct_35 : decode cX5_beginAct 35 = .ok (.iadd, 1) := by decide +kernel
theorem dX5_beginAct_36 : decode cX5_beginAct 36 = .ok (.putfield 108, 3) := by decide +kernel
theorem dX5_beginAct_39 : decode cX5_beginAct 39 = .ok (.aload_n 0, 1) := by decide +kernel
theorem dX5_beginAct_40 : decode cX5_beginAct 40 = .ok (.invokevirtual 114, 3) := by decide +kernel
theorem dX5_beginAct_43 : decode cX5_beginAct 43 = .ok (.return_, 1) := by decide +kernel
theorem dX5_dropOldest_0 : decode cX5_dropOldest 0 = .ok (.aload_n 0, 1) := by decide +kernel
theorem dX5_dropOldest_1 : decode cX5_dropOldest 1 = .ok (.getfield 32, 3) := by decide +kernel
theorem dX5_dropOldest_4 : decode cX5_dropOldest 4 = .ok (.iconst 0, 1) := by decide +kernel
theorem dX5_dropOldest_5 : decode cX5_dropOldest 5 = .ok (.aaload, 1) := by decide +kernel
theorem dX5_dropOldest_6 : decode cX5_dropOldest 6 = .ok (.astore_n 1, 1) := by decide +kernel
theorem dX5_dropOldest_7 : decode cX5_dropOldest 7 = .ok (.iconst 1, 1) := by decide +kernel
theorem dX5_dropOldest_8 : decode cX5_dropOldest 8 = .ok (.istore_n 2, 1) := by decide +kernel
theorem dX5_dropOldest_9 : decode cX5_dropOldest 9 = .ok (.iload_n 2, 1) := by decide +kernel
theorem dX5_dropOldest_10 : decode cX5_dropOldest 10 = .ok (.bipush 8, 2) := by decide +kernel
theorem dX5_dropOldest_12 : decode cX5_dropOldest 12 = .ok (.if_icmp .ge 23, 3) := by decide +kernel
theorem dX5_dropOldest_15 : decode cX5_dropOldest 15 = .ok (.aload_n 0, 1) := by decide +kernel
theorem dX5_dropOldest_16 : decode cX5_dropOldest 16 = .ok (.getfield 32, 3) := by decide +kernel
theorem dX5_dropOldest_19 : decode cX5_dropOldest 19 = .ok (.iload_n 2, 1) := by decide +kernel
theorem dX5_dropOldest_20 : decode cX5_dropOldest 20 = .ok (.iconst 1, 1) := by decide +kernel
theorem dX5_dropOldest_21 : decode cX5_dropOldest 21 = .ok (.isub, 1) := by decide +kernel
theorem dX5_dropOldest_22 : decode cX5_dropOldest 22 = .ok (.aload_n 0, 1) := by decide +kernel
theorem dX5_dropOldest_23 : decode cX5_dropOldest 23 = .ok (.getfield 32, 3) := by decide +kernel
theorem dX5_dropOldest_26 : decode cX5_dropOldest 26 = .ok (.iload_n 2, 1) := by decide +kernel
theorem dX5_dropOldest_27 : decode cX5_dropOldest 27 = .ok (.aaload, 1) := by decide +kernel
theorem dX5_dropOldest_28 : decode cX5_dropOldest 28 = .ok (.aastore, 1) := by decide +kernel
theorem dX5_dropOldest_29 : decode cX5_dropOldest 29 = .ok (.iinc 2 1, 3) := by decide +kernel
theorem dX5_dropOldest_32 : decode cX5_dropOldest 32 = .ok (.goto (-23), 3) := by decide +kernel
theorem dX5_dropOldest_35 : decode cX5_dropOldest 35 = .ok (.aload_n 0, 1) := by decide +kernel
theorem dX5_dropOldest_36 : decode cX5_dropOldest 36 = .ok (.getfield 32, 3) := by decide +kernel
theorem dX5_dropOldest_39 : decode cX5_dropOldest 39 = .ok (.bipush 7, 2) := by decide +kernel
theorem dX5_dropOldest_41 : decode cX5_dropOldest 41 = .ok (.aload_n 1, 1) := by decide +kernel
theorem dX5_dropOldest_42 : decode cX5_dropOldest 42 = .ok (.aastore, 1) := by decide +kernel
theorem dX5_dropOldest_43 : decode cX5_dropOldest 43 = .ok (.aload_n 0, 1) := by decide +kernel
theorem dX5_dropOldest_44 : decode cX5_dropOldest 44 = .ok (.bipush 7, 2) := by decide +kernel
theorem dX5_dropOldest_46 : decode cX5_dropOldest 46 = .ok (.putfield 108, 3) := by decide +kernel
theorem dX5_dropOldest_49 : decode cX5_dropOldest 49 = .ok (.return_, 1) := by decide +kernel
theorem dX5_forgetAnswers_0 : decode cX5_forgetAnswers 0 = .ok (.aload_n 0, 1) := by decide +kernel
theorem dX5_forgetAnswers_1 : decode cX5_forgetAnswers 1 = .ok (.iconst 0, 1) := by decide +kernel
theorem dX5_forgetAnswers_2 : decode cX5_forgetAnswers 2 = .ok (.putfield 242, 3) := by decide +kernel
theorem dX5_forgetAnswers_5 : decode cX5_forgetAnswers 5 = .ok (.aload_n 0, 1) := by decide +kernel
theorem dX5_forgetAnswers_6 : decode cX5_forgetAnswers 6 = .ok (.iconst 0, 1) := by decide +kernel
theorem dX5_forgetAnswers_7 : decode cX5_forgetAnswers 7 = .ok (.putfield 245, 3) := by decide +kernel
theorem dX5_forgetAnswers_10 : decode cX5_forgetAnswers 10 = .ok (.aload_n 0, 1) := by decide +kernel
theorem dX5_forgetAnswers_11 : decode cX5_forgetAnswers 11 = .ok (.iconst 0, 1) := by decide +kernel
theorem dX5_forgetAnswers_12 : decode cX5_forgetAnswers 12 = .ok (.putfield 248, 3) := by decide +kernel
theorem dX5_forgetAnswers_15 : decode cX5_forgetAnswers 15 = .ok (.return_, 1) := by decide +kernel
theorem dX5_bringWeights_0 : decode cX5_bringWeights 0 = .ok (.aload_n 0, 1) := by decide +kernel
theorem dX5_bringWeights_1 : decode cX5_bringWeights 1 = .ok (.getfield 242, 3) := by decide +kernel
theorem dX5_bringWeights_4 : decode cX5_bringWeights 4 = .ok (.ifCond .ne 19, 3) := by decide +kernel
theorem dX5_bringWeights_7 : decode cX5_bringWeights 7 = .ok (.aload_n 0, 1) := by decide +kernel
theorem dX5_bringWeights_8 : decode cX5_bringWeights 8 = .ok (.getfield 42, 3) := by decide +kernel
theorem dX5_bringWeights_11 : decode cX5_bringWeights 11 = .ok (.aload_n 0, 1) := by decide +kernel
theorem dX5_bringWeights_12 : decode cX5_bringWeights 12 = .ok (.getfield 16, 3) := by decide +kernel
theorem dX5_bringWeights_15 : decode cX5_bringWeights 15 = .ok (.invokevirtual 225, 3) := by decide +kernel
theorem dX5_bringWeights_18 : decode cX5_bringWeights 18 = .ok (.aload_n 0, 1) := by decide +kernel
theorem dX5_bringWeights_19 : decode cX5_bringWeights 19 = .ok (.iconst 1, 1) := by decide +kernel
theorem dX5_bringWeights_20 : decode cX5_bringWeights 20 = .ok (.putfield 242, 3) := by decide +kernel
theorem dX5_bringWeights_23 : decode cX5_bringWeights 23 = .ok (.return_, 1) := by decide +kernel
theorem dX5_bringReduction_0 : decode cX5_bringReduction 0 = .ok (.aload_n 0, 1) := by decide +kernel
theorem dX5_bringReduction_1 : decode cX5_bringReduction 1 = .ok (.invokevirtual 251, 3) := by decide +kernel
theorem dX5_bringReduction_4 : decode cX5_bringReduction 4 = .ok (.aload_n 0, 1) := by decide +kernel
theorem dX5_bringReduction_5 : decode cX5_bringReduction 5 = .ok (.getfield 245, 3) := by decide +kernel
theorem dX5_bringReduction_8 : decode cX5_bringReduction 8 = .ok (.ifCond .ne 19, 3) := by decide +kernel
theorem dX5_bringReduction_11 : decode cX5_bringReduction 11 = .ok (.aload_n 0, 1) := by decide +kernel
theorem dX5_bringReduction_12 : decode cX5_bringReduction 12 = .ok (.getfield 52, 3) := by decide +kernel
theorem dX5_bringReduction_15 : decode cX5_bringReduction 15 = .ok (.aload_n 0, 1) := by decide +kernel
theorem dX5_bringReduction_16 : decode cX5_bringReduction 16 = .ok (.getfield 16, 3) := by decide +kernel
theorem dX5_bringReduction_19 : decode cX5_bringReduction 19 = .ok (.invokevirtual 254, 3) := by decide +kernel
theorem dX5_bringReduction_22 : decode cX5_bringReduction 22 = .ok (.aload_n 0, 1) := by decide +kernel
theorem dX5_bringReduction_23 : decode cX5_bringReduction 23 = .ok (.iconst 1, 1) := by decide +kernel
theorem dX5_bringReduction_24 : decode cX5_bringReduction 24 = .ok (.putfield 245, 3) := by decide +kernel
theorem dX5_bringReduction_27 : decode cX5_bringReduction 27 = .ok (.return_, 1) := by decide +kernel
theorem dX5_bringSearch_0 : decode cX5_bringSearch 0 = .ok (.aload_n 0, 1) := by decide +kernel
theorem dX5_bringSearch_1 : decode cX5_bringSearch 1 = .ok (.invokevirtual 251, 3) := by decide +kernel
theorem dX5_bringSearch_4 : decode cX5_bringSearch 4 = .ok (.aload_n 0, 1) := by decide +kernel
theorem dX5_bringSearch_5 : decode cX5_bringSearch 5 = .ok (.getfield 248, 3) := by decide +kernel
theorem dX5_bringSearch_8 : decode cX5_bringSearch 8 = .ok (.ifCond .ne 15, 3) := by decide +kernel
theorem dX5_bringSearch_11 : decode cX5_bringSearch 11 = .ok (.aload_n 0, 1) := by decide +kernel
theorem dX5_bringSearch_12 : decode cX5_bringSearch 12 = .ok (.getfield 61, 3) := by decide +kernel
theorem dX5_bringSearch_15 : decode cX5_bringSearch 15 = .ok (.invokevirtual 232, 3) := by decide +kernel
theorem dX5_bringSearch_18 : decode cX5_bringSearch 18 = .ok (.aload_n 0, 1) := by decide +kernel
theorem dX5_bringSearch_19 : decode cX5_bringSearch 19 = .ok (.iconst 1, 1) := by decide +kernel
theorem dX5_bringSearch_20 : decode cX5_bringSearch 20 = .ok (.putfield 248, 3) := by decide +kernel
theorem dX5_bringSearch_23 : decode cX5_bringSearch 23 = .ok (.return_, 1) := by decide +kernel
theorem dX5_isWithin_0 : decode cX5_isWithin 0 = .ok (.iload_n 1, 1) := by decide +kernel
theorem dX5_isWithin_1 : decode cX5_isWithin 1 = .ok (.iload_n 0, 1) := by decide +kernel
theorem dX5_isWithin_2 : decode cX5_isWithin 2 = .ok (.if_icmp .gt 12, 3) := by decide +kernel
theorem dX5_isWithin_5 : decode cX5_isWithin 5 = .ok (.iload_n 0, 1) := by decide +kernel
theorem dX5_isWithin_6 : decode cX5_isWithin 6 = .ok (.iload_n 2, 1) := by decide +kernel
theorem dX5_isWithin_7 : decode cX5_isWithin 7 = .ok (.if_icmp .gt 7, 3) := by decide +kernel
theorem dX5_isWithin_10 : decode cX5_isWithin 10 = .ok (.iconst 1, 1) := by decide +kernel
theorem dX5_isWithin_11 : decode cX5_isWithin 11 = .ok (.goto 4, 3) := by decide +kernel
theorem dX5_isWithin_14 : decode cX5_isWithin 14 = .ok (.iconst 0, 1) := by decide +kernel
theorem dX5_isWithin_15 : decode cX5_isWithin 15 = .ok (.ireturn, 1) := by decide +kernel
theorem dX5_capped_0 : decode cX5_capped 0 = .ok (.iload_n 0, 1) := by decide +kernel
theorem dX5_capped_1 : decode cX5_capped 1 = .ok (.ldc 218, 2) := by decide +kernel
theorem dX5_capped_3 : decode cX5_capped 3 = .ok (.invokestatic 256, 3) := by decide +kernel
theorem dX5_capped_6 : decode cX5_capped 6 = .ok (.ireturn, 1) := by decide +kernel
theorem dX5_choicePlace_0 : decode cX5_choicePlace 0 = .ok (.iload_n 0, 1) := by decide +kernel
theorem dX5_choicePlace_1 : decode cX5_choicePlace 1 = .ok (.iconst 4, 1) := by decide +kernel
theorem dX5_choicePlace_2 : decode cX5_choicePlace 2 = .ok (.imul, 1) := by decide +kernel
theorem dX5_choicePlace_3 : decode cX5_choicePlace 3 = .ok (.iload_n 1, 1) := by decide +kernel
theorem dX5_choicePlace_4 : decode cX5_choicePlace 4 = .ok (.iadd, 1) := by decide +kernel
theorem dX5_choicePlace_5 : decode cX5_choicePlace 5 = .ok (.ireturn, 1) := by decide +kernel
theorem dX5_entryPlace_0 : decode cX5_entryPlace 0 = .ok (.iload_n 0, 1) := by decide +kernel
theorem dX5_entryPlace_1 : decode cX5_entryPlace 1 = .ok (.iload_n 1, 1) := by decide +kernel
theorem dX5_entryPlace_2 : decode cX5_entryPlace 2 = .ok (.if_icmp .ge 22, 3) := by decide +kernel
theorem dX5_entryPlace_5 : decode cX5_entryPlace 5 = .ok (.iload_n 1, 1) := by decide +kernel
theorem dX5_entryPlace_6 : decode cX5_entryPlace 6 = .ok (.iload_n 1, 1) := by decide +kernel
theorem dX5_entryPlace_7 : decode cX5_entryPlace 7 = .ok (.iconst 1, 1) := by decide +kernel
theorem dX5_entryPlace_8 : decode cX5_entryPlace 8 = .ok (.isub, 1) := by decide +kernel
theorem dX5_entryPlace_9 : decode cX5_entryPlace 9 = .ok (.imul, 1) := by decide +kernel
theorem dX5_entryPlace_10 : decode cX5_entryPlace 10 = .ok (.iconst 2, 1) := by decide +kernel
theorem dX5_entryPlace_11 : decode cX5_entryPlace 11 = .ok (.idiv, 1) := by decide +kernel
theorem dX5_entryPlace_12 : decode cX5_entryPlace 12 = .ok (.iload_n 0, 1) := by decide +kernel
theorem dX5_entryPlace_13 : decode cX5_entryPlace 13 = .ok (.iadd, 1) := by decide +kernel
theorem dX5_entryPlace_14 : decode cX5_entryPlace 14 = .ok (.bipush 16, 2) := by decide +kernel
theorem dX5_entryPlace_16 : decode cX5_entryPlace 16 = .ok (.imul, 1) := by decide +kernel
theorem dX5_entryPlace_17 : decode cX5_entryPlace 17 = .ok (.iload_n 2, 1) := by decide +kernel
theorem dX5_entryPlace_18 : decode cX5_entryPlace 18 = .ok (.iconst 4, 1) := by decide +kernel
theorem dX5_entryPlace_19 : decode cX5_entryPlace 19 = .ok (.imul, 1) := by decide +kernel
theorem dX5_entryPlace_20 : decode cX5_entryPlace 20 = .ok (.iadd, 1) := by decide +kernel
theorem dX5_entryPlace_21 : decode cX5_entryPlace 21 = .ok (.iload_n 3, 1) := by decide +kernel
theorem dX5_entryPlace_22 : decode cX5_entryPlace 22 = .ok (.iadd, 1) := by decide +kernel
theorem dX5_entryPlace_23 : decode cX5_entryPlace 23 = .ok (.ireturn, 1) := by decide +kernel
theorem dX5_entryPlace_24 : decode cX5_entryPlace 24 = .ok (.iload_n 0, 1) := by decide +kernel
theorem dX5_entryPlace_25 : decode cX5_entryPlace 25 = .ok (.iload_n 0, 1) := by decide +kernel
theorem dX5_entryPlace_26 : decode cX5_entryPlace 26 = .ok (.iconst 1, 1) := by decide +kernel
theorem dX5_entryPlace_27 : decode cX5_entryPlace 27 = .ok (.isub, 1) := by decide +kernel
theorem dX5_entryPlace_28 : decode cX5_entryPlace 28 = .ok (.imul, 1) := by decide +kernel
theorem dX5_entryPlace_29 : decode cX5_entryPlace 29 = .ok (.iconst 2, 1) := by decide +kernel
theorem dX5_entryPlace_30 : decode cX5_entryPlace 30 = .ok (.idiv, 1) := by decide +kernel
theorem dX5_entryPlace_31 : decode cX5_entryPlace 31 = .ok (.iload_n 1, 1) := by decide +kernel
theorem dX5_entryPlace_32 : decode cX5_entryPlace 32 = .ok (.iadd, 1) := by decide +kernel
theorem dX5_entryPlace_33 : decode cX5_entryPlace 33 = .ok (.bipush 16, 2) := by decide +kernel
theorem dX5_entryPlace_35 : decode cX5_entryPlace 35 = .ok (.imul, 1) := by decide +kernel
theorem dX5_entryPlace_36 : decode cX5_entryPlace 36 = .ok (.iload_n 3, 1) := by decide +kernel
theorem dX5_entryPlace_37 : decode cX5_entryPlace 37 = .ok (.iconst 4, 1) := by decide +kernel
theorem dX5_entryPlace_38 : decode cX5_entryPlace 38 = .ok (.imul, 1) := by decide +kernel
theorem dX5_entryPlace_39 : decode cX5_entryPlace 39 = .ok (.iadd, 1) := by decide +kernel
theorem dX5_entryPlace_40 : decode cX5_entryPlace 40 = .ok (.iload_n 2, 1) := by decide +kernel
theorem dX5_entryPlace_41 : decode cX5_entryPlace 41 = .ok (.iadd, 1) := by decide +kernel
theorem dX5_entryPlace_42 : decode cX5_entryPlace 42 = .ok (.ireturn, 1) := by decide +kernel
theorem dX5_hasBit_0 : decode cX5_hasBit 0 = .ok (.iload_n 0, 1) := by decide +kernel
theorem dX5_hasBit_1 : decode cX5_hasBit 1 = .ok (.iload_n 1, 1) := by decide +kernel
theorem dX5_hasBit_2 : decode cX5_hasBit 2 = .ok (.ishr, 1) := by decide +kernel
theorem dX5_hasBit_3 : decode cX5_hasBit 3 = .ok (.iconst 1, 1) := by decide +kernel
theorem dX5_hasBit_4 : decode cX5_hasBit 4 = .ok (.iand, 1) := by decide +kernel
theorem dX5_hasBit_5 : decode cX5_hasBit 5 = .ok (.ifCond .eq 7, 3) := by decide +kernel
theorem dX5_hasBit_8 : decode cX5_hasBit 8 = .ok (.iconst 1, 1) := by decide +kernel
theorem dX5_hasBit_9 : decode cX5_hasBit 9 = .ok (.goto 4, 3) := by decide +kernel
theorem dX5_hasBit_12 : decode cX5_hasBit 12 = .ok (.iconst 0, 1) := by decide +kernel
theorem dX5_hasBit_13 : decode cX5_hasBit 13 = .ok (.ireturn, 1) := by decide +kernel
theorem dX5_joinByNoughts_0 : decode cX5_joinByNoughts 0 = .ok (.aload_n 0, 1) := by decide +kernel
theorem dX5_joinByNoughts_1 : decode cX5_joinByNoughts 1 = .ok (.iload_n 2, 1) := by decide +kernel
theorem dX5_joinByNoughts_2 : decode cX5_joinByNoughts 2 = .ok (.dup2, 1) := by decide +kernel
theorem dX5_joinByNoughts_3 : decode cX5_joinByNoughts 3 = .ok (.iaload, 1) := by decide +kernel
theorem dX5_joinByNoughts_4 : decode cX5_joinByNoughts 4 = .ok (.iconst 1, 1) := by decide +kernel
theorem dX5_joinByNoughts_5 : decode cX5_joinByNoughts 5 = .ok (.iload_n 3, 1) := by decide +kernel
theorem dX5_joinByNoughts_6 : decode cX5_joinByNoughts 6 = .ok (.ishl, 1) := by decide +kernel
theorem dX5_joinByNoughts_7 : decode cX5_joinByNoughts 7 = .ok (.ior, 1) := by decide +kernel
theorem dX5_joinByNoughts_8 : decode cX5_joinByNoughts 8 = .ok (.iastore, 1) := by decide +kernel
theorem dX5_joinByNoughts_9 : decode cX5_joinByNoughts 9 = .ok (.aload_n 0, 1) := by decide +kernel
theorem dX5_joinByNoughts_10 : decode cX5_joinByNoughts 10 = .ok (.iload_n 3, 1) := by decide +kernel
theorem dX5_joinByNoughts_11 : decode cX5_joinByNoughts 11 = .ok (.dup2, 1) := by decide +kernel
theorem dX5_joinByNoughts_12 : decode cX5_joinByNoughts 12 = .ok (.iaload, 1) := by decide +kernel
theorem dX5_joinByNoughts_13 : decode cX5_joinByNoughts 13 = .ok (.iconst 1, 1) := by decide +kernel
theorem dX5_joinByNoughts_14 : decode cX5_joinByNoughts 14 = .ok (.iload_n 2, 1) := by decide +kernel
theorem dX5_joinByNoughts_15 : decode cX5_joinByNoughts 15 = .ok (.ishl, 1) := by decide +kernel
theorem dX5_joinByNoughts_16 : decode cX5_joinByNoughts 16 = .ok (.ior, 1) := by decide +kernel
theorem dX5_joinByNoughts_17 : decode cX5_joinByNoughts 17 = .ok (.iastore, 1) := by decide +kernel
theorem dX5_joinByNoughts_18 : decode cX5_joinByNoughts 18 = .ok (.iload_n 2, 1) := by decide +kernel
theorem dX5_joinByNoughts_19 : decode cX5_joinByNoughts 19 = .ok (.iload_n 3, 1) := by decide +kernel
theorem dX5_joinByNoughts_20 : decode cX5_joinByNoughts 20 = .ok (.iconst 0, 1) := by decide +kernel
theorem dX5_joinByNoughts_21 : decode cX5_joinByNoughts 21 = .ok (.iconst 0, 1) := by decide +kernel
theorem dX5_joinByNoughts_22 : decode cX5_joinByNoughts 22 = .ok (.invokestatic 166, 3) := by decide +kernel
theorem dX5_joinByNoughts_25 : decode cX5_joinByNoughts 25 = .ok (.istore 4, 2) := by decide +kernel
theorem dX5_joinByNoughts_27 : decode cX5_joinByNoughts 27 = .ok (.iconst 0, 1) := by decide +kernel
theorem dX5_joinByNoughts_28 : decode cX5_joinByNoughts 28 = .ok (.istore 5, 2) := by decide +kernel
theorem dX5_joinByNoughts_30 : decode cX5_joinByNoughts 30 = .ok (.iload 5, 2) := by decide +kernel
theorem dX5_joinByNoughts_32 : decode cX5_joinByNoughts 32 = .ok (.bipush 16, 2) := by decide +kernel
theorem dX5_joinByNoughts_34 : decode cX5_joinByNoughts 34 = .ok (.if_icmp .ge 17, 3) := by decide +kernel
theorem dX5_joinByNoughts_37 : decode cX5_joinByNoughts 37 = .ok (.aload_n 1, 1) := by decide +kernel
theorem dX5_joinByNoughts_38 : decode cX5_joinByNoughts 38 = .ok (.iload 4, 2) := by decide +kernel
theorem dX5_joinByNoughts_40 : decode cX5_joinByNoughts 40 = .ok (.iload 5, 2) := by decide +kernel
theorem dX5_joinByNoughts_42 : decode cX5_joinByNoughts 42 = .ok (.iadd, 1) := by decide +kernel
theorem dX5_joinByNoughts_43 : decode cX5_joinByNoughts 43 = .ok (.iconst 0, 1) := by decide +kernel
theorem dX5_joinByNoughts_44 : decode cX5_joinByNoughts 44 = .ok (.iastore, 1) := by decide +kernel
theorem dX5_joinByNoughts_45 : decode cX5_joinByNoughts 45 = .ok (.iinc 5 1, 3) := by decide +kernel
theorem dX5_joinByNoughts_48 : decode cX5_joinByNoughts 48 = .ok (.goto (-18), 3) := by decide +kernel
theorem dX5_joinByNoughts_51 : decode cX5_joinByNoughts 51 = .ok (.return_, 1) := by decide +kernel
theorem dX5_part_0 : decode cX5_part 0 = .ok (.aload_n 0, 1) := by decide +kernel
theorem dX5_part_1 : decode cX5_part 1 = .ok (.iload_n 1, 1) := by decide +kernel
theorem dX5_part_2 : decode cX5_part 2 = .ok (.dup2, 1) := by decide +kernel
theorem dX5_part_3 : decode cX5_part 3 = .ok (.iaload, 1) := by decide +kernel
theorem dX5_part_4 : decode cX5_part 4 = .ok (.iconst 1, 1) := by decide +kernel
theorem dX5_part_5 : decode cX5_part 5 = .ok (.iload_n 2, 1) := by decide +kernel
theorem dX5_part_6 : decode cX5_part 6 = .ok (.ishl, 1) := by decide +kernel
theorem dX5_part_7 : decode cX5_part 7 = .ok (.iconst (-1), 1) := by decide +kernel
theorem dX5_part_8 : decode cX5_part 8 = .ok (.ixor, 1) := by decide +kernel
theorem dX5_part_9 : decode cX5_part 9 = .ok (.iand, 1) := by decide +kernel
theorem dX5_part_10 : decode cX5_part 10 = .ok (.iastore, 1) := by decide +kernel
theorem dX5_part_11 : decode cX5_part 11 = .ok (.aload_n 0, 1) := by decide +kernel
theorem dX5_part_12 : decode cX5_part 12 = .ok (.iload_n 2, 1) := by decide +kernel
theorem dX5_part_13 : decode cX5_part 13 = .ok (.dup2, 1) := by decide +kernel
theorem dX5_part_14 : decode cX5_part 14 = .ok (.iaload, 1) := by decide +kernel
theorem dX5_part_15 : decode cX5_part 15 = .ok (.iconst 1, 1) := by decide +kernel
theorem dX5_part_16 : decode cX5_part 16 = .ok (.iload_n 1, 1) := by decide +kernel
theorem dX5_part_17 : decode cX5_part 17 = .ok (.ishl, 1) := by decide +kernel
theorem dX5_part_18 : decode cX5_part 18 = .ok (.iconst (-1), 1) := by decide +kernel
theorem dX5_part_19 : decode cX5_part 19 = .ok (.ixor, 1) := by decide +kernel
theorem dX5_part_20 : decode cX5_part 20 = .ok (.iand, 1) := by decide +kernel
theorem dX5_part_21 : decode cX5_part 21 = .ok (.iastore, 1) := by decide +kernel
theorem dX5_part_22 : decode cX5_part 22 = .ok (.return_, 1) := by decide +kernel
theorem dX5_copyRow_0 : decode cX5_copyRow 0 = .ok (.aload_n 0, 1) := by decide +kernel
theorem dX5_copyRow_1 : decode cX5_copyRow 1 = .ok (.iconst 0, 1) := by decide +kernel
theorem dX5_copyRow_2 : decode cX5_copyRow 2 = .ok (.aload_n 1, 1) := by decide +kernel
theorem dX5_copyRow_3 : decode cX5_copyRow 3 = .ok (.iconst 0, 1) := by decide +kernel
theorem dX5_copyRow_4 : decode cX5_copyRow 4 = .ok (.aload_n 0, 1) := by decide +kernel
theorem dX5_copyRow_5 : decode cX5_copyRow 5 = .ok (.arraylength, 1) := by decide +kernel
theorem dX5_copyRow_6 : decode cX5_copyRow 6 = .ok (.aload_n 1, 1) := by decide +kernel
theorem dX5_copyRow_7 : decode cX5_copyRow 7 = .ok (.arraylength, 1) := by decide +kernel
theorem dX5_copyRow_8 : decode cX5_copyRow 8 = .ok (.invokestatic 256, 3) := by decide +kernel
theorem dX5_copyRow_11 : decode cX5_copyRow 11 = .ok (.invokestatic 261, 3) := by decide +kernel
theorem dX5_copyRow_14 : decode cX5_copyRow 14 = .ok (.return_, 1) := by decide +kernel
