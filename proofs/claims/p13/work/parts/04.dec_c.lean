theorem dX6_init_0 : decode cX6_init 0 = .ok (.aload_n 0, 1) := by decide +kernel
theorem dX6_init_1 : decode cX6_init 1 = .ok (.invokespecial 1, 3) := by decide +kernel
theorem dX6_init_4 : decode cX6_init 4 = .ok (.aload_n 0, 1) := by decide +kernel
theorem dX6_init_5 : decode cX6_init 5 = .ok (.sipush 200, 3) := by decide +kernel
theorem dX6_init_8 : decode cX6_init 8 = .ok (.newarray .int, 2) := by decide +kernel
theorem dX6_init_10 : decode cX6_init 10 = .ok (.putfield 7, 3) := by decide +kernel
theorem dX6_init_13 : decode cX6_init 13 = .ok (.aload_n 0, 1) := by decide +kernel
theorem dX6_init_14 : decode cX6_init 14 = .ok (.bipush 8, 2) := by decide +kernel
theorem dX6_init_16 : decode cX6_init 16 = .ok (.newarray .int, 2) := by decide +kernel
theorem dX6_init_18 : decode cX6_init 18 = .ok (.putfield 13, 3) := by decide +kernel
theorem dX6_init_21 : decode cX6_init 21 = .ok (.aload_n 0, 1) := by decide +kernel
theorem dX6_init_22 : decode cX6_init 22 = .ok (.bipush 8, 2) := by decide +kernel
theorem dX6_init_24 : decode cX6_init 24 = .ok (.newarray .int, 2) := by decide +kernel
theorem dX6_init_26 : decode cX6_init 26 = .ok (.putfield 16, 3) := by decide +kernel
theorem dX6_init_29 : decode cX6_init 29 = .ok (.aload_n 0, 1) := by decide +kernel
theorem dX6_init_30 : decode cX6_init 30 = .ok (.sipush 500, 3) := by decide +kernel
theorem dX6_init_33 : decode cX6_init 33 = .ok (.newarray .int, 2) := by decide +kernel
theorem dX6_init_35 : decode cX6_init 35 = .ok (.putfield 19, 3) := by decide +kernel
theorem dX6_init_38 : decode cX6_init 38 = .ok (.aload_n 0, 1) := by decide +kernel
theorem dX6_init_39 : decode cX6_init 39 = .ok (.sipush 500, 3) := by decide +kernel
theorem dX6_init_42 : decode cX6_init 42 = .ok (.newarray .int, 2) := by decide +kernel
theorem dX6_init_44 : decode cX6_init 44 = .ok (.putfield 22, 3) := by decide +kernel
theorem dX6_init_47 : decode cX6_init 47 = .ok (.aload_n 0, 1) := by decide +kernel
theorem dX6_init_48 : decode cX6_init 48 = .ok (.sipush 4000, 3) := by decide +kernel
theorem dX6_init_51 : decode cX6_init 51 = .ok (.newarray .int, 2) := by decide +kernel
theorem dX6_init_53 : decode cX6_init 53 = .ok (.putfield 25, 3) := by decide +kernel
theorem dX6_init_56 : decode cX6_init 56 = .ok (.aload_n 0, 1) := by decide +kernel
theorem dX6_init_57 : decode cX6_init 57 = .ok (.sipush 1000, 3) := by decide +kernel
theorem dX6_init_60 : decode cX6_init 60 = .ok (.newarray .int, 2) := by decide +kernel
theorem dX6_init_62 : decode cX6_init 62 = .ok (.putfield 28, 3) := by decide +kernel
theorem dX6_init_65 : decode cX6_init 65 = .ok (.aload_n 0, 1) := by decide +kernel
theorem dX6_init_66 : decode cX6_init 66 = .ok (.bipush 32, 2) := by decide +kernel
theorem dX6_init_68 : decode cX6_init 68 = .ok (.newarray .int, 2) := by decide +kernel
theorem dX6_init_70 : decode cX6_init 70 = .ok (.putfield 31, 3) := by decide +kernel
theorem dX6_init_73 : decode cX6_init 73 = .ok (.aload_n 0, 1) := by decide +kernel
theorem dX6_init_74 : decode cX6_init 74 = .ok (.sipush 1024, 3) := by decide +kernel
theorem dX6_init_77 : decode cX6_init 77 = .ok (.newarray .int, 2) := by decide +kernel
theorem dX6_init_79 : decode cX6_init 79 = .ok (.putfield 34, 3) := by decide +kernel
theorem dX6_init_82 : decode cX6_init 82 = .ok (.aload_n 0, 1) := by decide +kernel
theorem dX6_init_83 : decode cX6_init 83 = .ok (.bipush 8, 2) := by decide +kernel
theorem dX6_init_85 : decode cX6_init 85 = .ok (.newarray .int, 2) := by decide +kernel
theorem dX6_init_87 : decode cX6_init 87 = .ok (.putfield 37, 3) := by decide +kernel
theorem dX6_init_90 : decode cX6_init 90 = .ok (.aload_n 0, 1) := by decide +kernel
theorem dX6_init_91 : decode cX6_init 91 = .ok (.bipush 8, 2) := by decide +kernel
theorem dX6_init_93 : decode cX6_init 93 = .ok (.newarray .int, 2) := by decide +kernel
theorem dX6_init_95 : decode cX6_init 95 = .ok (.putfield 40, 3) := by decide +kernel
theorem dX6_init_98 : decode cX6_init 98 = .ok (.aload_n 0, 1) := by decide +kernel
theorem dX6_init_99 : decode cX6_init 99 = .ok (.bipush 8, 2) := by decide +kernel
theorem dX6_init_101 : decode cX6_init 101 = .ok (.newarray .int, 2) := by decide +kernel
theorem dX6_init_103 : decode cX6_init 103 = .ok (.putfield 43, 3) := by decide +kernel
theorem dX6_init_106 : decode cX6_init 106 = .ok (.aload_n 0, 1) := by decide +kernel
theorem dX6_init_107 : decode cX6_init 107 = .ok (.bipush 8, 2) := by decide +kernel
theorem dX6_init_109 : decode cX6_init 109 = .ok (.newarray .int, 2) := by decide +kernel
theorem dX6_init_111 : decode cX6_init 111 = .ok (.putfield 46, 3) := by decide +kernel
theorem dX6_init_114 : decode cX6_init 114 = .ok (.aload_n 0, 1) := by decide +kernel
theorem dX6_init_115 : decode cX6_init 115 = .ok (.bipush 8, 2) := by decide +kernel
theorem dX6_init_117 : decode cX6_init 117 = .ok (.newarray .int, 2) := by decide +kernel
theorem dX6_init_119 : decode cX6_init 119 = .ok (.putfield 49, 3) := by decide +kernel
theorem dX6_init_122 : decode cX6_init 122 = .ok (.aload_n 0, 1) := by decide +kernel
theorem dX6_init_123 : decode cX6_init 123 = .ok (.bipush 8, 2) := by decide +kernel
theorem dX6_init_125 : decode cX6_init 125 = .ok (.newarray .int, 2) := by decide +kernel
theorem dX6_init_127 : decode cX6_init 127 = .ok (.putfield 52, 3) := by decide +kernel
theorem dX6_init_130 : decode cX6_init 130 = .ok (.aload_n 0, 1) := by decide +kernel
theorem dX6_init_131 : decode cX6_init 131 = .ok (.bipush 8, 2) := by decide +kernel
theorem dX6_init_133 : decode cX6_init 133 = .ok (.newarray .int, 2) := by decide +kernel
theorem dX6_init_135 : decode cX6_init 135 = .ok (.putfield 55, 3) := by decide +kernel
theorem dX6_init_138 : decode cX6_init 138 = .ok (.aload_n 0, 1) := by decide +kernel
theorem dX6_init_139 : decode cX6_init 139 = .ok (.bipush 16, 2) := by decide +kernel
theorem dX6_init_141 : decode cX6_init 141 = .ok (.newarray .int, 2) := by decide +kernel
theorem dX6_init_143 : decode cX6_init 143 = .ok (.putfield 58, 3) := by decide +kernel
theorem dX6_init_146 : decode cX6_init 146 = .ok (.aload_n 0, 1) := by decide +kernel
theorem dX6_init_147 : decode cX6_init 147 = .ok (.invokevirtual 61, 3) := by decide +kernel
theorem dX6_init_150 : decode cX6_init 150 = .ok (.aload_n 0, 1) := by decide +kernel
theorem dX6_init_151 : decode cX6_init 151 = .ok (.iconst 0, 1) := by decide +kernel
theorem dX6_init_152 : decode cX6_init 152 = .ok (.iconst 3, 1) := by decide +kernel
theorem dX6_init_153 : decode cX6_init 153 = .ok (.iconst 5, 1) := by decide +kernel
theorem dX6_init_154 : decode cX6_init 154 = .ok (.iconst 2, 1) := by decide +kernel
theorem dX6_init_155 : decode cX6_init 155 = .ok (.bipush 7, 2) := by decide +kernel
theorem dX6_init_157 : decode cX6_init 157 = .ok (.invokevirtual 64, 3) := by decide +kernel
theorem dX6_init_160 : decode cX6_init 160 = .ok (.aload_n 0, 1) := by decide +kernel
theorem dX6_init_161 : decode cX6_init 161 = .ok (.iconst 1, 1) := by decide +kernel
theorem dX6_init_162 : decode cX6_init 162 = .ok (.iconst 2, 1) := by decide +kernel
theorem dX6_init_163 : decode cX6_init 163 = .ok (.iconst 3, 1) := by decide +kernel
theorem dX6_init_164 : decode cX6_init 164 = .ok (.iconst 1, 1) := by decide +kernel
theorem dX6_init_165 : decode cX6_init 165 = .ok (.iconst 0, 1) := by decide +kernel
theorem dX6_init_166 : decode cX6_init 166 = .ok (.invokevirtual 64, 3) := by decide +kernel
theorem dX6_init_169 : decode cX6_init 169 = .ok (.aload_n 0, 1) := by decide +kernel
theorem dX6_init_170 : decode cX6_init 170 = .ok (.iconst 2, 1) := by decide +kernel
theorem dX6_init_171 : decode cX6_init 171 = .ok (.iconst 2, 1) := by decide +kernel
theorem dX6_init_172 : decode cX6_init 172 = .ok (.iconst 0, 1) := by decide +kernel
theorem dX6_init_173 : decode cX6_init 173 = .ok (.iconst 4, 1) := by decide +kernel
theorem dX6_init_174 : decode cX6_init 174 = .ok (.iconst 0, 1) := by decide +kernel
theorem dX6_init_175 : decode cX6_init 175 = .ok (.invokevirtual 64, 3) := by decide +kernel
theorem dX6_init_178 : decode cX6_init 178 = .ok (.aload_n 0, 1) := by decide +kernel
theorem dX6_init_179 : decode cX6_init 179 = .ok (.iconst 0, 1) := by decide +kernel
theorem dX6_init_180 : decode cX6_init 180 = .ok (.iconst 2, 1) := by decide +kernel
theorem dX6_init_181 : decode cX6_init 181 = .ok (.bipush 6, 2) := by decide +kernel
theorem dX6_init_183 : decode cX6_init 183 = .ok (.bipush 6, 2) := by decide +kernel
theorem dX6_init_185 : decode cX6_init 185 = .ok (.iconst 0, 1) := by decide +kernel
theorem dX6_init_186 : decode cX6_init 186 = .ok (.invokevirtual 64, 3) := by decide +kernel
theorem dX6_init_189 : decode cX6_init 189 = .ok (.aload_n 0, 1) := by decide +kernel
theorem dX6_init_190 : decode cX6_init 190 = .ok (.iconst 3, 1) := by decide +kernel
theorem dX6_init_191 : decode cX6_init 191 = .ok (.iconst 3, 1) := by decide +kernel
theorem dX6_init_192 : decode cX6_init 192 = .ok (.bipush 9, 2) := by decide +kernel
theorem dX6_init_194 : decode cX6_init 194 = .ok (.bipush 10, 2) := by decide +kernel
theorem dX6_init_196 : decode cX6_init 196 = .ok (.iconst 1, 1) := by decide +kernel
theorem dX6_init_197 : decode cX6_init 197 = .ok (.invokevirtual 64, 3) := by decide +kernel
theorem dX6_init_200 : decode cX6_init 200 = .ok (.aload_n 0, 1) := by decide +kernel
theorem dX6_init_201 : decode cX6_init 201 = .ok (.iconst 0, 1) := by decide +kernel
theorem dX6_init_202 : decode cX6_init 202 = .ok (.iconst 1, 1) := by decide +kernel
theorem dX6_init_203 : decode cX6_init 203 = .ok (.sipush 19200, 3) := by decide +kernel
theorem dX6_init_206 : decode cX6_init 206 = .ok (.invokevirtual 68, 3) := by decide +kernel
theorem dX6_init_209 : decode cX6_init 209 = .ok (.aload_n 0, 1) := by decide +kernel
theorem dX6_init_210 : decode cX6_init 210 = .ok (.iconst 0, 1) := by decide +kernel
theorem dX6_init_211 : decode cX6_init 211 = .ok (.iconst 2, 1) := by decide +kernel
theorem dX6_init_212 : decode cX6_init 212 = .ok (.ldc 72, 2) := by decide +kernel
theorem dX6_init_214 : decode cX6_init 214 = .ok (.invokevirtual 68, 3) := by decide +kernel
theorem dX6_init_217 : decode cX6_init 217 = .ok (.aload_n 0, 1) := by decide +kernel
theorem dX6_init_218 : decode cX6_init 218 = .ok (.iconst 1, 1) := by decide +kernel
theorem dX6_init_219 : decode cX6_init 219 = .ok (.iconst 2, 1) := by decide +kernel
theorem dX6_init_220 : decode cX6_init 220 = .ok (.sipush 990, 3) := by decide +kernel
theorem dX6_init_223 : decode cX6_init 223 = .ok (.invokevirtual 68, 3) := by decide +kernel
theorem dX6_init_226 : decode cX6_init 226 = .ok (.aload_n 0, 1) := by decide +kernel
theorem dX6_init_227 : decode cX6_init 227 = .ok (.iconst 2, 1) := by decide +kernel
theorem dX6_init_228 : decode cX6_init 228 = .ok (.iconst 3, 1) := by decide +kernel
theorem dX6_init_229 : decode cX6_init 229 = .ok (.sipush 440, 3) := by decide +kernel
theorem dX6_init_232 : decode cX6_init 232 = .ok (.invokevirtual 68, 3) := by decide +kernel
theorem dX6_init_235 : decode cX6_init 235 = .ok (.aload_n 0, 1) := by decide +kernel
theorem dX6_init_236 : decode cX6_init 236 = .ok (.iconst 3, 1) := by decide +kernel
theorem dX6_init_237 : decode cX6_init 237 = .ok (.iconst 4, 1) := by decide +kernel
theorem dX6_init_238 : decode cX6_init 238 = .ok (.ldc 73, 2) := by decide +kernel
theorem dX6_init_240 : decode cX6_init 240 = .ok (.invokevirtual 68, 3) := by decide +kernel
theorem dX6_init_243 : decode cX6_init 243 = .ok (.aload_n 0, 1) := by decide +kernel
theorem dX6_init_244 : decode cX6_init 244 = .ok (.invokevirtual 74, 3) := by decide +kernel
theorem dX6_init_247 : decode cX6_init 247 = .ok (.return_, 1) := by decide +kernel
theorem dX6_in_0 : decode cX6_in 0 = .ok (.lload_n 0, 1) := by decide +kernel
theorem dX6_in_1 : decode cX6_in 1 = .ok (.lload_n 2, 1) := by decide +kernel
theorem dX6_in_2 : decode cX6_in 2 = .ok (.lcmp, 1) := by decide +kernel
theorem dX6_in_3 : decode cX6_in 3 = .ok (.ifCond .lt 14, 3) := by decide +kernel
theorem dX6_in_6 : decode cX6_in 6 = .ok (.lload_n 0, 1) := by decide +kernel
theorem dX6_in_7 : decode cX6_in 7 = .ok (.lload 4, 2) := by decide +kernel
theorem dX6_in_9 : decode cX6_in 9 = .ok (.lcmp, 1) := by decide +kernel
theorem dX6_in_10 : decode cX6_in 10 = .ok (.ifCond .gt 7, 3) := by decide +kernel
theorem dX6_in_13 : decode cX6_in 13 = .ok (.iconst 1, 1) := by decide +kernel
theorem dX6_in_14 : decode cX6_in 14 = .ok (.goto 4, 3) := by decide +kernel
theorem dX6_in_17 : decode cX6_in 17 = .ok (.iconst 0, 1) := by decide +kernel
theorem dX6_in_18 : decode cX6_in 18 = .ok (.ireturn, 1) := by decide +kernel
theorem dX6_readNone_0 : decode cX6_readNone 0 = .ok (.aload_n 0, 1) := by decide +kernel
theorem dX6_readNone_1 : decode cX6_readNone 1 = .ok (.iconst 0, 1) := by decide +kernel
theorem dX6_readNone_2 : decode cX6_readNone 2 = .ok (.putfield 77, 3) := by decide +kernel
theorem dX6_readNone_5 : decode cX6_readNone 5 = .ok (.iconst 0, 1) := by decide +kernel
theorem dX6_readNone_6 : decode cX6_readNone 6 = .ok (.istore_n 1, 1) := by decide +kernel
theorem dX6_readNone_7 : decode cX6_readNone 7 = .ok (.iload_n 1, 1) := by decide +kernel
theorem dX6_readNone_8 : decode cX6_readNone 8 = .ok (.sipush 500, 3) := by decide +kernel
theorem dX6_readNone_11 : decode cX6_readNone 11 = .ok (.if_icmp .ge 16, 3) := by decide +kernel
theorem dX6_readNone_14 : decode cX6_readNone 14 = .ok (.aload_n 0, 1) := by decide +kernel
theorem dX6_readNone_15 : decode cX6_readNone 15 = .ok (.getfield 19, 3) := by decide +kernel
theorem dX6_readNone_18 : decode cX6_readNone 18 = .ok (.iload_n 1, 1) := by decide +kernel
theorem dX6_readNone_19 : decode cX6_readNone 19 = .ok (.iconst 0, 1) := by decide +kernel
theorem dX6_readNone_20 : decode cX6_readNone 20 = .ok (.iastore, 1) := by decide +kernel
theorem dX6_readNone_21 : decode cX6_readNone 21 = .ok (.iinc 1 1, 3) := by decide +kernel
theorem dX6_readNone_24 : decode cX6_readNone 24 = .ok (.goto (-17), 3) := by decide +kernel
theorem dX6_readNone_27 : decode cX6_readNone 27 = .ok (.return_, 1) := by decide +kernel
theorem dX6_nodeIs_0 : decode cX6_nodeIs 0 = .ok (.iconst 4, 1) := by decide +kernel
theorem dX6_nodeIs_1 : decode cX6_nodeIs 1 = .ok (.aload_n 0, 1) := by decide +kernel
theorem dX6_nodeIs_2 : decode cX6_nodeIs 2 = .ok (.getfield 77, 3) := by decide +kernel
theorem dX6_nodeIs_5 : decode cX6_nodeIs 5 = .ok (.imul, 1) := by decide +kernel
theorem dX6_nodeIs_6 : decode cX6_nodeIs 6 = .ok (.istore 6, 2) := by decide +kernel
theorem dX6_nodeIs_8 : decode cX6_nodeIs 8 = .ok (.aload_n 0, 1) := by decide +kernel
theorem dX6_nodeIs_9 : decode cX6_nodeIs 9 = .ok (.getfield 19, 3) := by decide +kernel
theorem dX6_nodeIs_12 : decode cX6_nodeIs 12 = .ok (.iload 6, 2) := by decide +kernel
theorem dX6_nodeIs_14 : decode cX6_nodeIs 14 = .ok (.iload_n 3, 1) := by decide +kernel
theorem dX6_nodeIs_15 : decode cX6_nodeIs 15 = .ok (.iastore, 1) := by decide +kernel
theorem dX6_nodeIs_16 : decode cX6_nodeIs 16 = .ok (.aload_n 0, 1) := by decide +kernel
theorem dX6_nodeIs_17 : decode cX6_nodeIs 17 = .ok (.getfield 19, 3) := by decide +kernel
theorem dX6_nodeIs_20 : decode cX6_nodeIs 20 = .ok (.iload 6, 2) := by decide +kernel
theorem dX6_nodeIs_22 : decode cX6_nodeIs 22 = .ok (.iconst 1, 1) := by decide +kernel
theorem dX6_nodeIs_23 : decode cX6_nodeIs 23 = .ok (.iadd, 1) := by decide +kernel
theorem dX6_nodeIs_24 : decode cX6_nodeIs 24 = .ok (.iload 4, 2) := by decide +kernel
theorem dX6_nodeIs_26 : decode cX6_nodeIs 26 = .ok (.iastore, 1) := by decide +kernel
theorem dX6_nodeIs_27 : decode cX6_nodeIs 27 = .ok (.aload_n 0, 1) := by decide +kernel
theorem dX6_nodeIs_28 : decode cX6_nodeIs 28 = .ok (.getfield 19, 3) := by decide +kernel
theorem dX6_nodeIs_31 : decode cX6_nodeIs 31 = .ok (.iload 6, 2) := by decide +kernel
theorem dX6_nodeIs_33 : decode cX6_nodeIs 33 = .ok (.iconst 2, 1) := by decide +kernel
theorem dX6_nodeIs_34 : decode cX6_nodeIs 34 = .ok (.iadd, 1) := by decide +kernel
theorem dX6_nodeIs_35 : decode cX6_nodeIs 35 = .ok (.iload 5, 2) := by decide +kernel
theorem dX6_nodeIs_37 : decode cX6_nodeIs 37 = .ok (.iastore, 1) := by decide +kernel
theorem dX6_nodeIs_38 : decode cX6_nodeIs 38 = .ok (.aload_n 0, 1) := by decide +kernel
theorem dX6_nodeIs_39 : decode cX6_nodeIs 39 = .ok (.getfield 19, 3) := by decide +kernel
theorem dX6_nodeIs_42 : decode cX6_nodeIs 42 = .ok (.bipush 32, 2) := by decide +kernel
theorem dX6_nodeIs_44 : decode cX6_nodeIs 44 = .ok (.aload_n 0, 1) := by decide +kernel
theorem dX6_nodeIs_45 : decode cX6_nodeIs 45 = .ok (.getfield 77, 3) := by decide +kernel
theorem dX6_nodeIs_48 : decode cX6_nodeIs 48 = .ok (.iadd, 1) := by decide +kernel
theorem dX6_nodeIs_49 : decode cX6_nodeIs 49 = .ok (.iload_n 1, 1) := by decide +kernel
theorem dX6_nodeIs_50 : decode cX6_nodeIs 50 = .ok (.iastore, 1) := by decide +kernel
theorem dX6_nodeIs_51 : decode cX6_nodeIs 51 = .ok (.aload_n 0, 1) := by decide +kernel
theorem dX6_nodeIs_52 : decode cX6_nodeIs 52 = .ok (.getfield 16, 3) := by decide +kernel
theorem dX6_nodeIs_55 : decode cX6_nodeIs 55 = .ok (.aload_n 0, 1) := by decide +kernel
theorem dX6_nodeIs_56 : decode cX6_nodeIs 56 = .ok (.getfield 77, 3) := by decide +kernel
theorem dX6_nodeIs_59 : decode cX6_nodeIs 59 = .ok (.iload_n 2, 1) := by decide +kernel
theorem dX6_nodeIs_60 : decode cX6_nodeIs 60 = .ok (.iastore, 1) := by decide +kernel
theorem dX6_nodeIs_61 : decode cX6_nodeIs 61 = .ok (.aload_n 0, 1) := by decide +kernel
theorem dX6_nodeIs_62 : decode cX6_nodeIs 62 = .ok (.dup, 1) := by decide +kernel
theorem dX6_nodeIs_63 : decode cX6_nodeIs 63 = .ok (.getfield 77, 3) := by decide +kernel
theorem dX6_nodeIs_66 : decode cX6_nodeIs 66 = .ok (.iconst 1, 1) := by decide +kernel
theorem dX6_nodeIs_67 : decode cX6_nodeIs 67 = .ok (.iadd, 1) := by decide +kernel
theorem dX6_nodeIs_68 : decode cX6_nodeIs 68 = .ok (.putfield 77, 3) := by decide +kernel
theorem dX6_nodeIs_71 : decode cX6_nodeIs 71 = .ok (.return_, 1) := by decide +kernel
theorem dX6_entryAt_0 : decode cX6_entryAt 0 = .ok (.iload_n 0, 1) := by decide +kernel
theorem dX6_entryAt_1 : decode cX6_entryAt 1 = .ok (.iload_n 1, 1) := by decide +kernel
theorem dX6_entryAt_2 : decode cX6_entryAt 2 = .ok (.if_icmp .ge 7, 3) := by decide +kernel
theorem dX6_entryAt_5 : decode cX6_entryAt 5 = .ok (.iload_n 0, 1) := by decide +kernel
theorem dX6_entryAt_6 : decode cX6_entryAt 6 = .ok (.goto 4, 3) := by decide +kernel
theorem dX6_entryAt_9 : decode cX6_entryAt 9 = .ok (.iload_n 1, 1) := by decide +kernel
theorem dX6_entryAt_10 : decode cX6_entryAt 10 = .ok (.istore 4, 2) := by decide +kernel
theorem dX6_entryAt_12 : decode cX6_entryAt 12 = .ok (.iload_n 0, 1) := by decide +kernel
theorem dX6_entryAt_13 : decode cX6_entryAt 13 = .ok (.iload_n 1, 1) := by decide +kernel
theorem dX6_entryAt_14 : decode cX6_entryAt 14 = .ok (.if_icmp .ge 7, 3) := by decide +kernel
theorem dX6_entryAt_17 : decode cX6_entryAt 17 = .ok (.iload_n 1, 1) := by decide +kernel
theorem dX6_entryAt_18 : decode cX6_entryAt 18 = .ok (.goto 4, 3) := by decide +kernel
theorem dX6_entryAt_21 : decode cX6_entryAt 21 = .ok (.iload_n 0, 1) := by decide +kernel
theorem dX6_entryAt_22 : decode cX6_entryAt 22 = .ok (.istore 5, 2) := by decide +kernel
theorem dX6_entryAt_24 : decode cX6_entryAt 24 = .ok (.iload 5, 2) := by decide +kernel
theorem dX6_entryAt_26 : decode cX6_entryAt 26 = .ok (.iload 5, 2) := by decide +kernel
theorem dX6_entryAt_28 : decode cX6_entryAt 28 = .ok (.iconst 1, 1) := by decide +kernel
theorem dX6_entryAt_29 : decode cX6_entryAt 29 = .ok (.isub, 1) := by decide +kernel
theorem dX6_entryAt_30 : decode cX6_entryAt 30 = .ok (.imul, 1) := by decide +kernel
theorem dX6_entryAt_31 : decode cX6_entryAt 31 = .ok (.iconst 2, 1) := by decide +kernel
theorem dX6_entryAt_32 : decode cX6_entryAt 32 = .ok (.idiv, 1) := by decide +kernel
theorem dX6_entryAt_33 : decode cX6_entryAt 33 = .ok (.iload 4, 2) := by decide +kernel
theorem dX6_entryAt_35 : decode cX6_entryAt 35 = .ok (.iadd, 1) := by decide +kernel
theorem dX6_entryAt_36 : decode cX6_entryAt 36 = .ok (.istore 6, 2) := by decide +kernel
theorem dX6_entryAt_38 : decode cX6_entryAt 38 = .ok (.bipush 52, 2) := by decide +kernel
theorem dX6_entryAt_40 : decode cX6_entryAt 40 = .ok (.bipush 16, 2) := by decide +kernel
theorem dX6_entryAt_42 : decode cX6_entryAt 42 = .ok (.iload 6, 2) := by decide +kernel
theorem dX6_entryAt_44 : decode cX6_entryAt 44 = .ok (.imul, 1) := by decide +kernel
theorem dX6_entryAt_45 : decode cX6_entryAt 45 = .ok (.iadd, 1) := by decide +kernel
theorem dX6_entryAt_46 : decode cX6_entryAt 46 = .ok (.iconst 4, 1) := by decide +kernel
theorem dX6_entryAt_47 : decode cX6_entryAt 47 = .ok (.iload_n 0, 1) := by decide +kernel
theorem dX6_entryAt_48 : decode cX6_entryAt 48 = .ok (.iload_n 1, 1) := by decide +kernel
theorem dX6_entryAt_49 : decode cX6_entryAt 49 = .ok (.if_icmp .ge 7, 3) := by decide +kernel
theorem dX6_entryAt_52 : decode cX6_entryAt 52 = .ok (.iload_n 2, 1) := by decide +kernel
theorem dX6_entryAt_53 : decode cX6_entryAt 53 = .ok (.goto 4, 3) := by decide +kernel
theorem dX6_entryAt_56 : decode cX6_entryAt 56 = .ok (.iload_n 3, 1) := by decide +kernel
theorem dX6_entryAt_57 : decode cX6_entryAt 57 = .ok (.imul, 1) := by decide +kernel
theorem dX6_entryAt_58 : decode cX6_entryAt 58 = .ok (.iadd, 1) := by decide +kernel
theorem dX6_entryAt_59 : decode cX6_entryAt 59 = .ok (.iload_n 0, 1) := by decide +kernel
theorem dX6_entryAt_60 : decode cX6_entryAt 60 = .ok (.iload_n 1, 1) := by decide +kernel
theorem dX6_entryAt_61 : decode cX6_entryAt 61 = .ok (.if_icmp .ge 7, 3) := by decide +kernel
theorem dX6_entryAt_64 : decode cX6_entryAt 64 = .ok (.iload_n 3, 1) := by decide +kernel
theorem dX6_entryAt_65 : decode cX6_entryAt 65 = .ok (.goto 4, 3) := by decide +kernel
theorem dX6_entryAt_68 : decode cX6_entryAt 68 = .ok (.iload_n 2, 1) := by decide +kernel
theorem dX6_entryAt_69 : decode cX6_entryAt 69 = .ok (.iadd, 1) := by decide +kernel
theorem dX6_entryAt_70 : decode cX6_entryAt 70 = .ok (.ireturn, 1) := by decide +kernel
theorem dX6_tableIs_0 : decode cX6_tableIs 0 = .ok (.iload_n 3, 1) := by decide +kernel
theorem dX6_tableIs_1 : decode cX6_tableIs 1 = .ok (.istore 4, 2) := by decide +kernel
theorem dX6_tableIs_3 : decode cX6_tableIs 3 = .ok (.aload_n 0, 1) := by decide +kernel
theorem dX6_tableIs_4 : decode cX6_tableIs 4 = .ok (.getfield 16, 3) := by decide +kernel
theorem dX6_tableIs_7 : decode cX6_tableIs 7 = .ok (.iload_n 1, 1) := by decide +kernel
theorem dX6_tableIs_8 : decode cX6_tableIs 8 = .ok (.iaload, 1) := by decide +kernel
theorem dX6_tableIs_9 : decode cX6_tableIs 9 = .ok (.aload_n 0, 1) := by decide +kernel
theorem dX6_tableIs_10 : decode cX6_tableIs 10 = .ok (.getfield 16, 3) := by decide +kernel
theorem dX6_tableIs_13 : decode cX6_tableIs 13 = .ok (.iload_n 2, 1) := by decide +kernel
theorem dX6_tableIs_14 : decode cX6_tableIs 14 = .ok (.iaload, 1) := by decide +kernel
theorem dX6_tableIs_15 : decode cX6_tableIs 15 = .ok (.imul, 1) := by decide +kernel
theorem dX6_tableIs_16 : decode cX6_tableIs 16 = .ok (.iconst 1, 1) := by decide +kernel
theorem dX6_tableIs_17 : decode cX6_tableIs 17 = .ok (.isub, 1) := by decide +kernel
theorem dX6_tableIs_18 : decode cX6_tableIs 18 = .ok (.istore 5, 2) := by decide +kernel
theorem dX6_tableIs_20 : decode cX6_tableIs 20 = .ok (.iload 5, 2) := by decide +kernel
theorem dX6_tableIs_22 : decode cX6_tableIs 22 = .ok (.ifCond .lt 51, 3) := by decide +kernel
theorem dX6_tableIs_25 : decode cX6_tableIs 25 = .ok (.aload_n 0, 1) := by decide +kernel
theorem dX6_tableIs_26 : decode cX6_tableIs 26 = .ok (.getfield 19, 3) := by decide +kernel
theorem dX6_tableIs_29 : decode cX6_tableIs 29 = .ok (.iload_n 1, 1) := by decide +kernel
theorem dX6_tableIs_30 : decode cX6_tableIs 30 = .ok (.iload_n 2, 1) := by decide +kernel
theorem dX6_tableIs_31 : decode cX6_tableIs 31 = .ok (.iload 5, 2) := by decide +kernel
theorem dX6_tableIs_33 : decode cX6_tableIs 33 = .ok (.aload_n 0, 1) := by decide +kernel
theorem dX6_tableIs_34 : decode cX6_tableIs 34 = .ok (.getfield 16, 3) := by decide +kernel
theorem dX6_tableIs_37 : decode cX6_tableIs 37 = .ok (.iload_n 2, 1) := by decide +kernel
theorem dX6_tableIs_38 : decode cX6_tableIs 38 = .ok (.iaload, 1) := by decide +kernel
theorem dX6_tableIs_39 : decode cX6_tableIs 39 = .ok (.idiv, 1) := by decide +kernel
theorem dX6_tableIs_40 : decode cX6_tableIs 40 = .ok (.iload 5, 2) := by decide +kernel
theorem dX6_tableIs_42 : decode cX6_tableIs 42 = .ok (.aload_n 0, 1) := by decide +kernel
theorem dX6_tableIs_43 : decode cX6_tableIs 43 = .ok (.getfield 16, 3) := by decide +kernel
theorem dX6_tableIs_46 : decode cX6_tableIs 46 = .ok (.iload_n 2, 1) := by decide +kernel
theorem dX6_tableIs_47 : decode cX6_tableIs 47 = .ok (.iaload, 1) := by decide +kernel
theorem dX6_tableIs_48 : decode cX6_tableIs 48 = .ok (.irem, 1) := by decide +kernel
theorem dX6_tableIs_49 : decode cX6_tableIs 49 = .ok (.invokestatic 81, 3) := by decide +kernel
theorem dX6_tableIs_52 : decode cX6_tableIs 52 = .ok (.iconst 1, 1) := by decide +kernel
theorem dX6_tableIs_53 : decode cX6_tableIs 53 = .ok (.iload 4, 2) := by decide +kernel
theorem dX6_tableIs_55 : decode cX6_tableIs 55 = .ok (.bipush 10, 2) := by decide +kernel
theorem dX6_tableIs_57 : decode cX6_tableIs 57 = .ok (.irem, 1) := by decide +kernel
theorem dX6_tableIs_58 : decode cX6_tableIs 58 = .ok (.iadd, 1) := by decide +kernel
theorem dX6_tableIs_59 : decode cX6_tableIs 59 = .ok (.iastore, 1) := by decide +kernel
theorem dX6_tableIs_60 : decode cX6_tableIs 60 = .ok (.iload 4, 2) := by decide +kernel
theorem dX6_tableIs_62 : decode cX6_tableIs 62 = .ok (.bipush 10, 2) := by decide +kernel
theorem dX6_tableIs_64 : decode cX6_tableIs 64 = .ok (.idiv, 1) := by decide +kernel
theorem dX6_tableIs_65 : decode cX6_tableIs 65 = .ok (.istore 4, 2) := by decide +kernel
theorem dX6_tableIs_67 : decode cX6_tableIs 67 = .ok (.iinc 5 (-1), 3) := by decide +kernel
theorem dX6_tableIs_70 : decode cX6_tableIs 70 = .ok (.goto (-50), 3) := by decide +kernel
theorem dX6_tableIs_73 : decode cX6_tableIs 73 = .ok (.return_, 1) := by decide +kernel
theorem dX6_write_0 : decode cX6_write 0 = .ok (.iload_n 1, 1) := by decide +kernel
theorem dX6_write_1 : decode cX6_write 1 = .ok (.i2l, 1) := by decide +kernel
theorem dX6_write_2 : decode cX6_write 2 = .ok (.ldc2_w 85, 3) := by decide +kernel
theorem dX6_write_5 : decode cX6_write 5 = .ok (.ldc2_w 87, 3) := by decide +kernel
theorem dX6_write_8 : decode cX6_write 8 = .ok (.invokestatic 89, 3) := by decide +kernel
theorem dX6_write_11 : decode cX6_write 11 = .ok (.ifCond .ne 5, 3) := by decide +kernel
theorem dX6_write_14 : decode cX6_write 14 = .ok (.iconst (-1), 1) := by decide +kernel
theorem dX6_write_15 : decode cX6_write 15 = .ok (.ireturn, 1) := by decide +kernel
theorem dX6_write_16 : decode cX6_write 16 = .ok (.aload_n 0, 1) := by decide +kernel
theorem dX6_write_17 : decode cX6_write 17 = .ok (.getfield 93, 3) := by decide +kernel
theorem dX6_write_20 : decode cX6_write 20 = .ok (.sipush 200, 3) := by decide +kernel
theorem dX6_write_23 : decode cX6_write 23 = .ok (.if_icmp .ne 6, 3) := by decide +kernel
theorem dX6_write_26 : decode cX6_write 26 = .ok (.bipush (-3), 2) := by decide +kernel
theorem dX6_write_28 : decode cX6_write 28 = .ok (.ireturn, 1) := by decide +kernel
theorem dX6_write_29 : decode cX6_write 29 = .ok (.aload_n 0, 1) := by decide +kernel
theorem dX6_write_30 : decode cX6_write 30 = .ok (.getfield 7, 3) := by decide +kernel
theorem dX6_write_33 : decode cX6_write 33 = .ok (.aload_n 0, 1) := by decide +kernel
theorem dX6_write_34 : decode cX6_write 34 = .ok (.getfield 93, 3) := by decide +kernel
theorem dX6_write_37 : decode cX6_write 37 = .ok (.iload_n 1, 1) := by decide +kernel
theorem dX6_write_38 : decode cX6_write 38 = .ok (.iastore, 1) := by decide +kernel
theorem dX6_write_39 : decode cX6_write 39 = .ok (.aload_n 0, 1) := by decide +kernel
theorem dX6_write_40 : decode cX6_write 40 = .ok (.dup, 1) := by decide +kernel
theorem dX6_write_41 : decode cX6_write 41 = .ok (.getfield 93, 3) := by decide +kernel
theorem dX6_write_44 : decode cX6_write 44 = .ok (.iconst 1, 1) := by decide +kernel
theorem dX6_write_45 : decode cX6_write 45 = .ok (.iadd, 1) := by decide +kernel
theorem dX6_write_46 : decode cX6_write 46 = .ok (.putfield 93, 3) := by decide +kernel
theorem dX6_write_49 : decode cX6_write 49 = .ok (.aload_n 0, 1) := by decide +kernel
theorem dX6_write_50 : decode cX6_write 50 = .ok (.getfield 93, 3) := by decide +kernel
theorem dX6_write_53 : decode cX6_write 53 = .ok (.ireturn, 1) := by decide +kernel
theorem dX6_wipe_0 : decode cX6_wipe 0 = .ok (.aload_n 0, 1) := by decide +kernel
theorem dX6_wipe_1 : decode cX6_wipe 1 = .ok (.getfield 93, 3) := by decide +kernel
theorem dX6_wipe_4 : decode cX6_wipe 4 = .ok (.istore_n 1, 1) := by decide +kernel
theorem dX6_wipe_5 : decode cX6_wipe 5 = .ok (.aload_n 0, 1) := by decide +kernel
theorem dX6_wipe_6 : decode cX6_wipe 6 = .ok (.iconst 0, 1) := by decide +kernel
theorem dX6_wipe_7 : decode cX6_wipe 7 = .ok (.putfield 93, 3) := by decide +kernel
theorem dX6_wipe_10 : decode cX6_wipe 10 = .ok (.iload_n 1, 1) := by decide +kernel
theorem dX6_wipe_11 : decode cX6_wipe 11 = .ok (.ireturn, 1) := by decide +kernel
theorem dX6_letterAt_0 : decode cX6_letterAt 0 = .ok (.iload_n 1, 1) := by decide +kernel
theorem dX6_letterAt_1 : decode cX6_letterAt 1 = .ok (.aload_n 0, 1) := by decide +kernel
theorem dX6_letterAt_2 : decode cX6_letterAt 2 = .ok (.getfield 93, 3) := by decide +kernel
theorem dX6_letterAt_5 : decode cX6_letterAt 5 = .ok (.if_icmp .ge 12, 3) := by decide +kernel
theorem dX6_letterAt_8 : decode cX6_letterAt 8 = .ok (.aload_n 0, 1) := by decide +kernel
theorem dX6_letterAt_9 : decode cX6_letterAt 9 = .ok (.getfield 7, 3) := by decide +kernel
theorem dX6_letterAt_12 : decode cX6_letterAt 12 = .ok (.iload_n 1, 1) := by decide +kernel
theorem dX6_letterAt_13 : decode cX6_letterAt 13 = .ok (.iaload, 1) := by decide +kernel
theorem dX6_letterAt_14 : decode cX6_letterAt 14 = .ok (.goto 4, 3) := by decide +kernel
theorem dX6_letterAt_17 : decode cX6_letterAt 17 = .ok (.iconst 0, 1) := by decide +kernel
theorem dX6_letterAt_18 : decode cX6_letterAt 18 = .ok (.ireturn, 1) := by decide +kernel
theorem dX6_isNumber_0 : decode cX6_isNumber 0 = .ok (.iconst 0, 1) := by decide +kernel
theorem dX6_isNumber_1 : decode cX6_isNumber 1 = .ok (.istore_n 1, 1) := by decide +kernel
theorem dX6_isNumber_2 : decode cX6_isNumber 2 = .ok (.iconst 0, 1) := by decide +kernel
theorem dX6_isNumber_3 : decode cX6_isNumber 3 = .ok (.istore_n 2, 1) := by decide +kernel
theorem dX6_isNumber_4 : decode cX6_isNumber 4 = .ok (.aload_n 0, 1) := by decide +kernel
theorem dX6_isNumber_5 : decode cX6_isNumber 5 = .ok (.aload_n 0, 1) := by decide +kernel
theorem dX6_isNumber_6 : decode cX6_isNumber 6 = .ok (.getfield 96, 3) := by decide +kernel
theorem dX6_isNumber_9 : decode cX6_isNumber 9 = .ok (.invokevirtual 99, 3) := by decide +kernel
theorem dX6_isNumber_12 : decode cX6_isNumber 12 = .ok (.i2l, 1) := by decide +kernel
theorem dX6_isNumber_13 : decode cX6_isNumber 13 = .ok (.ldc2_w 103, 3) := by decide +kernel
theorem dX6_isNumber_16 : decode cX6_isNumber 16 = .ok (.ldc2_w 105, 3) := by decide +kernel
theorem dX6_isNumber_19 : decode cX6_isNumber 19 = .ok (.invokestatic 89, 3) := by decide +kernel
theorem dX6_isNumber_22 : decode cX6_isNumber 22 = .ok (.ifCond .eq 41, 3) := by decide +kernel
theorem dX6_isNumber_25 : decode cX6_isNumber 25 = .ok (.iload_n 1, 1) := by decide +kernel
theorem dX6_isNumber_26 : decode cX6_isNumber 26 = .ok (.iconst 3, 1) := by decide +kernel
theorem dX6_isNumber_27 : decode cX6_isNumber 27 = .ok (.if_icmp .ge 36, 3) := by decide +kernel
theorem dX6_isNumber_30 : decode cX6_isNumber 30 = .ok (.bipush 10, 2) := by decide +kernel
theorem dX6_isNumber_32 : decode cX6_isNumber 32 = .ok (.iload_n 2, 1) := by decide +kernel
theorem dX6_isNumber_33 : decode cX6_isNumber 33 = .ok (.imul, 1) := by decide +kernel
theorem dX6_isNumber_34 : decode cX6_isNumber 34 = .ok (.aload_n 0, 1) := by decide +kernel
theorem dX6_isNumber_35 : decode cX6_isNumber 35 = .ok (.aload_n 0, 1) := by decide +kernel
theorem dX6_isNumber_36 : decode cX6_isNumber 36 = .ok (.getfield 96, 3) := by decide +kernel
theorem dX6_isNumber_39 : decode cX6_isNumber 39 = .ok (.invokevirtual 99, 3) := by decide +kernel
theorem dX6_isNumber_42 : decode cX6_isNumber 42 = .ok (.iadd, 1) := by decide +kernel
theorem dX6_isNumber_43 : decode cX6_isNumber 43 = .ok (.bipush 48, 2) := by decide +kernel
theorem dX6_isNumber_45 : decode cX6_isNumber 45 = .ok (.isub, 1) := by decide +kernel
theorem dX6_isNumber_46 : decode cX6_isNumber 46 = .ok (.istore_n 2, 1) := by decide +kernel
theorem dX6_isNumber_47 : decode cX6_isNumber 47 = .ok (.iinc 1 1, 3) := by decide +kernel
theorem dX6_isNumber_50 : decode cX6_isNumber 50 = .ok (.aload_n 0, 1) := by decide +kernel
theorem dX6_isNumber_51 : decode cX6_isNumber 51 = .ok (.dup, 1) := by decide +kernel
theorem dX6_isNumber_52 : decode cX6_isNumber 52 = .ok (.getfield 96, 3) := by decide +kernel
theorem dX6_isNumber_55 : decode cX6_isNumber 55 = .ok (.iconst 1, 1) := by decide +kernel
theorem dX6_isNumber_56 : decode cX6_isNumber 56 = .ok (.iadd, 1) := by decide +kernel
theorem dX6_isNumber_57 : decode cX6_isNumber 57 = .ok (.putfield 96, 3) := by decide +kernel
theorem dX6_isNumber_60 : decode cX6_isNumber 60 = .ok (.goto (-56), 3) := by decide +kernel
theorem dX6_isNumber_63 : decode cX6_isNumber 63 = .ok (.aload_n 0, 1) := by decide +kernel
theorem dX6_isNumber_64 : decode cX6_isNumber 64 = .ok (.iload_n 2, 1) := by decide +kernel
theorem dX6_isNumber_65 : decode cX6_isNumber 65 = .ok (.putfield 107, 3) := by decide +kernel
theorem dX6_isNumber_68 : decode cX6_isNumber 68 = .ok (.iload_n 1, 1) := by decide +kernel
theorem dX6_isNumber_69 : decode cX6_isNumber 69 = .ok (.i2l, 1) := by decide +kernel
theorem dX6_isNumber_70 : decode cX6_isNumber 70 = .ok (.lconst 1, 1) := by decide +kernel
theorem dX6_isNumber_71 : decode cX6_isNumber 71 = .ok (.ldc2_w 110, 3) := by decide +kernel
theorem dX6_isNumber_74 : decode cX6_isNumber 74 = .ok (.invokestatic 89, 3) := by decide +kernel
theorem dX6_isNumber_77 : decode cX6_isNumber 77 = .ok (.ireturn, 1) := by decide +kernel
theorem dX6_nodeItem_0 : decode cX6_nodeItem 0 = .ok (.aload_n 0, 1) := by decide +kernel
theorem dX6_nodeItem_1 : decode cX6_nodeItem 1 = .ok (.invokevirtual 112, 3) := by decide +kernel
theorem dX6_nodeItem_4 : decode cX6_nodeItem 4 = .ok (.ifCond .eq 33, 3) := by decide +kernel
theorem dX6_nodeItem_7 : decode cX6_nodeItem 7 = .ok (.aload_n 0, 1) := by decide +kernel
theorem dX6_nodeItem_8 : decode cX6_nodeItem 8 = .ok (.getfield 107, 3) := by decide +kernel
theorem dX6_nodeItem_11 : decode cX6_nodeItem 11 = .ok (.iconst 3, 1) := by decide +kernel
theorem dX6_nodeItem_12 : decode cX6_nodeItem 12 = .ok (.if_icmp .gt 25, 3) := by decide +kernel
theorem dX6_nodeItem_15 : decode cX6_nodeItem 15 = .ok (.aload_n 0, 1) := by decide +kernel
theorem dX6_nodeItem_16 : decode cX6_nodeItem 16 = .ok (.aload_n 0, 1) := by decide +kernel
theorem dX6_nodeItem_17 : decode cX6_nodeItem 17 = .ok (.getfield 96, 3) := by decide +kernel
theorem dX6_nodeItem_20 : decode cX6_nodeItem 20 = .ok (.invokevirtual 99, 3) := by decide +kernel
theorem dX6_nodeItem_23 : decode cX6_nodeItem 23 = .ok (.bipush 44, 2) := by decide +kernel
theorem dX6_nodeItem_25 : decode cX6_nodeItem 25 = .ok (.if_icmp .ne 12, 3) := by decide +kernel
theorem dX6_nodeItem_28 : decode cX6_nodeItem 28 = .ok (.aload_n 0, 1) := by decide +kernel
theorem dX6_nodeItem_29 : decode cX6_nodeItem 29 = .ok (.getfield 77, 3) := by decide +kernel
theorem dX6_nodeItem_32 : decode cX6_nodeItem 32 = .ok (.bipush 8, 2) := by decide +kernel
theorem dX6_nodeItem_34 : decode cX6_nodeItem 34 = .ok (.if_icmp .ne 5, 3) := by decide +kernel
theorem dX6_nodeItem_37 : decode cX6_nodeItem 37 = .ok (.iconst 0, 1) := by decide +kernel
theorem dX6_nodeItem_38 : decode cX6_nodeItem 38 = .ok (.ireturn, 1) := by decide +kernel
theorem dX6_nodeItem_39 : decode cX6_nodeItem 39 = .ok (.aload_n 0, 1) := by decide +kernel
theorem dX6_nodeItem_40 : decode cX6_nodeItem 40 = .ok (.getfield 19, 3) := by decide +kernel
theorem dX6_nodeItem_43 : decode cX6_nodeItem 43 = .ok (.bipush 32, 2) := by decide +kernel
theorem dX6_nodeItem_45 : decode cX6_nodeItem 45 = .ok (.aload_n 0, 1) := by decide +kernel
theorem dX6_nodeItem_46 : decode cX6_nodeItem 46 = .ok (.getfield 77, 3) := by decide +kernel
theorem dX6_nodeItem_49 : decode cX6_nodeItem 49 = .ok (.iadd, 1) := by decide +kernel
theorem dX6_nodeItem_50 : decode cX6_nodeItem 50 = .ok (.aload_n 0, 1) := by decide +kernel
theorem dX6_nodeItem_51 : decode cX6_nodeItem 51 = .ok (.getfield 107, 3) := by decide +kernel
theorem dX6_nodeItem_54 : decode cX6_nodeItem 54 = .ok (.iastore, 1) := by decide +kernel
theorem dX6_nodeItem_55 : decode cX6_nodeItem 55 = .ok (.iconst 0, 1) := by decide +kernel
theorem dX6_nodeItem_56 : decode cX6_nodeItem 56 = .ok (.istore_n 1, 1) := by decide +kernel
theorem dX6_nodeItem_57 : decode cX6_nodeItem 57 = .ok (.aload_n 0, 1) := by decide +kernel
theorem dX6_nodeItem_58 : decode cX6_nodeItem 58 = .ok (.aload_n 0, 1) := by decide +kernel
theorem dX6_nodeItem_59 : decode cX6_nodeItem 59 = .ok (.getfield 96, 3) := by decide +kernel
theorem dX6_nodeItem_62 : decode cX6_nodeItem 62 = .ok (.invokevirtual 99, 3) := by decide +kernel
theorem dX6_nodeItem_65 : decode cX6_nodeItem 65 = .ok (.bipush 44, 2) := by decide +kernel
theorem dX6_nodeItem_67 : decode cX6_nodeItem 67 = .ok (.if_icmp .ne 50, 3) := by decide +kernel
theorem dX6_nodeItem_70 : decode cX6_nodeItem 70 = .ok (.aload_n 0, 1) := by decide +kernel
theorem dX6_nodeItem_71 : decode cX6_nodeItem 71 = .ok (.dup, 1) := by decide +kernel
theorem dX6_nodeItem_72 : decode cX6_nodeItem 72 = .ok (.getfield 96, 3) := by decide +kernel
theorem dX6_nodeItem_75 : decode cX6_nodeItem 75 = .ok (.iconst 1, 1) := by decide +kernel
theorem dX6_nodeItem_76 : decode cX6_nodeItem 76 = .ok (.iadd, 1) := by decide +kernel
theorem dX6_nodeItem_77 : decode cX6_nodeItem 77 = .ok (.putfield 96, 3) := by decide +kernel
theorem dX6_nodeItem_80 : decode cX6_nodeItem 80 = .ok (.aload_n 0, 1) := by decide +kernel
theorem dX6_nodeItem_81 : decode cX6_nodeItem 81 = .ok (.invokevirtual 112, 3) := by decide +kernel
theorem dX6_nodeItem_84 : decode cX6_nodeItem 84 = .ok (.ifCond .eq 8, 3) := by decide +kernel
theorem dX6_nodeItem_87 : decode cX6_nodeItem 87 = .ok (.iload_n 1, 1) := by decide +kernel
theorem dX6_nodeItem_88 : decode cX6_nodeItem 88 = .ok (.iconst 4, 1) := by decide +kernel
theorem dX6_nodeItem_89 : decode cX6_nodeItem 89 = .ok (.if_icmp .ne 5, 3) := by decide +kernel
theorem dX6_nodeItem_92 : decode cX6_nodeItem 92 = .ok (.iconst 0, 1) := by decide +kernel
theorem dX6_nodeItem_93 : decode cX6_nodeItem 93 = .ok (.ireturn, 1) := by decide +kernel
theorem dX6_nodeItem_94 : decode cX6_nodeItem 94 = .ok (.aload_n 0, 1) := by decide +kernel
theorem dX6_nodeItem_95 : decode cX6_nodeItem 95 = .ok (.getfield 19, 3) := by decide +kernel
theorem dX6_nodeItem_98 : decode cX6_nodeItem 98 = .ok (.iconst 4, 1) := by decide +kernel
theorem dX6_nodeItem_99 : decode cX6_nodeItem 99 = .ok (.aload_n 0, 1) := by decide +kernel
theorem dX6_nodeItem_100 : decode cX6_nodeItem 100 = .ok (.getfield 77, 3) := by decide +kernel
theorem dX6_nodeItem_103 : decode cX6_nodeItem 103 = .ok (.imul, 1) := by decide +kernel
theorem dX6_nodeItem_104 : decode cX6_nodeItem 104 = .ok (.iload_n 1, 1) := by decide +kernel
theorem dX6_nodeItem_105 : decode cX6_nodeItem 105 = .ok (.iadd, 1) := by decide +kernel
theorem dX6_nodeItem_106 : decode cX6_nodeItem 106 = .ok (.aload_n 0, 1) := by decide +kernel
theorem dX6_nodeItem_107 : decode cX6_nodeItem 107 = .ok (.getfield 107, 3) := by decide +kernel
theorem dX6_nodeItem_110 : decode cX6_nodeItem 110 = .ok (.iastore, 1) := by decide +kernel
theorem dX6_nodeItem_111 : decode cX6_nodeItem 111 = .ok (.iinc 1 1, 3) := by decide +kernel
theorem dX6_nodeItem_114 : decode cX6_nodeItem 114 = .ok (.goto (-57), 3) := by decide +kernel
theorem dX6_nodeItem_117 : decode cX6_nodeItem 117 = .ok (.aload_n 0, 1) := by decide +kernel
theorem dX6_nodeItem_118 : decode cX6_nodeItem 118 = .ok (.getfield 16, 3) := by decide +kernel
theorem dX6_nodeItem_121 : decode cX6_nodeItem 121 = .ok (.aload_n 0, 1) := by decide +kernel
theorem dX6_nodeItem_122 : decode cX6_nodeItem 122 = .ok (.getfield 77, 3) := by decide +kernel
theorem dX6_nodeItem_125 : decode cX6_nodeItem 125 = .ok (.iload_n 1, 1) := by decide +kernel
theorem dX6_nodeItem_126 : decode cX6_nodeItem 126 = .ok (.iastore, 1) := by decide +kernel
theorem dX6_nodeItem_127 : decode cX6_nodeItem 127 = .ok (.aload_n 0, 1) := by decide +kernel
theorem dX6_nodeItem_128 : decode cX6_nodeItem 128 = .ok (.dup, 1) := by decide +kernel
theorem dX6_nodeItem_129 : decode cX6_nodeItem 129 = .ok (.getfield 77, 3) := by decide +kernel
theorem dX6_nodeItem_132 : decode cX6_nodeItem 132 = .ok (.iconst 1, 1) := by decide +kernel
theorem dX6_nodeItem_133 : decode cX6_nodeItem 133 = .ok (.iadd, 1) := by decide +kernel
theorem dX6_nodeItem_134 : decode cX6_nodeItem 134 = .ok (.putfield 77, 3) := by decide +kernel
theorem dX6_nodeItem_137 : decode cX6_nodeItem 137 = .ok (.aload_n 0, 1) := by decide +kernel
theorem dX6_nodeItem_138 : decode cX6_nodeItem 138 = .ok (.dup, 1) := by decide +kernel
theorem dX6_nodeItem_139 : decode cX6_nodeItem 139 = .ok (.getfield 96, 3) := by decide +kernel
theorem dX6_nodeItem_142 : decode cX6_nodeItem 142 = .ok (.iconst 1, 1) := by decide +kernel
theorem dX6_nodeItem_143 : decode cX6_nodeItem 143 = .ok (.iadd, 1) := by decide +kernel
theorem dX6_nodeItem_144 : decode cX6_nodeItem 144 = .ok (.putfield 96, 3) := by decide +kernel
theorem dX6_nodeItem_147 : decode cX6_nodeItem 147 = .ok (.aload_n 0, 1) := by decide +kernel
theorem dX6_nodeItem_148 : decode cX6_nodeItem 148 = .ok (.aload_n 0, 1) := by decide +kernel
theorem dX6_nodeItem_149 : decode cX6_nodeItem 149 = .ok (.getfield 96, 3) := by decide +kernel
theorem dX6_nodeItem_152 : decode cX6_nodeItem 152 = .ok (.iconst 1, 1) := by decide +kernel
theorem dX6_nodeItem_153 : decode cX6_nodeItem 153 = .ok (.isub, 1) := by decide +kernel
theorem dX6_nodeItem_154 : decode cX6_nodeItem 154 = .ok (.invokevirtual 99, 3) := by decide +kernel
theorem dX6_nodeItem_157 : decode cX6_nodeItem 157 = .ok (.bipush 59, 2) := by decide +kernel
theorem dX6_nodeItem_159 : decode cX6_nodeItem 159 = .ok (.if_icmp .ne 7, 3) := by decide +kernel
theorem dX6_nodeItem_162 : decode cX6_nodeItem 162 = .ok (.iconst 1, 1) := by decide +kernel
theorem dX6_nodeItem_163 : decode cX6_nodeItem 163 = .ok (.goto 4, 3) := by decide +kernel
theorem dX6_nodeItem_166 : decode cX6_nodeItem 166 = .ok (.iconst 0, 1) := by decide +kernel
theorem dX6_nodeItem_167 : decode cX6_nodeItem 167 = .ok (.ireturn, 1) := by decide +kernel
theorem dX6_tieItem_0 : decode cX6_tieItem 0 = .ok (.aload_n 0, 1) := by decide +kernel
theorem dX6_tieItem_1 : decode cX6_tieItem 1 = .ok (.invokevirtual 112, 3) := by decide +kernel
theorem dX6_tieItem_4 : decode cX6_tieItem 4 = .ok (.ifCond .eq 16, 3) := by decide +kernel
theorem dX6_tieItem_7 : decode cX6_tieItem 7 = .ok (.aload_n 0, 1) := by decide +kernel
theorem dX6_tieItem_8 : decode cX6_tieItem 8 = .ok (.aload_n 0, 1) := by decide +kernel
theorem dX6_tieItem_9 : decode cX6_tieItem 9 = .ok (.getfield 96, 3) := by decide +kernel
theorem dX6_tieItem_12 : decode cX6_tieItem 12 = .ok (.invokevirtual 99, 3) := by decide +kernel
theorem dX6_tieItem_15 : decode cX6_tieItem 15 = .ok (.bipush 44, 2) := by decide +kernel
theorem dX6_tieItem_17 : decode cX6_tieItem 17 = .ok (.if_icmp .eq 5, 3) := by decide +kernel
theorem dX6_tieItem_20 : decode cX6_tieItem 20 = .ok (.iconst 0, 1) := by decide +kernel
theorem dX6_tieItem_21 : decode cX6_tieItem 21 = .ok (.ireturn, 1) := by decide +kernel
theorem dX6_tieItem_22 : decode cX6_tieItem 22 = .ok (.aload_n 0, 1) := by decide +kernel
theorem dX6_tieItem_23 : decode cX6_tieItem 23 = .ok (.getfield 107, 3) := by decide +kernel
theorem dX6_tieItem_26 : decode cX6_tieItem 26 = .ok (.istore_n 1, 1) := by decide +kernel
theorem dX6_tieItem_27 : decode cX6_tieItem 27 = .ok (.aload_n 0, 1) := by decide +kernel
theorem dX6_tieItem_28 : decode cX6_tieItem 28 = .ok (.dup, 1) := by decide +kernel
theorem dX6_tieItem_29 : decode cX6_tieItem 29 = .ok (.getfield 96, 3) := by decide +kernel
theorem dX6_tieItem_32 : decode cX6_tieItem 32 = .ok (.iconst 1, 1) := by decide +kernel
theorem dX6_tieItem_33 : decode cX6_tieItem 33 = .ok (.iadd, 1) := by decide +kernel
theorem dX6_tieItem_34 : decode cX6_tieItem 34 = .ok (.putfield 96, 3) := by decide +kernel
theorem dX6_tieItem_37 : decode cX6_tieItem 37 = .ok (.aload_n 0, 1) := by decide +kernel
theorem dX6_tieItem_38 : decode cX6_tieItem 38 = .ok (.invokevirtual 112, 3) := by decide +kernel
theorem dX6_tieItem_41 : decode cX6_tieItem 41 = .ok (.ifCond .eq 16, 3) := by decide +kernel
theorem dX6_tieItem_44 : decode cX6_tieItem 44 = .ok (.aload_n 0, 1) := by decide +kernel
theorem dX6_tieItem_45 : decode cX6_tieItem 45 = .ok (.aload_n 0, 1) := by decide +kernel
theorem dX6_tieItem_46 : decode cX6_tieItem 46 = .ok (.getfield 96, 3) := by decide +kernel
theorem dX6_tieItem_49 : decode cX6_tieItem 49 = .ok (.invokevirtual 99, 3) := by decide +kernel
theorem dX6_tieItem_52 : decode cX6_tieItem 52 = .ok (.bipush 44, 2) := by decide +kernel
theorem dX6_tieItem_54 : decode cX6_tieItem 54 = .ok (.if_icmp .eq 5, 3) := by decide +kernel
theorem dX6_tieItem_57 : decode cX6_tieItem 57 = .ok (.iconst 0, 1) := by decide +kernel
theorem dX6_tieItem_58 : decode cX6_tieItem 58 = .ok (.ireturn, 1) := by decide +kernel
theorem dX6_tieItem_59 : decode cX6_tieItem 59 = .ok (.aload_n 0, 1) := by decide +kernel
theorem dX6_tieItem_60 : decode cX6_tieItem 60 = .ok (.getfield 107, 3) := by decide +kernel
theorem dX6_tieItem_63 : decode cX6_tieItem 63 = .ok (.istore_n 2, 1) := by decide +kernel
theorem dX6_tieItem_64 : decode cX6_tieItem 64 = .ok (.aload_n 0, 1) := by decide +kernel
theorem dX6_tieItem_65 : decode cX6_tieItem 65 = .ok (.dup, 1) := by decide +kernel
theorem dX6_tieItem_66 : decode cX6_tieItem 66 = .ok (.getfield 96, 3) := by decide +kernel
theorem dX6_tieItem_69 : decode cX6_tieItem 69 = .ok (.iconst 1, 1) := by decide +kernel
theorem dX6_tieItem_70 : decode cX6_tieItem 70 = .ok (.iadd, 1) := by decide +kernel
theorem dX6_tieItem_71 : decode cX6_tieItem 71 = .ok (.putfield 96, 3) := by decide +kernel
theorem dX6_tieItem_74 : decode cX6_tieItem 74 = .ok (.iload_n 1, 1) := by decide +kernel
theorem dX6_tieItem_75 : decode cX6_tieItem 75 = .ok (.iload_n 2, 1) := by decide +kernel
theorem dX6_tieItem_76 : decode cX6_tieItem 76 = .ok (.if_icmp .ge 38, 3) := by decide +kernel
theorem dX6_tieItem_79 : decode cX6_tieItem 79 = .ok (.iload_n 2, 1) := by decide +kernel
theorem dX6_tieItem_80 : decode cX6_tieItem 80 = .ok (.aload_n 0, 1) := by decide +kernel
theorem dX6_tieItem_81 : decode cX6_tieItem 81 = .ok (.getfield 77, 3) := by decide +kernel
theorem dX6_tieItem_84 : decode cX6_tieItem 84 = .ok (.if_icmp .ge 30, 3) := by decide +kernel
theorem dX6_tieItem_87 : decode cX6_tieItem 87 = .ok (.aload_n 0, 1) := by decide +kernel
theorem dX6_tieItem_88 : decode cX6_tieItem 88 = .ok (.getfield 19, 3) := by decide +kernel
theorem dX6_tieItem_91 : decode cX6_tieItem 91 = .ok (.iload_n 1, 1) := by decide +kernel
theorem dX6_tieItem_92 : decode cX6_tieItem 92 = .ok (.iload_n 2, 1) := by decide +kernel
theorem dX6_tieItem_93 : decode cX6_tieItem 93 = .ok (.iconst 0, 1) := by decide +kernel
theorem dX6_tieItem_94 : decode cX6_tieItem 94 = .ok (.iconst 0, 1) := by decide +kernel
theorem dX6_tieItem_95 : decode cX6_tieItem 95 = .ok (.invokestatic 81, 3) := by decide +kernel
theorem dX6_tieItem_98 : decode cX6_tieItem 98 = .ok (.iaload, 1) := by decide +kernel
theorem dX6_tieItem_99 : decode cX6_tieItem 99 = .ok (.ifCond .gt 15, 3) := by decide +kernel
theorem dX6_tieItem_102 : decode cX6_tieItem 102 = .ok (.aload_n 0, 1) := by decide +kernel
theorem dX6_tieItem_103 : decode cX6_tieItem 103 = .ok (.getfield 19, 3) := by decide +kernel
theorem dX6_tieItem_106 : decode cX6_tieItem 106 = .ok (.invokestatic 116, 3) := by decide +kernel
theorem dX6_tieItem_109 : decode cX6_tieItem 109 = .ok (.bipush 12, 2) := by decide +kernel
theorem dX6_tieItem_111 : decode cX6_tieItem 111 = .ok (.if_icmp .ne 5, 3) := by decide +kernel
theorem dX6_tieItem_114 : decode cX6_tieItem 114 = .ok (.iconst 0, 1) := by decide +kernel
theorem dX6_tieItem_115 : decode cX6_tieItem 115 = .ok (.ireturn, 1) := by decide +kernel
theorem dX6_tieItem_116 : decode cX6_tieItem 116 = .ok (.iconst 0, 1) := by decide +kernel
theorem dX6_tieItem_117 : decode cX6_tieItem 117 = .ok (.istore_n 3, 1) := by decide +kernel
theorem dX6_tieItem_118 : decode cX6_tieItem 118 = .ok (.iload_n 3, 1) := by decide +kernel
theorem dX6_tieItem_119 : decode cX6_tieItem 119 = .ok (.aload_n 0, 1) := by decide +kernel
theorem dX6_tieItem_120 : decode cX6_tieItem 120 = .ok (.getfield 16, 3) := by decide +kernel
theorem dX6_tieItem_123 : decode cX6_tieItem 123 = .ok (.iload_n 1, 1) := by decide +kernel
theorem dX6_tieItem_124 : decode cX6_tieItem 124 = .ok (.iaload, 1) := by decide +kernel
theorem dX6_tieItem_125 : decode cX6_tieItem 125 = .ok (.aload_n 0, 1) := by decide +kernel
theorem dX6_tieItem_126 : decode cX6_tieItem 126 = .ok (.getfield 16, 3) := by decide +kernel
theorem dX6_tieItem_129 : decode cX6_tieItem 129 = .ok (.iload_n 2, 1) := by decide +kernel
theorem dX6_tieItem_130 : decode cX6_tieItem 130 = .ok (.iaload, 1) := by decide +kernel
theorem dX6_tieItem_131 : decode cX6_tieItem 131 = .ok (.imul, 1) := by decide +kernel
theorem dX6_tieItem_132 : decode cX6_tieItem 132 = .ok (.if_icmp .ge 77, 3) := by decide +kernel
theorem dX6_tieItem_135 : decode cX6_tieItem 135 = .ok (.aload_n 0, 1) := by decide +kernel
theorem dX6_tieItem_136 : decode cX6_tieItem 136 = .ok (.aload_n 0, 1) := by decide +kernel
theorem dX6_tieItem_137 : decode cX6_tieItem 137 = .ok (.getfield 96, 3) := by decide +kernel
theorem dX6_tieItem_140 : decode cX6_tieItem 140 = .ok (.invokevirtual 99, 3) := by decide +kernel
theorem dX6_tieItem_143 : decode cX6_tieItem 143 = .ok (.bipush 48, 2) := by decide +kernel
theorem dX6_tieItem_145 : decode cX6_tieItem 145 = .ok (.isub, 1) := by decide +kernel
theorem dX6_tieItem_146 : decode cX6_tieItem 146 = .ok (.istore 4, 2) := by decide +kernel
theorem dX6_tieItem_148 : decode cX6_tieItem 148 = .ok (.iload 4, 2) := by decide +kernel
theorem dX6_tieItem_150 : decode cX6_tieItem 150 = .ok (.i2l, 1) := by decide +kernel
theorem dX6_tieItem_151 : decode cX6_tieItem 151 = .ok (.lconst 0, 1) := by decide +kernel
theorem dX6_tieItem_152 : decode cX6_tieItem 152 = .ok (.ldc2_w 120, 3) := by decide +kernel
theorem dX6_tieItem_155 : decode cX6_tieItem 155 = .ok (.invokestatic 89, 3) := by decide +kernel
theorem dX6_tieItem_158 : decode cX6_tieItem 158 = .ok (.ifCond .ne 5, 3) := by decide +kernel
theorem dX6_tieItem_161 : decode cX6_tieItem 161 = .ok (.iconst 0, 1) := by decide +kernel
theorem dX6_tieItem_162 : decode cX6_tieItem 162 = .ok (.ireturn, 1) := by decide +kernel
theorem dX6_tieItem_163 : decode cX6_tieItem 163 = .ok (.aload_n 0, 1) := by decide +kernel
theorem dX6_tieItem_164 : decode cX6_tieItem 164 = .ok (.getfield 19, 3) := by decide +kernel
theorem dX6_tieItem_167 : decode cX6_tieItem 167 = .ok (.iload_n 1, 1) := by decide +kernel
theorem dX6_tieItem_168 : decode cX6_tieItem 168 = .ok (.iload_n 2, 1) := by decide +kernel
theorem dX6_tieItem_169 : decode cX6_tieItem 169 = .ok (.iload_n 3, 1) := by decide +kernel
theorem dX6_tieItem_170 : decode cX6_tieItem 170 = .ok (.aload_n 0, 1) := by decide +kernel
theorem dX6_tieItem_171 : decode cX6_tieItem 171 = .ok (.getfield 16, 3) := by decide +kernel
theorem dX6_tieItem_174 : decode cX6_tieItem 174 = .ok (.iload_n 2, 1) := by decide +kernel
theorem dX6_tieItem_175 : decode cX6_tieItem 175 = .ok (.iaload, 1) := by decide +kernel
theorem dX6_tieItem_176 : decode cX6_tieItem 176 = .ok (.idiv, 1) := by decide +kernel
theorem dX6_tieItem_177 : decode cX6_tieItem 177 = .ok (.iload_n 3, 1) := by decide +kernel
theorem dX6_tieItem_178 : decode cX6_tieItem 178 = .ok (.aload_n 0, 1) := by decide +kernel
theorem dX6_tieItem_179 : decode cX6_tieItem 179 = .ok (.getfield 16, 3) := by decide +kernel
theorem dX6_tieItem_182 : decode cX6_tieItem 182 = .ok (.iload_n 2, 1) := by decide +kernel
theorem dX6_tieItem_183 : decode cX6_tieItem 183 = .ok (.iaload, 1) := by decide +kernel
theorem dX6_tieItem_184 : decode cX6_tieItem 184 = .ok (.irem, 1) := by decide +kernel
theorem dX6_tieItem_185 : decode cX6_tieItem 185 = .ok (.invokestatic 81, 3) := by decide +kernel
theorem dX6_tieItem_188 : decode cX6_tieItem 188 = .ok (.iconst 1, 1) := by decide +kernel
theorem dX6_tieItem_189 : decode cX6_tieItem 189 = .ok (.iload 4, 2) := by decide +kernel
theorem dX6_tieItem_191 : decode cX6_tieItem 191 = .ok (.iadd, 1) := by decide +kernel
theorem dX6_tieItem_192 : decode cX6_tieItem 192 = .ok (.iastore, 1) := by decide +kernel
theorem dX6_tieItem_193 : decode cX6_tieItem 193 = .ok (.aload_n 0, 1) := by decide +kernel
theorem dX6_tieItem_194 : decode cX6_tieItem 194 = .ok (.dup, 1) := by decide +kernel
theorem dX6_tieItem_195 : decode cX6_tieItem 195 = .ok (.getfield 96, 3) := by decide +kernel
theorem dX6_tieItem_198 : decode cX6_tieItem 198 = .ok (.iconst 1, 1) := by decide +kernel
theorem dX6_tieItem_199 : decode cX6_tieItem 199 = .ok (.iadd, 1) := by decide +kernel
theorem dX6_tieItem_200 : decode cX6_tieItem 200 = .ok (.putfield 96, 3) := by decide +kernel
theorem dX6_tieItem_203 : decode cX6_tieItem 203 = .ok (.iinc 3 1, 3) := by decide +kernel
theorem dX6_tieItem_206 : decode cX6_tieItem 206 = .ok (.goto (-88), 3) := by decide +kernel
theorem dX6_tieItem_209 : decode cX6_tieItem 209 = .ok (.aload_n 0, 1) := by decide +kernel
theorem dX6_tieItem_210 : decode cX6_tieItem 210 = .ok (.dup, 1) := by decide +kernel
theorem dX6_tieItem_211 : decode cX6_tieItem 211 = .ok (.getfield 96, 3) := by decide +kernel
theorem dX6_tieItem_214 : decode cX6_tieItem 214 = .ok (.iconst 1, 1) := by decide +kernel
theorem dX6_tieItem_215 : decode cX6_tieItem 215 = .ok (.iadd, 1) := by decide +kernel
theorem dX6_tieItem_216 : decode cX6_tieItem 216 = .ok (.putfield 96, 3) := by decide +kernel
theorem dX6_tieItem_219 : decode cX6_tieItem 219 = .ok (.aload_n 0, 1) := by decide +kernel
theorem dX6_tieItem_220 : decode cX6_tieItem 220 = .ok (.aload_n 0, 1) := by decide +kernel
theorem dX6_tieItem_221 : decode cX6_tieItem 221 = .ok (.getfield 96, 3) := by decide +kernel
theorem dX6_tieItem_224 : decode cX6_tieItem 224 = .ok (.iconst 1, 1) := by decide +kernel
theorem dX6_tieItem_225 : decode cX6_tieItem 225 = .ok (.isub, 1) := by decide +kernel
theorem dX6_tieItem_226 : decode cX6_tieItem 226 = .ok (.invokevirtual 99, 3) := by decide +kernel
theorem dX6_tieItem_229 : decode cX6_tieItem 229 = .ok (.bipush 59, 2) := by decide +kernel
theorem dX6_tieItem_231 : decode cX6_tieItem 231 = .ok (.if_icmp .ne 7, 3) := by decide +kernel
theorem dX6_tieItem_234 : decode cX6_tieItem 234 = .ok (.iconst 1, 1) := by decide +kernel
theorem dX6_tieItem_235 : decode cX6_tieItem 235 = .ok (.goto 4, 3) := by decide +kernel
theorem dX6_tieItem_238 : decode cX6_tieItem 238 = .ok (.iconst 0, 1) := by decide +kernel
theorem dX6_tieItem_239 : decode cX6_tieItem 239 = .ok (.ireturn, 1) := by decide +kernel
theorem dX6_tiesIn_0 : decode cX6_tiesIn 0 = .ok (.iconst 0, 1) := by decide +kernel
theorem dX6_tiesIn_1 : decode cX6_tiesIn 1 = .ok (.istore_n 1, 1) := by decide +kernel
theorem dX6_tiesIn_2 : decode cX6_tiesIn 2 = .ok (.iconst 0, 1) := by decide +kernel
theorem dX6_tiesIn_3 : decode cX6_tiesIn 3 = .ok (.istore_n 2, 1) := by decide +kernel
theorem dX6_tiesIn_4 : decode cX6_tiesIn 4 = .ok (.iload_n 2, 1) := by decide +kernel
theorem dX6_tiesIn_5 : decode cX6_tiesIn 5 = .ok (.bipush 28, 2) := by decide +kernel
theorem dX6_tiesIn_7 : decode cX6_tiesIn 7 = .ok (.if_icmp .ge 29, 3) := by decide +kernel
theorem dX6_tiesIn_10 : decode cX6_tiesIn 10 = .ok (.iload_n 1, 1) := by decide +kernel
theorem dX6_tiesIn_11 : decode cX6_tiesIn 11 = .ok (.aload_n 0, 1) := by decide +kernel
theorem dX6_tiesIn_12 : decode cX6_tiesIn 12 = .ok (.bipush 52, 2) := by decide +kernel
theorem dX6_tiesIn_14 : decode cX6_tiesIn 14 = .ok (.bipush 16, 2) := by decide +kernel
theorem dX6_tiesIn_16 : decode cX6_tiesIn 16 = .ok (.iload_n 2, 1) := by decide +kernel
theorem dX6_tiesIn_17 : decode cX6_tiesIn 17 = .ok (.imul, 1) := by decide +kernel
theorem dX6_tiesIn_18 : decode cX6_tiesIn 18 = .ok (.iadd, 1) := by decide +kernel
theorem dX6_tiesIn_19 : decode cX6_tiesIn 19 = .ok (.iaload, 1) := by decide +kernel
theorem dX6_tiesIn_20 : decode cX6_tiesIn 20 = .ok (.ifCond .le 7, 3) := by decide +kernel
theorem dX6_tiesIn_23 : decode cX6_tiesIn 23 = .ok (.iconst 1, 1) := by decide +kernel
theorem dX6_tiesIn_24 : decode cX6_tiesIn 24 = .ok (.goto 4, 3) := by decide +kernel
theorem dX6_tiesIn_27 : decode cX6_tiesIn 27 = .ok (.iconst 0, 1) := by decide +kernel
theorem dX6_tiesIn_28 : decode cX6_tiesIn 28 = .ok (.iadd, 1) := by decide +kernel
theorem dX6_tiesIn_29 : decode cX6_tiesIn 29 = .ok (.istore_n 1, 1) := by decide +kernel
theorem dX6_tiesIn_30 : decode cX6_tiesIn 30 = .ok (.iinc 2 1, 3) := by decide +kernel
theorem dX6_tiesIn_33 : decode cX6_tiesIn 33 = .ok (.goto (-29), 3) := by decide +kernel
theorem dX6_tiesIn_36 : decode cX6_tiesIn 36 = .ok (.iload_n 1, 1) := by decide +kernel
theorem dX6_tiesIn_37 : decode cX6_tiesIn 37 = .ok (.ireturn, 1) := by decide +kernel
theorem dX6_readAll_0 : decode cX6_readAll 0 = .ok (.aload_n 0, 1) := by decide +kernel
theorem dX6_readAll_1 : decode cX6_readAll 1 = .ok (.invokevirtual 61, 3) := by decide +kernel
theorem dX6_readAll_4 : decode cX6_readAll 4 = .ok (.aload_n 0, 1) := by decide +kernel
theorem dX6_readAll_5 : decode cX6_readAll 5 = .ok (.iconst 0, 1) := by decide +kernel
theorem dX6_readAll_6 : decode cX6_readAll 6 = .ok (.putfield 96, 3) := by decide +kernel
theorem dX6_readAll_9 : decode cX6_readAll 9 = .ok (.aload_n 0, 1) := by decide +kernel
theorem dX6_readAll_10 : decode cX6_readAll 10 = .ok (.getfield 96, 3) := by decide +kernel
theorem dX6_readAll_13 : decode cX6_readAll 13 = .ok (.aload_n 0, 1) := by decide +kernel
theorem dX6_readAll_14 : decode cX6_readAll 14 = .ok (.getfield 93, 3) := by decide +kernel
theorem dX6_readAll_17 : decode cX6_readAll 17 = .ok (.if_icmp .ge 61, 3) := by decide +kernel
theorem dX6_readAll_20 : decode cX6_readAll 20 = .ok (.aload_n 0, 1) := by decide +kernel
theorem dX6_readAll_21 : decode cX6_readAll 21 = .ok (.getfield 96, 3) := by decide +kernel
theorem dX6_readAll_24 : decode cX6_readAll 24 = .ok (.istore_n 1, 1) := by decide +kernel
theorem dX6_readAll_25 : decode cX6_readAll 25 = .ok (.aload_n 0, 1) := by decide +kernel
theorem dX6_readAll_26 : decode cX6_readAll 26 = .ok (.aload_n 0, 1) := by decide +kernel
theorem dX6_readAll_27 : decode cX6_readAll 27 = .ok (.getfield 96, 3) := by decide +kernel
theorem dX6_readAll_30 : decode cX6_readAll 30 = .ok (.invokevirtual 99, 3) := by decide +kernel
theorem dX6_readAll_33 : decode cX6_readAll 33 = .ok (.istore_n 2, 1) := by decide +kernel
theorem dX6_readAll_34 : decode cX6_readAll 34 = .ok (.aload_n 0, 1) := by decide +kernel
theorem dX6_readAll_35 : decode cX6_readAll 35 = .ok (.dup, 1) := by decide +kernel
theorem dX6_readAll_36 : decode cX6_readAll 36 = .ok (.getfield 96, 3) := by decide +kernel
theorem dX6_readAll_39 : decode cX6_readAll 39 = .ok (.iconst 1, 1) := by decide +kernel
theorem dX6_readAll_40 : decode cX6_readAll 40 = .ok (.iadd, 1) := by decide +kernel
theorem dX6_readAll_41 : decode cX6_readAll 41 = .ok (.putfield 96, 3) := by decide +kernel
theorem dX6_readAll_44 : decode cX6_readAll 44 = .ok (.iload_n 2, 1) := by decide +kernel
theorem dX6_readAll_45 : decode cX6_readAll 45 = .ok (.bipush 110, 2) := by decide +kernel
theorem dX6_readAll_47 : decode cX6_readAll 47 = .ok (.if_icmp .ne 13, 3) := by decide +kernel
theorem dX6_readAll_50 : decode cX6_readAll 50 = .ok (.aload_n 0, 1) := by decide +kernel
theorem dX6_readAll_51 : decode cX6_readAll 51 = .ok (.invokevirtual 122, 3) := by decide +kernel
theorem dX6_readAll_54 : decode cX6_readAll 54 = .ok (.ifCond .ne 21, 3) := by decide +kernel
theorem dX6_readAll_57 : decode cX6_readAll 57 = .ok (.goto 16, 3) := by decide +kernel
theorem dX6_readAll_60 : decode cX6_readAll 60 = .ok (.iload_n 2, 1) := by decide +kernel
theorem dX6_readAll_61 : decode cX6_readAll 61 = .ok (.bipush 101, 2) := by decide +kernel
theorem dX6_readAll_63 : decode cX6_readAll 63 = .ok (.if_icmp .ne 10, 3) := by decide +kernel
theorem dX6_readAll_66 : decode cX6_readAll 66 = .ok (.aload_n 0, 1) := by decide +kernel
theorem dX6_readAll_67 : decode cX6_readAll 67 = .ok (.invokevirtual 125, 3) := by decide +kernel
theorem dX6_readAll_70 : decode cX6_readAll 70 = .ok (.ifCond .ne 5, 3) := by decide +kernel
theorem dX6_readAll_73 : decode cX6_readAll 73 = .ok (.iload_n 1, 1) := by decide +kernel
theorem dX6_readAll_74 : decode cX6_readAll 74 = .ok (.ireturn, 1) := by decide +kernel
theorem dX6_readAll_75 : decode cX6_readAll 75 = .ok (.goto (-66), 3) := by decide +kernel
theorem dX6_readAll_78 : decode cX6_readAll 78 = .ok (.bipush (-4), 2) := by decide +kernel
theorem dX6_readAll_80 : decode cX6_readAll 80 = .ok (.ireturn, 1) := by decide +kernel
theorem dX6_fault_0 : decode cX6_fault 0 = .ok (.aload_n 0, 1) := by decide +kernel
theorem dX6_fault_1 : decode cX6_fault 1 = .ok (.invokevirtual 128, 3) := by decide +kernel
theorem dX6_fault_4 : decode cX6_fault 4 = .ok (.ireturn, 1) := by decide +kernel
theorem dX6_lay_0 : decode cX6_lay 0 = .ok (.aload_n 0, 1) := by decide +kernel
theorem dX6_lay_1 : decode cX6_lay 1 = .ok (.invokevirtual 128, 3) := by decide +kernel
theorem dX6_lay_4 : decode cX6_lay 4 = .ok (.bipush (-4), 2) := by decide +kernel
theorem dX6_lay_6 : decode cX6_lay 6 = .ok (.if_icmp .ne 10, 3) := by decide +kernel
theorem dX6_lay_9 : decode cX6_lay 9 = .ok (.aload_n 0, 1) := by decide +kernel
theorem dX6_lay_10 : decode cX6_lay 10 = .ok (.getfield 77, 3) := by decide +kernel
theorem dX6_lay_13 : decode cX6_lay 13 = .ok (.ifCond .ne 6, 3) := by decide +kernel
theorem dX6_lay_16 : decode cX6_lay 16 = .ok (.bipush (-2), 2) := by decide +kernel
theorem dX6_lay_18 : decode cX6_lay 18 = .ok (.ireturn, 1) := by decide +kernel
theorem dX6_lay_19 : decode cX6_lay 19 = .ok (.aload_n 0, 1) := by decide +kernel
theorem dX6_lay_20 : decode cX6_lay 20 = .ok (.invokevirtual 74, 3) := by decide +kernel
theorem dX6_lay_23 : decode cX6_lay 23 = .ok (.aload_n 0, 1) := by decide +kernel
theorem dX6_lay_24 : decode cX6_lay 24 = .ok (.getfield 132, 3) := by decide +kernel
theorem dX6_lay_27 : decode cX6_lay 27 = .ok (.ireturn, 1) := by decide +kernel
theorem dX6_begin_0 : decode cX6_begin 0 = .ok (.aload_n 0, 1) := by decide +kernel
theorem dX6_begin_1 : decode cX6_begin 1 = .ok (.aload_n 0, 1) := by decide +kernel
theorem dX6_begin_2 : decode cX6_begin 2 = .ok (.getfield 77, 3) := by decide +kernel
theorem dX6_begin_5 : decode cX6_begin 5 = .ok (.putfield 132, 3) := by decide +kernel
theorem dX6_begin_8 : decode cX6_begin 8 = .ok (.iconst 0, 1) := by decide +kernel
theorem dX6_begin_9 : decode cX6_begin 9 = .ok (.istore_n 1, 1) := by decide +kernel
theorem dX6_begin_10 : decode cX6_begin 10 = .ok (.iload_n 1, 1) := by decide +kernel
theorem dX6_begin_11 : decode cX6_begin 11 = .ok (.bipush 8, 2) := by decide +kernel
theorem dX6_begin_13 : decode cX6_begin 13 = .ok (.if_icmp .ge 21, 3) := by decide +kernel
theorem dX6_begin_16 : decode cX6_begin 16 = .ok (.aload_n 0, 1) := by decide +kernel
theorem dX6_begin_17 : decode cX6_begin 17 = .ok (.getfield 13, 3) := by decide +kernel
theorem dX6_begin_20 : decode cX6_begin 20 = .ok (.iload_n 1, 1) := by decide +kernel
theorem dX6_begin_21 : decode cX6_begin 21 = .ok (.aload_n 0, 1) := by decide +kernel
theorem dX6_begin_22 : decode cX6_begin 22 = .ok (.getfield 16, 3) := by decide +kernel
theorem dX6_begin_25 : decode cX6_begin 25 = .ok (.iload_n 1, 1) := by decide +kernel
theorem dX6_begin_26 : decode cX6_begin 26 = .ok (.iaload, 1) := by decide +kernel
theorem dX6_begin_27 : decode cX6_begin 27 = .ok (.iastore, 1) := by decide +kernel
theorem dX6_begin_28 : decode cX6_begin 28 = .ok (.iinc 1 1, 3) := by decide +kernel
theorem dX6_begin_31 : decode cX6_begin 31 = .ok (.goto (-21), 3) := by decide +kernel
theorem dX6_begin_34 : decode cX6_begin 34 = .ok (.iconst 0, 1) := by decide +kernel
theorem dX6_begin_35 : decode cX6_begin 35 = .ok (.istore_n 1, 1) := by decide +kernel
theorem dX6_begin_36 : decode cX6_begin 36 = .ok (.iload_n 1, 1) := by decide +kernel
theorem dX6_begin_37 : decode cX6_begin 37 = .ok (.sipush 500, 3) := by decide +kernel
theorem dX6_begin_40 : decode cX6_begin 40 = .ok (.if_icmp .ge 21, 3) := by decide +kernel
theorem dX6_begin_43 : decode cX6_begin 43 = .ok (.aload_n 0, 1) := by decide +kernel
theorem dX6_begin_44 : decode cX6_begin 44 = .ok (.getfield 22, 3) := by decide +kernel
theorem dX6_begin_47 : decode cX6_begin 47 = .ok (.iload_n 1, 1) := by decide +kernel
theorem dX6_begin_48 : decode cX6_begin 48 = .ok (.aload_n 0, 1) := by decide +kernel
theorem dX6_begin_49 : decode cX6_begin 49 = .ok (.getfield 19, 3) := by decide +kernel
theorem dX6_begin_52 : decode cX6_begin 52 = .ok (.iload_n 1, 1) := by decide +kernel
theorem dX6_begin_53 : decode cX6_begin 53 = .ok (.iaload, 1) := by decide +kernel
theorem dX6_begin_54 : decode cX6_begin 54 = .ok (.iastore, 1) := by decide +kernel
theorem dX6_begin_55 : decode cX6_begin 55 = .ok (.iinc 1 1, 3) := by decide +kernel
theorem dX6_begin_58 : decode cX6_begin 58 = .ok (.goto (-22), 3) := by decide +kernel
theorem dX6_begin_61 : decode cX6_begin 61 = .ok (.aload_n 0, 1) := by decide +kernel
theorem dX6_begin_62 : decode cX6_begin 62 = .ok (.iconst 0, 1) := by decide +kernel
theorem dX6_begin_63 : decode cX6_begin 63 = .ok (.putfield 135, 3) := by decide +kernel
theorem dX6_begin_66 : decode cX6_begin 66 = .ok (.aload_n 0, 1) := by decide +kernel
theorem dX6_begin_67 : decode cX6_begin 67 = .ok (.iconst 0, 1) := by decide +kernel
theorem dX6_begin_68 : decode cX6_begin 68 = .ok (.putfield 138, 3) := by decide +kernel
theorem dX6_begin_71 : decode cX6_begin 71 = .ok (.return_, 1) := by decide +kernel
theorem dX6_isNode_0 : decode cX6_isNode 0 = .ok (.iload_n 1, 1) := by decide +kernel
theorem dX6_isNode_1 : decode cX6_isNode 1 = .ok (.i2l, 1) := by decide +kernel
theorem dX6_isNode_2 : decode cX6_isNode 2 = .ok (.lconst 0, 1) := by decide +kernel
theorem dX6_isNode_3 : decode cX6_isNode 3 = .ok (.aload_n 0, 1) := by decide +kernel
theorem dX6_isNode_4 : decode cX6_isNode 4 = .ok (.getfield 132, 3) := by decide +kernel
theorem dX6_isNode_7 : decode cX6_isNode 7 = .ok (.iconst 1, 1) := by decide +kernel
theorem dX6_isNode_8 : decode cX6_isNode 8 = .ok (.isub, 1) := by decide +kernel
theorem dX6_isNode_9 : decode cX6_isNode 9 = .ok (.i2l, 1) := by decide +kernel
theorem dX6_isNode_10 : decode cX6_isNode 10 = .ok (.invokestatic 89, 3) := by decide +kernel
theorem dX6_isNode_13 : decode cX6_isNode 13 = .ok (.ireturn, 1) := by decide +kernel
theorem dX6_isChoice_0 : decode cX6_isChoice 0 = .ok (.aload_n 0, 1) := by decide +kernel
theorem dX6_isChoice_1 : decode cX6_isChoice 1 = .ok (.iload_n 1, 1) := by decide +kernel
theorem dX6_isChoice_2 : decode cX6_isChoice 2 = .ok (.invokevirtual 141, 3) := by decide +kernel
theorem dX6_isChoice_5 : decode cX6_isChoice 5 = .ok (.ifCond .eq 25, 3) := by decide +kernel
theorem dX6_isChoice_8 : decode cX6_isChoice 8 = .ok (.iload_n 2, 1) := by decide +kernel
theorem dX6_isChoice_9 : decode cX6_isChoice 9 = .ok (.i2l, 1) := by decide +kernel
theorem dX6_isChoice_10 : decode cX6_isChoice 10 = .ok (.lconst 0, 1) := by decide +kernel
theorem dX6_isChoice_11 : decode cX6_isChoice 11 = .ok (.aload_n 0, 1) := by decide +kernel
theorem dX6_isChoice_12 : decode cX6_isChoice 12 = .ok (.getfield 13, 3) := by decide +kernel
theorem dX6_isChoice_15 : decode cX6_isChoice 15 = .ok (.iload_n 1, 1) := by decide +kernel
theorem dX6_isChoice_16 : decode cX6_isChoice 16 = .ok (.iaload, 1) := by decide +kernel
theorem dX6_isChoice_17 : decode cX6_isChoice 17 = .ok (.iconst 1, 1) := by decide +kernel
theorem dX6_isChoice_18 : decode cX6_isChoice 18 = .ok (.isub, 1) := by decide +kernel
theorem dX6_isChoice_19 : decode cX6_isChoice 19 = .ok (.i2l, 1) := by decide +kernel
theorem dX6_isChoice_20 : decode cX6_isChoice 20 = .ok (.invokestatic 89, 3) := by decide +kernel
theorem dX6_isChoice_23 : decode cX6_isChoice 23 = .ok (.ifCond .eq 7, 3) := by decide +kernel
theorem dX6_isChoice_26 : decode cX6_isChoice 26 = .ok (.iconst 1, 1) := by decide +kernel
theorem dX6_isChoice_27 : decode cX6_isChoice 27 = .ok (.goto 4, 3) := by decide +kernel
theorem dX6_isChoice_30 : decode cX6_isChoice 30 = .ok (.iconst 0, 1) := by decide +kernel
theorem dX6_isChoice_31 : decode cX6_isChoice 31 = .ok (.ireturn, 1) := by decide +kernel
theorem dX6_isPair_0 : decode cX6_isPair 0 = .ok (.aload_n 0, 1) := by decide +kernel
theorem dX6_isPair_1 : decode cX6_isPair 1 = .ok (.iload_n 1, 1) := by decide +kernel
theorem dX6_isPair_2 : decode cX6_isPair 2 = .ok (.invokevirtual 141, 3) := by decide +kernel
theorem dX6_isPair_5 : decode cX6_isPair 5 = .ok (.ifCond .eq 20, 3) := by decide +kernel
theorem dX6_isPair_8 : decode cX6_isPair 8 = .ok (.aload_n 0, 1) := by decide +kernel
theorem dX6_isPair_9 : decode cX6_isPair 9 = .ok (.iload_n 2, 1) := by decide +kernel
theorem dX6_isPair_10 : decode cX6_isPair 10 = .ok (.invokevirtual 141, 3) := by decide +kernel
theorem dX6_isPair_13 : decode cX6_isPair 13 = .ok (.ifCond .eq 12, 3) := by decide +kernel
theorem dX6_isPair_16 : decode cX6_isPair 16 = .ok (.iload_n 1, 1) := by decide +kernel
theorem dX6_isPair_17 : decode cX6_isPair 17 = .ok (.iload_n 2, 1) := by decide +kernel
theorem dX6_isPair_18 : decode cX6_isPair 18 = .ok (.if_icmp .eq 7, 3) := by decide +kernel
theorem dX6_isPair_21 : decode cX6_isPair 21 = .ok (.iconst 1, 1) := by decide +kernel
theorem dX6_isPair_22 : decode cX6_isPair 22 = .ok (.goto 4, 3) := by decide +kernel
theorem dX6_isPair_25 : decode cX6_isPair 25 = .ok (.iconst 0, 1) := by decide +kernel
theorem dX6_isPair_26 : decode cX6_isPair 26 = .ok (.ireturn, 1) := by decide +kernel
theorem dX6_isTied_0 : decode cX6_isTied 0 = .ok (.iload_n 1, 1) := by decide +kernel
theorem dX6_isTied_1 : decode cX6_isTied 1 = .ok (.iload_n 2, 1) := by decide +kernel
theorem dX6_isTied_2 : decode cX6_isTied 2 = .ok (.if_icmp .eq 22, 3) := by decide +kernel
theorem dX6_isTied_5 : decode cX6_isTied 5 = .ok (.aload_n 0, 1) := by decide +kernel
theorem dX6_isTied_6 : decode cX6_isTied 6 = .ok (.getfield 22, 3) := by decide +kernel
theorem dX6_isTied_9 : decode cX6_isTied 9 = .ok (.iload_n 1, 1) := by decide +kernel
theorem dX6_isTied_10 : decode cX6_isTied 10 = .ok (.iload_n 2, 1) := by decide +kernel
theorem dX6_isTied_11 : decode cX6_isTied 11 = .ok (.iconst 0, 1) := by decide +kernel
theorem dX6_isTied_12 : decode cX6_isTied 12 = .ok (.iconst 0, 1) := by decide +kernel
theorem dX6_isTied_13 : decode cX6_isTied 13 = .ok (.invokestatic 81, 3) := by decide +kernel
theorem dX6_isTied_16 : decode cX6_isTied 16 = .ok (.iaload, 1) := by decide +kernel
theorem dX6_isTied_17 : decode cX6_isTied 17 = .ok (.ifCond .le 7, 3) := by decide +kernel
theorem dX6_isTied_20 : decode cX6_isTied 20 = .ok (.iconst 1, 1) := by decide +kernel
theorem dX6_isTied_21 : decode cX6_isTied 21 = .ok (.goto 4, 3) := by decide +kernel
theorem dX6_isTied_24 : decode cX6_isTied 24 = .ok (.iconst 0, 1) := by decide +kernel
theorem dX6_isTied_25 : decode cX6_isTied 25 = .ok (.ireturn, 1) := by decide +kernel
theorem dX6_atMost_0 : decode cX6_atMost 0 = .ok (.iload_n 0, 1) := by decide +kernel
theorem dX6_atMost_1 : decode cX6_atMost 1 = .ok (.ldc 145, 2) := by decide +kernel
theorem dX6_atMost_3 : decode cX6_atMost 3 = .ok (.if_icmp .le 8, 3) := by decide +kernel
theorem dX6_atMost_6 : decode cX6_atMost 6 = .ok (.ldc 145, 2) := by decide +kernel
theorem dX6_atMost_8 : decode cX6_atMost 8 = .ok (.goto 4, 3) := by decide +kernel
theorem dX6_atMost_11 : decode cX6_atMost 11 = .ok (.iload_n 0, 1) := by decide +kernel
theorem dX6_atMost_12 : decode cX6_atMost 12 = .ok (.ireturn, 1) := by decide +kernel
theorem dX6_costOf_0 : decode cX6_costOf 0 = .ok (.aload_n 0, 1) := by decide +kernel
theorem dX6_costOf_1 : decode cX6_costOf 1 = .ok (.getfield 22, 3) := by decide +kernel
theorem dX6_costOf_4 : decode cX6_costOf 4 = .ok (.bipush 40, 2) := by decide +kernel
theorem dX6_costOf_6 : decode cX6_costOf 6 = .ok (.iload_n 1, 1) := by decide +kernel
theorem dX6_costOf_7 : decode cX6_costOf 7 = .ok (.iadd, 1) := by decide +kernel
theorem dX6_costOf_8 : decode cX6_costOf 8 = .ok (.iaload, 1) := by decide +kernel
theorem dX6_costOf_9 : decode cX6_costOf 9 = .ok (.istore_n 3, 1) := by decide +kernel
theorem dX6_costOf_10 : decode cX6_costOf 10 = .ok (.aload_n 0, 1) := by decide +kernel
theorem dX6_costOf_11 : decode cX6_costOf 11 = .ok (.getfield 22, 3) := by decide +kernel
theorem dX6_costOf_14 : decode cX6_costOf 14 = .ok (.iconst 4, 1) := by decide +kernel
theorem dX6_costOf_15 : decode cX6_costOf 15 = .ok (.iload_n 1, 1) := by decide +kernel
theorem dX6_costOf_16 : decode cX6_costOf 16 = .ok (.imul, 1) := by decide +kernel
theorem dX6_costOf_17 : decode cX6_costOf 17 = .ok (.iload_n 2, 1) := by decide +kernel
theorem dX6_costOf_18 : decode cX6_costOf 18 = .ok (.iadd, 1) := by decide +kernel
theorem dX6_costOf_19 : decode cX6_costOf 19 = .ok (.iaload, 1) := by decide +kernel
theorem dX6_costOf_20 : decode cX6_costOf 20 = .ok (.istore 4, 2) := by decide +kernel
theorem dX6_costOf_22 : decode cX6_costOf 22 = .ok (.iload_n 3, 1) := by decide +kernel
theorem dX6_costOf_23 : decode cX6_costOf 23 = .ok (.ifCond .le 10, 3) := by decide +kernel
theorem dX6_costOf_26 : decode cX6_costOf 26 = .ok (.iload_n 3, 1) := by decide +kernel
theorem dX6_costOf_27 : decode cX6_costOf 27 = .ok (.iconst 1, 1) := by decide +kernel
theorem dX6_costOf_28 : decode cX6_costOf 28 = .ok (.isub, 1) := by decide +kernel
theorem dX6_costOf_29 : decode cX6_costOf 29 = .ok (.iload_n 2, 1) := by decide +kernel
theorem dX6_costOf_30 : decode cX6_costOf 30 = .ok (.if_icmp .ne 10, 3) := by decide +kernel
theorem dX6_costOf_33 : decode cX6_costOf 33 = .ok (.iload 4, 2) := by decide +kernel
theorem dX6_costOf_35 : decode cX6_costOf 35 = .ok (.bipush 99, 2) := by decide +kernel
theorem dX6_costOf_37 : decode cX6_costOf 37 = .ok (.if_icmp .ne 6, 3) := by decide +kernel
theorem dX6_costOf_40 : decode cX6_costOf 40 = .ok (.ldc 145, 2) := by decide +kernel
theorem dX6_costOf_42 : decode cX6_costOf 42 = .ok (.ireturn, 1) := by decide +kernel
theorem dX6_costOf_43 : decode cX6_costOf 43 = .ok (.aload_n 0, 1) := by decide +kernel
theorem dX6_costOf_44 : decode cX6_costOf 44 = .ok (.getfield 22, 3) := by decide +kernel
theorem dX6_costOf_47 : decode cX6_costOf 47 = .ok (.bipush 32, 2) := by decide +kernel
theorem dX6_costOf_49 : decode cX6_costOf 49 = .ok (.iload_n 1, 1) := by decide +kernel
theorem dX6_costOf_50 : decode cX6_costOf 50 = .ok (.iadd, 1) := by decide +kernel
theorem dX6_costOf_51 : decode cX6_costOf 51 = .ok (.iaload, 1) := by decide +kernel
theorem dX6_costOf_52 : decode cX6_costOf 52 = .ok (.tableswitch 41 0 2 #[28, 31, 36], 28) := by decide +kernel
theorem dX6_costOf_80 : decode cX6_costOf 80 = .ok (.iload 4, 2) := by decide +kernel
theorem dX6_costOf_82 : decode cX6_costOf 82 = .ok (.ireturn, 1) := by decide +kernel
theorem dX6_costOf_83 : decode cX6_costOf 83 = .ok (.iconst 2, 1) := by decide +kernel
theorem dX6_costOf_84 : decode cX6_costOf 84 = .ok (.iload 4, 2) := by decide +kernel
theorem dX6_costOf_86 : decode cX6_costOf 86 = .ok (.imul, 1) := by decide +kernel
theorem dX6_costOf_87 : decode cX6_costOf 87 = .ok (.ireturn, 1) := by decide +kernel
theorem dX6_costOf_88 : decode cX6_costOf 88 = .ok (.iload 4, 2) := by decide +kernel
theorem dX6_costOf_90 : decode cX6_costOf 90 = .ok (.iload_n 2, 1) := by decide +kernel
theorem dX6_costOf_91 : decode cX6_costOf 91 = .ok (.iadd, 1) := by decide +kernel
theorem dX6_costOf_92 : decode cX6_costOf 92 = .ok (.ireturn, 1) := by decide +kernel
theorem dX6_costOf_93 : decode cX6_costOf 93 = .ok (.iload 4, 2) := by decide +kernel
theorem dX6_costOf_95 : decode cX6_costOf 95 = .ok (.bipush 10, 2) := by decide +kernel
theorem dX6_costOf_97 : decode cX6_costOf 97 = .ok (.if_icmp .le 8, 3) := by decide +kernel
theorem dX6_costOf_100 : decode cX6_costOf 100 = .ok (.ldc 145, 2) := by decide +kernel
theorem dX6_costOf_102 : decode cX6_costOf 102 = .ok (.goto 7, 3) := by decide +kernel
theorem dX6_costOf_105 : decode cX6_costOf 105 = .ok (.iconst 2, 1) := by decide +kernel
theorem dX6_costOf_106 : decode cX6_costOf 106 = .ok (.iload 4, 2) := by decide +kernel
theorem dX6_costOf_108 : decode cX6_costOf 108 = .ok (.imul, 1) := by decide +kernel
theorem dX6_costOf_109 : decode cX6_costOf 109 = .ok (.ireturn, 1) := by decide +kernel
theorem dX6_tieOf_0 : decode cX6_tieOf 0 = .ok (.aload_n 0, 1) := by decide +kernel
theorem dX6_tieOf_1 : decode cX6_tieOf 1 = .ok (.getfield 22, 3) := by decide +kernel
theorem dX6_tieOf_4 : decode cX6_tieOf 4 = .ok (.iload_n 1, 1) := by decide +kernel
theorem dX6_tieOf_5 : decode cX6_tieOf 5 = .ok (.iload_n 2, 1) := by decide +kernel
theorem dX6_tieOf_6 : decode cX6_tieOf 6 = .ok (.iload_n 3, 1) := by decide +kernel
theorem dX6_tieOf_7 : decode cX6_tieOf 7 = .ok (.iload 4, 2) := by decide +kernel
theorem dX6_tieOf_9 : decode cX6_tieOf 9 = .ok (.invokestatic 81, 3) := by decide +kernel
theorem dX6_tieOf_12 : decode cX6_tieOf 12 = .ok (.iaload, 1) := by decide +kernel
theorem dX6_tieOf_13 : decode cX6_tieOf 13 = .ok (.iconst 1, 1) := by decide +kernel
theorem dX6_tieOf_14 : decode cX6_tieOf 14 = .ok (.isub, 1) := by decide +kernel
theorem dX6_tieOf_15 : decode cX6_tieOf 15 = .ok (.istore 5, 2) := by decide +kernel
theorem dX6_tieOf_17 : decode cX6_tieOf 17 = .ok (.iload 5, 2) := by decide +kernel
theorem dX6_tieOf_19 : decode cX6_tieOf 19 = .ok (.bipush 9, 2) := by decide +kernel
theorem dX6_tieOf_21 : decode cX6_tieOf 21 = .ok (.if_icmp .ne 8, 3) := by decide +kernel
theorem dX6_tieOf_24 : decode cX6_tieOf 24 = .ok (.ldc 145, 2) := by decide +kernel
theorem dX6_tieOf_26 : decode cX6_tieOf 26 = .ok (.goto 5, 3) := by decide +kernel
theorem dX6_tieOf_29 : decode cX6_tieOf 29 = .ok (.iload 5, 2) := by decide +kernel
theorem dX6_tieOf_31 : decode cX6_tieOf 31 = .ok (.ireturn, 1) := by decide +kernel
theorem dX6_tiedMany_0 : decode cX6_tiedMany 0 = .ok (.iconst 0, 1) := by decide +kernel
theorem dX6_tiedMany_1 : decode cX6_tiedMany 1 = .ok (.istore_n 2, 1) := by decide +kernel
theorem dX6_tiedMany_2 : decode cX6_tiedMany 2 = .ok (.iconst 0, 1) := by decide +kernel
theorem dX6_tiedMany_3 : decode cX6_tiedMany 3 = .ok (.istore_n 3, 1) := by decide +kernel
theorem dX6_tiedMany_4 : decode cX6_tiedMany 4 = .ok (.iload_n 3, 1) := by decide +kernel
theorem dX6_tiedMany_5 : decode cX6_tiedMany 5 = .ok (.aload_n 0, 1) := by decide +kernel
theorem dX6_tiedMany_6 : decode cX6_tiedMany 6 = .ok (.getfield 132, 3) := by decide +kernel
theorem dX6_tiedMany_9 : decode cX6_tiedMany 9 = .ok (.if_icmp .ge 26, 3) := by decide +kernel
theorem dX6_tiedMany_12 : decode cX6_tiedMany 12 = .ok (.iload_n 2, 1) := by decide +kernel
theorem dX6_tiedMany_13 : decode cX6_tiedMany 13 = .ok (.aload_n 0, 1) := by decide +kernel
theorem dX6_tiedMany_14 : decode cX6_tiedMany 14 = .ok (.iload_n 1, 1) := by decide +kernel
theorem dX6_tiedMany_15 : decode cX6_tiedMany 15 = .ok (.iload_n 3, 1) := by decide +kernel
theorem dX6_tiedMany_16 : decode cX6_tiedMany 16 = .ok (.invokevirtual 146, 3) := by decide +kernel
theorem dX6_tiedMany_19 : decode cX6_tiedMany 19 = .ok (.ifCond .eq 7, 3) := by decide +kernel
theorem dX6_tiedMany_22 : decode cX6_tiedMany 22 = .ok (.iconst 1, 1) := by decide +kernel
theorem dX6_tiedMany_23 : decode cX6_tiedMany 23 = .ok (.goto 4, 3) := by decide +kernel
theorem dX6_tiedMany_26 : decode cX6_tiedMany 26 = .ok (.iconst 0, 1) := by decide +kernel
theorem dX6_tiedMany_27 : decode cX6_tiedMany 27 = .ok (.iadd, 1) := by decide +kernel
theorem dX6_tiedMany_28 : decode cX6_tiedMany 28 = .ok (.istore_n 2, 1) := by decide +kernel
theorem dX6_tiedMany_29 : decode cX6_tiedMany 29 = .ok (.iinc 3 1, 3) := by decide +kernel
theorem dX6_tiedMany_32 : decode cX6_tiedMany 32 = .ok (.goto (-28), 3) := by decide +kernel
theorem dX6_tiedMany_35 : decode cX6_tiedMany 35 = .ok (.iload_n 2, 1) := by decide +kernel
theorem dX6_tiedMany_36 : decode cX6_tiedMany 36 = .ok (.ireturn, 1) := by decide +kernel
theorem dX6_node_0 : decode cX6_node 0 = .ok (.aload_n 0, 1) := by decide +kernel
theorem dX6_node_1 : decode cX6_node 1 = .ok (.iload_n 1, 1) := by decide +kernel
theorem dX6_node_2 : decode cX6_node 2 = .ok (.invokevirtual 141, 3) := by decide +kernel
theorem dX6_node_5 : decode cX6_node 5 = .ok (.ifCond .eq 15, 3) := by decide +kernel
theorem dX6_node_8 : decode cX6_node 8 = .ok (.iload_n 2, 1) := by decide +kernel
theorem dX6_node_9 : decode cX6_node 9 = .ok (.i2l, 1) := by decide +kernel
theorem dX6_node_10 : decode cX6_node 10 = .ok (.lconst 0, 1) := by decide +kernel
theorem dX6_node_11 : decode cX6_node 11 = .ok (.ldc2_w 150, 3) := by decide +kernel
theorem dX6_node_14 : decode cX6_node 14 = .ok (.invokestatic 89, 3) := by decide +kernel
theorem dX6_node_17 : decode cX6_node 17 = .ok (.ifCond .ne 5, 3) := by decide +kernel
theorem dX6_node_20 : decode cX6_node 20 = .ok (.iconst (-1), 1) := by decide +kernel
theorem dX6_node_21 : decode cX6_node 21 = .ok (.ireturn, 1) := by decide +kernel
theorem dX6_node_22 : decode cX6_node 22 = .ok (.iload_n 2, 1) := by decide +kernel
theorem dX6_node_23 : decode cX6_node 23 = .ok (.tableswitch 48 0 2 #[25, 35, 42], 25) := by decide +kernel
theorem dX6_node_48 : decode cX6_node 48 = .ok (.aload_n 0, 1) := by decide +kernel
theorem dX6_node_49 : decode cX6_node 49 = .ok (.getfield 22, 3) := by decide +kernel
theorem dX6_node_52 : decode cX6_node 52 = .ok (.bipush 32, 2) := by decide +kernel
theorem dX6_node_54 : decode cX6_node 54 = .ok (.iload_n 1, 1) := by decide +kernel
theorem dX6_node_55 : decode cX6_node 55 = .ok (.iadd, 1) := by decide +kernel
theorem dX6_node_56 : decode cX6_node 56 = .ok (.iaload, 1) := by decide +kernel
theorem dX6_node_57 : decode cX6_node 57 = .ok (.ireturn, 1) := by decide +kernel
theorem dX6_node_58 : decode cX6_node 58 = .ok (.aload_n 0, 1) := by decide +kernel
theorem dX6_node_59 : decode cX6_node 59 = .ok (.getfield 13, 3) := by decide +kernel
theorem dX6_node_62 : decode cX6_node 62 = .ok (.iload_n 1, 1) := by decide +kernel
theorem dX6_node_63 : decode cX6_node 63 = .ok (.iaload, 1) := by decide +kernel
theorem dX6_node_64 : decode cX6_node 64 = .ok (.ireturn, 1) := by decide +kernel
theorem dX6_node_65 : decode cX6_node 65 = .ok (.aload_n 0, 1) := by decide +kernel
theorem dX6_node_66 : decode cX6_node 66 = .ok (.iload_n 1, 1) := by decide +kernel
theorem dX6_node_67 : decode cX6_node 67 = .ok (.invokevirtual 152, 3) := by decide +kernel
theorem dX6_node_70 : decode cX6_node 70 = .ok (.ireturn, 1) := by decide +kernel
theorem dX6_node_71 : decode cX6_node 71 = .ok (.aload_n 0, 1) := by decide +kernel
theorem dX6_node_72 : decode cX6_node 72 = .ok (.getfield 22, 3) := by decide +kernel
theorem dX6_node_75 : decode cX6_node 75 = .ok (.bipush 40, 2) := by decide +kernel
theorem dX6_node_77 : decode cX6_node 77 = .ok (.iload_n 1, 1) := by decide +kernel
theorem dX6_node_78 : decode cX6_node 78 = .ok (.iadd, 1) := by decide +kernel
theorem dX6_node_79 : decode cX6_node 79 = .ok (.iaload, 1) := by decide +kernel
theorem dX6_node_80 : decode cX6_node 80 = .ok (.ifCond .ne 8, 3) := by decide +kernel
theorem dX6_node_83 : decode cX6_node 83 = .ok (.bipush (-4), 2) := by decide +kernel
theorem dX6_node_85 : decode cX6_node 85 = .ok (.goto 14, 3) := by decide +kernel
theorem dX6_node_88 : decode cX6_node 88 = .ok (.aload_n 0, 1) := by decide +kernel
theorem dX6_node_89 : decode cX6_node 89 = .ok (.getfield 22, 3) := by decide +kernel
theorem dX6_node_92 : decode cX6_node 92 = .ok (.bipush 40, 2) := by decide +kernel
theorem dX6_node_94 : decode cX6_node 94 = .ok (.iload_n 1, 1) := by decide +kernel
theorem dX6_node_95 : decode cX6_node 95 = .ok (.iadd, 1) := by decide +kernel
theorem dX6_node_96 : decode cX6_node 96 = .ok (.iaload, 1) := by decide +kernel
theorem dX6_node_97 : decode cX6_node 97 = .ok (.iconst 1, 1) := by decide +kernel
theorem dX6_node_98 : decode cX6_node 98 = .ok (.isub, 1) := by decide +kernel
theorem dX6_node_99 : decode cX6_node 99 = .ok (.ireturn, 1) := by decide +kernel
theorem dX6_cost_0 : decode cX6_cost 0 = .ok (.aload_n 0, 1) := by decide +kernel
theorem dX6_cost_1 : decode cX6_cost 1 = .ok (.iload_n 1, 1) := by decide +kernel
theorem dX6_cost_2 : decode cX6_cost 2 = .ok (.iload_n 2, 1) := by decide +kernel
theorem dX6_cost_3 : decode cX6_cost 3 = .ok (.invokevirtual 155, 3) := by decide +kernel
theorem dX6_cost_6 : decode cX6_cost 6 = .ok (.ifCond .eq 12, 3) := by decide +kernel
theorem dX6_cost_9 : decode cX6_cost 9 = .ok (.aload_n 0, 1) := by decide +kernel
theorem dX6_cost_10 : decode cX6_cost 10 = .ok (.iload_n 1, 1) := by decide +kernel
theorem dX6_cost_11 : decode cX6_cost 11 = .ok (.iload_n 2, 1) := by decide +kernel
theorem dX6_cost_12 : decode cX6_cost 12 = .ok (.invokevirtual 158, 3) := by decide +kernel
theorem dX6_cost_15 : decode cX6_cost 15 = .ok (.goto 4, 3) := by decide +kernel
theorem dX6_cost_18 : decode cX6_cost 18 = .ok (.iconst (-1), 1) := by decide +kernel
theorem dX6_cost_19 : decode cX6_cost 19 = .ok (.ireturn, 1) := by decide +kernel
theorem dX6_tie_0 : decode cX6_tie 0 = .ok (.iload_n 1, 1) := by decide +kernel
theorem dX6_tie_1 : decode cX6_tie 1 = .ok (.iload_n 2, 1) := by decide +kernel
theorem dX6_tie_2 : decode cX6_tie 2 = .ok (.if_icmp .eq 22, 3) := by decide +kernel
theorem dX6_tie_5 : decode cX6_tie 5 = .ok (.aload_n 0, 1) := by decide +kernel
theorem dX6_tie_6 : decode cX6_tie 6 = .ok (.iload_n 1, 1) := by decide +kernel
theorem dX6_tie_7 : decode cX6_tie 7 = .ok (.iload_n 3, 1) := by decide +kernel
theorem dX6_tie_8 : decode cX6_tie 8 = .ok (.invokevirtual 155, 3) := by decide +kernel
theorem dX6_tie_11 : decode cX6_tie 11 = .ok (.ifCond .eq 13, 3) := by decide +kernel
theorem dX6_tie_14 : decode cX6_tie 14 = .ok (.aload_n 0, 1) := by decide +kernel
theorem dX6_tie_15 : decode cX6_tie 15 = .ok (.iload_n 2, 1) := by decide +kernel
theorem dX6_tie_16 : decode cX6_tie 16 = .ok (.iload 4, 2) := by decide +kernel
theorem dX6_tie_18 : decode cX6_tie 18 = .ok (.invokevirtual 155, 3) := by decide +kernel
theorem dX6_tie_21 : decode cX6_tie 21 = .ok (.ifCond .ne 5, 3) := by decide +kernel
theorem dX6_tie_24 : decode cX6_tie 24 = .ok (.iconst (-1), 1) := by decide +kernel
theorem dX6_tie_25 : decode cX6_tie 25 = .ok (.ireturn, 1) := by decide +kernel
theorem dX6_tie_26 : decode cX6_tie 26 = .ok (.aload_n 0, 1) := by decide +kernel
theorem dX6_tie_27 : decode cX6_tie 27 = .ok (.iload_n 1, 1) := by decide +kernel
theorem dX6_tie_28 : decode cX6_tie 28 = .ok (.iload_n 2, 1) := by decide +kernel
theorem dX6_tie_29 : decode cX6_tie 29 = .ok (.invokevirtual 146, 3) := by decide +kernel
theorem dX6_tie_32 : decode cX6_tie 32 = .ok (.ifCond .eq 15, 3) := by decide +kernel
theorem dX6_tie_35 : decode cX6_tie 35 = .ok (.aload_n 0, 1) := by decide +kernel
theorem dX6_tie_36 : decode cX6_tie 36 = .ok (.iload_n 1, 1) := by decide +kernel
theorem dX6_tie_37 : decode cX6_tie 37 = .ok (.iload_n 2, 1) := by decide +kernel
theorem dX6_tie_38 : decode cX6_tie 38 = .ok (.iload_n 3, 1) := by decide +kernel
theorem dX6_tie_39 : decode cX6_tie 39 = .ok (.iload 4, 2) := by decide +kernel
theorem dX6_tie_41 : decode cX6_tie 41 = .ok (.invokevirtual 162, 3) := by decide +kernel
theorem dX6_tie_44 : decode cX6_tie 44 = .ok (.goto 5, 3) := by decide +kernel
theorem dX6_tie_47 : decode cX6_tie 47 = .ok (.bipush (-4), 2) := by decide +kernel
theorem dX6_tie_49 : decode cX6_tie 49 = .ok (.ireturn, 1) := by decide +kernel
theorem dX6_note_0 : decode cX6_note 0 = .ok (.aload_n 0, 1) := by decide +kernel
theorem dX6_note_1 : decode cX6_note 1 = .ok (.getfield 135, 3) := by decide +kernel
theorem dX6_note_4 : decode cX6_note 4 = .ok (.bipush 8, 2) := by decide +kernel
theorem dX6_note_6 : decode cX6_note 6 = .ok (.if_icmp .ne 44, 3) := by decide +kernel
theorem dX6_note_9 : decode cX6_note 9 = .ok (.iconst 0, 1) := by decide +kernel
theorem dX6_note_10 : decode cX6_note 10 = .ok (.istore_n 1, 1) := by decide +kernel
theorem dX6_note_11 : decode cX6_note 11 = .ok (.iload_n 1, 1) := by decide +kernel
theorem dX6_note_12 : decode cX6_note 12 = .ok (.sipush 3500, 3) := by decide +kernel
theorem dX6_note_15 : decode cX6_note 15 = .ok (.if_icmp .ge 25, 3) := by decide +kernel
theorem dX6_note_18 : decode cX6_note 18 = .ok (.aload_n 0, 1) := by decide +kernel
theorem dX6_note_19 : decode cX6_note 19 = .ok (.getfield 25, 3) := by decide +kernel
theorem dX6_note_22 : decode cX6_note 22 = .ok (.iload_n 1, 1) := by decide +kernel
theorem dX6_note_23 : decode cX6_note 23 = .ok (.aload_n 0, 1) := by decide +kernel
theorem dX6_note_24 : decode cX6_note 24 = .ok (.getfield 25, 3) := by decide +kernel
theorem dX6_note_27 : decode cX6_note 27 = .ok (.sipush 500, 3) := by decide +kernel
theorem dX6_note_30 : decode cX6_note 30 = .ok (.iload_n 1, 1) := by decide +kernel
theorem dX6_note_31 : decode cX6_note 31 = .ok (.iadd, 1) := by decide +kernel
theorem dX6_note_32 : decode cX6_note 32 = .ok (.iaload, 1) := by decide +kernel
theorem dX6_note_33 : decode cX6_note 33 = .ok (.iastore, 1) := by decide +kernel
theorem dX6_note_34 : decode cX6_note 34 = .ok (.iinc 1 1, 3) := by decide +kernel
theorem dX6_note_37 : decode cX6_note 37 = .ok (.goto (-26), 3) := by decide +kernel
theorem dX6_note_40 : decode cX6_note 40 = .ok (.aload_n 0, 1) := by decide +kernel
theorem dX6_note_41 : decode cX6_note 41 = .ok (.dup, 1) := by decide +kernel
theorem dX6_note_42 : decode cX6_note 42 = .ok (.getfield 135, 3) := by decide +kernel
theorem dX6_note_45 : decode cX6_note 45 = .ok (.iconst 1, 1) := by decide +kernel
theorem dX6_note_46 : decode cX6_note 46 = .ok (.isub, 1) := by decide +kernel
theorem dX6_note_47 : decode cX6_note 47 = .ok (.putfield 135, 3) := by decide +kernel
theorem dX6_note_50 : decode cX6_note 50 = .ok (.iconst 0, 1) := by decide +kernel
theorem dX6_note_51 : decode cX6_note 51 = .ok (.istore_n 1, 1) := by decide +kernel
theorem dX6_note_52 : decode cX6_note 52 = .ok (.iload_n 1, 1) := by decide +kernel
theorem dX6_note_53 : decode cX6_note 53 = .ok (.sipush 500, 3) := by decide +kernel
theorem dX6_note_56 : decode cX6_note 56 = .ok (.if_icmp .ge 30, 3) := by decide +kernel
theorem dX6_note_59 : decode cX6_note 59 = .ok (.aload_n 0, 1) := by decide +kernel
theorem dX6_note_60 : decode cX6_note 60 = .ok (.getfield 25, 3) := by decide +kernel
theorem dX6_note_63 : decode cX6_note 63 = .ok (.sipush 500, 3) := by decide +kernel
theorem dX6_note_66 : decode cX6_note 66 = .ok (.aload_n 0, 1) := by decide +kernel
theorem dX6_note_67 : decode cX6_note 67 = .ok (.getfield 135, 3) := by decide +kernel
theorem dX6_note_70 : decode cX6_note 70 = .ok (.imul, 1) := by decide +kernel
theorem dX6_note_71 : decode cX6_note 71 = .ok (.iload_n 1, 1) := by decide +kernel
theorem dX6_note_72 : decode cX6_note 72 = .ok (.iadd, 1) := by decide +kernel
theorem dX6_note_73 : decode cX6_note 73 = .ok (.aload_n 0, 1) := by decide +kernel
theorem dX6_note_74 : decode cX6_note 74 = .ok (.getfield 22, 3) := by decide +kernel
theorem dX6_note_77 : decode cX6_note 77 = .ok (.iload_n 1, 1) := by decide +kernel
theorem dX6_note_78 : decode cX6_note 78 = .ok (.iaload, 1) := by decide +kernel
theorem dX6_note_79 : decode cX6_note 79 = .ok (.iastore, 1) := by decide +kernel
theorem dX6_note_80 : decode cX6_note 80 = .ok (.iinc 1 1, 3) := by decide +kernel
theorem dX6_note_83 : decode cX6_note 83 = .ok (.goto (-31), 3) := by decide +kernel
theorem dX6_note_86 : decode cX6_note 86 = .ok (.aload_n 0, 1) := by decide +kernel
theorem dX6_note_87 : decode cX6_note 87 = .ok (.dup, 1) := by decide +kernel
theorem dX6_note_88 : decode cX6_note 88 = .ok (.getfield 135, 3) := by decide +kernel
theorem dX6_note_91 : decode cX6_note 91 = .ok (.iconst 1, 1) := by decide +kernel
theorem dX6_note_92 : decode cX6_note 92 = .ok (.iadd, 1) := by decide +kernel
theorem dX6_note_93 : decode cX6_note 93 = .ok (.putfield 135, 3) := by decide +kernel
theorem dX6_note_96 : decode cX6_note 96 = .ok (.return_, 1) := by decide +kernel
theorem dX6_price_0 : decode cX6_price 0 = .ok (.aload_n 0, 1) := by decide +kernel
theorem dX6_price_1 : decode cX6_price 1 = .ok (.iload_n 1, 1) := by decide +kernel
theorem dX6_price_2 : decode cX6_price 2 = .ok (.iload_n 2, 1) := by decide +kernel
theorem dX6_price_3 : decode cX6_price 3 = .ok (.invokevirtual 155, 3) := by decide +kernel
theorem dX6_price_6 : decode cX6_price 6 = .ok (.ifCond .eq 15, 3) := by decide +kernel
theorem dX6_price_9 : decode cX6_price 9 = .ok (.iload_n 3, 1) := by decide +kernel
theorem dX6_price_10 : decode cX6_price 10 = .ok (.i2l, 1) := by decide +kernel
theorem dX6_price_11 : decode cX6_price 11 = .ok (.lconst 0, 1) := by decide +kernel
theorem dX6_price_12 : decode cX6_price 12 = .ok (.ldc2_w 165, 3) := by decide +kernel
theorem dX6_price_15 : decode cX6_price 15 = .ok (.invokestatic 89, 3) := by decide +kernel
theorem dX6_price_18 : decode cX6_price 18 = .ok (.ifCond .ne 5, 3) := by decide +kernel
theorem dX6_price_21 : decode cX6_price 21 = .ok (.iconst (-1), 1) := by decide +kernel
theorem dX6_price_22 : decode cX6_price 22 = .ok (.ireturn, 1) := by decide +kernel
theorem dX6_price_23 : decode cX6_price 23 = .ok (.aload_n 0, 1) := by decide +kernel
theorem dX6_price_24 : decode cX6_price 24 = .ok (.getfield 22, 3) := by decide +kernel
theorem dX6_price_27 : decode cX6_price 27 = .ok (.iconst 4, 1) := by decide +kernel
theorem dX6_price_28 : decode cX6_price 28 = .ok (.iload_n 1, 1) := by decide +kernel
theorem dX6_price_29 : decode cX6_price 29 = .ok (.imul, 1) := by decide +kernel
theorem dX6_price_30 : decode cX6_price 30 = .ok (.iload_n 2, 1) := by decide +kernel
theorem dX6_price_31 : decode cX6_price 31 = .ok (.iadd, 1) := by decide +kernel
theorem dX6_price_32 : decode cX6_price 32 = .ok (.iaload, 1) := by decide +kernel
theorem dX6_price_33 : decode cX6_price 33 = .ok (.istore 4, 2) := by decide +kernel
theorem dX6_price_35 : decode cX6_price 35 = .ok (.iload 4, 2) := by decide +kernel
theorem dX6_price_37 : decode cX6_price 37 = .ok (.iload_n 3, 1) := by decide +kernel
theorem dX6_price_38 : decode cX6_price 38 = .ok (.if_icmp .ne 6, 3) := by decide +kernel
theorem dX6_price_41 : decode cX6_price 41 = .ok (.bipush (-2), 2) := by decide +kernel
theorem dX6_price_43 : decode cX6_price 43 = .ok (.ireturn, 1) := by decide +kernel
theorem dX6_price_44 : decode cX6_price 44 = .ok (.aload_n 0, 1) := by decide +kernel
theorem dX6_price_45 : decode cX6_price 45 = .ok (.invokevirtual 167, 3) := by decide +kernel
theorem dX6_price_48 : decode cX6_price 48 = .ok (.aload_n 0, 1) := by decide +kernel
theorem dX6_price_49 : decode cX6_price 49 = .ok (.getfield 22, 3) := by decide +kernel
theorem dX6_price_52 : decode cX6_price 52 = .ok (.iconst 4, 1) := by decide +kernel
theorem dX6_price_53 : decode cX6_price 53 = .ok (.iload_n 1, 1) := by decide +kernel
theorem dX6_price_54 : decode cX6_price 54 = .ok (.imul, 1) := by decide +kernel
theorem dX6_price_55 : decode cX6_price 55 = .ok (.iload_n 2, 1) := by decide +kernel
theorem dX6_price_56 : decode cX6_price 56 = .ok (.iadd, 1) := by decide +kernel
theorem dX6_price_57 : decode cX6_price 57 = .ok (.iload_n 3, 1) := by decide +kernel
theorem dX6_price_58 : decode cX6_price 58 = .ok (.iastore, 1) := by decide +kernel
theorem dX6_price_59 : decode cX6_price 59 = .ok (.iload 4, 2) := by decide +kernel
theorem dX6_price_61 : decode cX6_price 61 = .ok (.ireturn, 1) := by decide +kernel
theorem dX6_table_0 : decode cX6_table 0 = .ok (.iload_n 1, 1) := by decide +kernel
theorem dX6_table_1 : decode cX6_table 1 = .ok (.iload_n 2, 1) := by decide +kernel
theorem dX6_table_2 : decode cX6_table 2 = .ok (.if_icmp .eq 35, 3) := by decide +kernel
theorem dX6_table_5 : decode cX6_table 5 = .ok (.aload_n 0, 1) := by decide +kernel
theorem dX6_table_6 : decode cX6_table 6 = .ok (.iload_n 1, 1) := by decide +kernel
theorem dX6_table_7 : decode cX6_table 7 = .ok (.iload_n 3, 1) := by decide +kernel
theorem dX6_table_8 : decode cX6_table 8 = .ok (.invokevirtual 155, 3) := by decide +kernel
theorem dX6_table_11 : decode cX6_table 11 = .ok (.ifCond .eq 26, 3) := by decide +kernel
theorem dX6_table_14 : decode cX6_table 14 = .ok (.aload_n 0, 1) := by decide +kernel
theorem dX6_table_15 : decode cX6_table 15 = .ok (.iload_n 2, 1) := by decide +kernel
theorem dX6_table_16 : decode cX6_table 16 = .ok (.iload 4, 2) := by decide +kernel
theorem dX6_table_18 : decode cX6_table 18 = .ok (.invokevirtual 155, 3) := by decide +kernel
theorem dX6_table_21 : decode cX6_table 21 = .ok (.ifCond .eq 16, 3) := by decide +kernel
theorem dX6_table_24 : decode cX6_table 24 = .ok (.iload 5, 2) := by decide +kernel
theorem dX6_table_26 : decode cX6_table 26 = .ok (.i2l, 1) := by decide +kernel
theorem dX6_table_27 : decode cX6_table 27 = .ok (.lconst 0, 1) := by decide +kernel
theorem dX6_table_28 : decode cX6_table 28 = .ok (.ldc2_w 120, 3) := by decide +kernel
theorem dX6_table_31 : decode cX6_table 31 = .ok (.invokestatic 89, 3) := by decide +kernel
theorem dX6_table_34 : decode cX6_table 34 = .ok (.ifCond .ne 5, 3) := by decide +kernel
theorem dX6_table_37 : decode cX6_table 37 = .ok (.iconst (-1), 1) := by decide +kernel
theorem dX6_table_38 : decode cX6_table 38 = .ok (.ireturn, 1) := by decide +kernel
theorem dX6_table_39 : decode cX6_table 39 = .ok (.aload_n 0, 1) := by decide +kernel
theorem dX6_table_40 : decode cX6_table 40 = .ok (.iload_n 1, 1) := by decide +kernel
theorem dX6_table_41 : decode cX6_table 41 = .ok (.iload_n 2, 1) := by decide +kernel
theorem dX6_table_42 : decode cX6_table 42 = .ok (.invokevirtual 146, 3) := by decide +kernel
theorem dX6_table_45 : decode cX6_table 45 = .ok (.istore 6, 2) := by decide +kernel
theorem dX6_table_47 : decode cX6_table 47 = .ok (.iload 6, 2) := by decide +kernel
theorem dX6_table_49 : decode cX6_table 49 = .ok (.ifCond .eq 21, 3) := by decide +kernel
theorem dX6_table_52 : decode cX6_table 52 = .ok (.aload_n 0, 1) := by decide +kernel
theorem dX6_table_53 : decode cX6_table 53 = .ok (.getfield 22, 3) := by decide +kernel
theorem dX6_table_56 : decode cX6_table 56 = .ok (.iload_n 1, 1) := by decide +kernel
theorem dX6_table_57 : decode cX6_table 57 = .ok (.iload_n 2, 1) := by decide +kernel
theorem dX6_table_58 : decode cX6_table 58 = .ok (.iload_n 3, 1) := by decide +kernel
theorem dX6_table_59 : decode cX6_table 59 = .ok (.iload 4, 2) := by decide +kernel
theorem dX6_table_61 : decode cX6_table 61 = .ok (.invokestatic 81, 3) := by decide +kernel
theorem dX6_table_64 : decode cX6_table 64 = .ok (.iaload, 1) := by decide +kernel
theorem dX6_table_65 : decode cX6_table 65 = .ok (.iconst 1, 1) := by decide +kernel
theorem dX6_table_66 : decode cX6_table 66 = .ok (.isub, 1) := by decide +kernel
theorem dX6_table_67 : decode cX6_table 67 = .ok (.goto 4, 3) := by decide +kernel
theorem dX6_table_70 : decode cX6_table 70 = .ok (.iconst 0, 1) := by decide +kernel
theorem dX6_table_71 : decode cX6_table 71 = .ok (.istore 7, 2) := by decide +kernel
theorem dX6_table_73 : decode cX6_table 73 = .ok (.iload 6, 2) := by decide +kernel
theorem dX6_table_75 : decode cX6_table 75 = .ok (.ifCond .eq 13, 3) := by decide +kernel
theorem dX6_table_78 : decode cX6_table 78 = .ok (.iload 7, 2) := by decide +kernel
theorem dX6_table_80 : decode cX6_table 80 = .ok (.iload 5, 2) := by decide +kernel
theorem dX6_table_82 : decode cX6_table 82 = .ok (.if_icmp .ne 6, 3) := by decide +kernel
theorem dX6_table_85 : decode cX6_table 85 = .ok (.bipush (-2), 2) := by decide +kernel
theorem dX6_table_87 : decode cX6_table 87 = .ok (.ireturn, 1) := by decide +kernel
theorem dX6_table_88 : decode cX6_table 88 = .ok (.iload 6, 2) := by decide +kernel
theorem dX6_table_90 : decode cX6_table 90 = .ok (.ifCond .ne 18, 3) := by decide +kernel
theorem dX6_table_93 : decode cX6_table 93 = .ok (.aload_n 0, 1) := by decide +kernel
theorem dX6_table_94 : decode cX6_table 94 = .ok (.getfield 22, 3) := by decide +kernel
theorem dX6_table_97 : decode cX6_table 97 = .ok (.invokestatic 116, 3) := by decide +kernel
theorem dX6_table_100 : decode cX6_table 100 = .ok (.bipush 12, 2) := by decide +kernel
theorem dX6_table_102 : decode cX6_table 102 = .ok (.if_icmp .ne 6, 3) := by decide +kernel
theorem dX6_table_105 : decode cX6_table 105 = .ok (.bipush (-3), 2) := by decide +kernel
theorem dX6_table_107 : decode cX6_table 107 = .ok (.ireturn, 1) := by decide +kernel
theorem dX6_table_108 : decode cX6_table 108 = .ok (.aload_n 0, 1) := by decide +kernel
theorem dX6_table_109 : decode cX6_table 109 = .ok (.invokevirtual 167, 3) := by decide +kernel
theorem dX6_table_112 : decode cX6_table 112 = .ok (.iconst 0, 1) := by decide +kernel
theorem dX6_table_113 : decode cX6_table 113 = .ok (.istore 8, 2) := by decide +kernel
theorem dX6_table_115 : decode cX6_table 115 = .ok (.iload 8, 2) := by decide +kernel
theorem dX6_table_117 : decode cX6_table 117 = .ok (.aload_n 0, 1) := by decide +kernel
theorem dX6_table_118 : decode cX6_table 118 = .ok (.getfield 13, 3) := by decide +kernel
theorem dX6_table_121 : decode cX6_table 121 = .ok (.iload_n 1, 1) := by decide +kernel
theorem dX6_table_122 : decode cX6_table 122 = .ok (.iaload, 1) := by decide +kernel
theorem dX6_table_123 : decode cX6_table 123 = .ok (.aload_n 0, 1) := by decide +kernel
theorem dX6_table_124 : decode cX6_table 124 = .ok (.getfield 13, 3) := by decide +kernel
theorem dX6_table_127 : decode cX6_table 127 = .ok (.iload_n 2, 1) := by decide +kernel
theorem dX6_table_128 : decode cX6_table 128 = .ok (.iaload, 1) := by decide +kernel
theorem dX6_table_129 : decode cX6_table 129 = .ok (.imul, 1) := by decide +kernel
theorem dX6_table_130 : decode cX6_table 130 = .ok (.if_icmp .ge 43, 3) := by decide +kernel
theorem dX6_table_133 : decode cX6_table 133 = .ok (.iload 6, 2) := by decide +kernel
theorem dX6_table_135 : decode cX6_table 135 = .ok (.ifCond .ne 38, 3) := by decide +kernel
theorem dX6_table_138 : decode cX6_table 138 = .ok (.aload_n 0, 1) := by decide +kernel
theorem dX6_table_139 : decode cX6_table 139 = .ok (.getfield 22, 3) := by decide +kernel
theorem dX6_table_142 : decode cX6_table 142 = .ok (.iload_n 1, 1) := by decide +kernel
theorem dX6_table_143 : decode cX6_table 143 = .ok (.iload_n 2, 1) := by decide +kernel
theorem dX6_table_144 : decode cX6_table 144 = .ok (.iload 8, 2) := by decide +kernel
theorem dX6_table_146 : decode cX6_table 146 = .ok (.aload_n 0, 1) := by decide +kernel
theorem dX6_table_147 : decode cX6_table 147 = .ok (.getfield 13, 3) := by decide +kernel
theorem dX6_table_150 : decode cX6_table 150 = .ok (.iload_n 2, 1) := by decide +kernel
theorem dX6_table_151 : decode cX6_table 151 = .ok (.iaload, 1) := by decide +kernel
theorem dX6_table_152 : decode cX6_table 152 = .ok (.idiv, 1) := by decide +kernel
theorem dX6_table_153 : decode cX6_table 153 = .ok (.iload 8, 2) := by decide +kernel
theorem dX6_table_155 : decode cX6_table 155 = .ok (.aload_n 0, 1) := by decide +kernel
theorem dX6_table_156 : decode cX6_table 156 = .ok (.getfield 13, 3) := by decide +kernel
theorem dX6_table_159 : decode cX6_table 159 = .ok (.iload_n 2, 1) := by decide +kernel
theorem dX6_table_160 : decode cX6_table 160 = .ok (.iaload, 1) := by decide +kernel
theorem dX6_table_161 : decode cX6_table 161 = .ok (.irem, 1) := by decide +kernel
theorem dX6_table_162 : decode cX6_table 162 = .ok (.invokestatic 81, 3) := by decide +kernel
theorem dX6_table_165 : decode cX6_table 165 = .ok (.iconst 1, 1) := by decide +kernel
theorem dX6_table_166 : decode cX6_table 166 = .ok (.iastore, 1) := by decide +kernel
theorem dX6_table_167 : decode cX6_table 167 = .ok (.iinc 8 1, 3) := by decide +kernel
theorem dX6_table_170 : decode cX6_table 170 = .ok (.goto (-55), 3) := by decide +kernel
theorem dX6_table_173 : decode cX6_table 173 = .ok (.aload_n 0, 1) := by decide +kernel
theorem dX6_table_174 : decode cX6_table 174 = .ok (.getfield 22, 3) := by decide +kernel
theorem dX6_table_177 : decode cX6_table 177 = .ok (.iload_n 1, 1) := by decide +kernel
theorem dX6_table_178 : decode cX6_table 178 = .ok (.iload_n 2, 1) := by decide +kernel
theorem dX6_table_179 : decode cX6_table 179 = .ok (.iload_n 3, 1) := by decide +kernel
theorem dX6_table_180 : decode cX6_table 180 = .ok (.iload 4, 2) := by decide +kernel
theorem dX6_table_182 : decode cX6_table 182 = .ok (.invokestatic 81, 3) := by decide +kernel
theorem dX6_table_185 : decode cX6_table 185 = .ok (.iconst 1, 1) := by decide +kernel
theorem dX6_table_186 : decode cX6_table 186 = .ok (.iload 5, 2) := by decide +kernel
theorem dX6_table_188 : decode cX6_table 188 = .ok (.iadd, 1) := by decide +kernel
theorem dX6_table_189 : decode cX6_table 189 = .ok (.iastore, 1) := by decide +kernel
theorem dX6_table_190 : decode cX6_table 190 = .ok (.iload 7, 2) := by decide +kernel
theorem dX6_table_192 : decode cX6_table 192 = .ok (.ireturn, 1) := by decide +kernel
theorem dX6_loose_0 : decode cX6_loose 0 = .ok (.aload_n 0, 1) := by decide +kernel
theorem dX6_loose_1 : decode cX6_loose 1 = .ok (.iload_n 1, 1) := by decide +kernel
theorem dX6_loose_2 : decode cX6_loose 2 = .ok (.iload_n 2, 1) := by decide +kernel
theorem dX6_loose_3 : decode cX6_loose 3 = .ok (.invokevirtual 170, 3) := by decide +kernel
theorem dX6_loose_6 : decode cX6_loose 6 = .ok (.ifCond .ne 5, 3) := by decide +kernel
theorem dX6_loose_9 : decode cX6_loose 9 = .ok (.iconst (-1), 1) := by decide +kernel
theorem dX6_loose_10 : decode cX6_loose 10 = .ok (.ireturn, 1) := by decide +kernel
theorem dX6_loose_11 : decode cX6_loose 11 = .ok (.aload_n 0, 1) := by decide +kernel
theorem dX6_loose_12 : decode cX6_loose 12 = .ok (.iload_n 1, 1) := by decide +kernel
theorem dX6_loose_13 : decode cX6_loose 13 = .ok (.iload_n 2, 1) := by decide +kernel
theorem dX6_loose_14 : decode cX6_loose 14 = .ok (.invokevirtual 146, 3) := by decide +kernel
theorem dX6_loose_17 : decode cX6_loose 17 = .ok (.ifCond .ne 6, 3) := by decide +kernel
theorem dX6_loose_20 : decode cX6_loose 20 = .ok (.bipush (-2), 2) := by decide +kernel
theorem dX6_loose_22 : decode cX6_loose 22 = .ok (.ireturn, 1) := by decide +kernel
theorem dX6_loose_23 : decode cX6_loose 23 = .ok (.aload_n 0, 1) := by decide +kernel
theorem dX6_loose_24 : decode cX6_loose 24 = .ok (.invokevirtual 167, 3) := by decide +kernel
theorem dX6_loose_27 : decode cX6_loose 27 = .ok (.aload_n 0, 1) := by decide +kernel
theorem dX6_loose_28 : decode cX6_loose 28 = .ok (.iload_n 1, 1) := by decide +kernel
theorem dX6_loose_29 : decode cX6_loose 29 = .ok (.iload_n 2, 1) := by decide +kernel
theorem dX6_loose_30 : decode cX6_loose 30 = .ok (.invokevirtual 173, 3) := by decide +kernel
theorem dX6_loose_33 : decode cX6_loose 33 = .ok (.aload_n 0, 1) := by decide +kernel
theorem dX6_loose_34 : decode cX6_loose 34 = .ok (.getfield 22, 3) := by decide +kernel
theorem dX6_loose_37 : decode cX6_loose 37 = .ok (.invokestatic 116, 3) := by decide +kernel
theorem dX6_loose_40 : decode cX6_loose 40 = .ok (.ireturn, 1) := by decide +kernel
theorem dX6_looseNow_0 : decode cX6_looseNow 0 = .ok (.iconst 0, 1) := by decide +kernel
theorem dX6_looseNow_1 : decode cX6_looseNow 1 = .ok (.istore_n 3, 1) := by decide +kernel
theorem dX6_looseNow_2 : decode cX6_looseNow 2 = .ok (.iload_n 3, 1) := by decide +kernel
theorem dX6_looseNow_3 : decode cX6_looseNow 3 = .ok (.bipush 16, 2) := by decide +kernel
theorem dX6_looseNow_5 : decode cX6_looseNow 5 = .ok (.if_icmp .ge 26, 3) := by decide +kernel
theorem dX6_looseNow_8 : decode cX6_looseNow 8 = .ok (.aload_n 0, 1) := by decide +kernel
theorem dX6_looseNow_9 : decode cX6_looseNow 9 = .ok (.getfield 22, 3) := by decide +kernel
theorem dX6_looseNow_12 : decode cX6_looseNow 12 = .ok (.iload_n 1, 1) := by decide +kernel
theorem dX6_looseNow_13 : decode cX6_looseNow 13 = .ok (.iload_n 2, 1) := by decide +kernel
theorem dX6_looseNow_14 : decode cX6_looseNow 14 = .ok (.iload_n 3, 1) := by decide +kernel
theorem dX6_looseNow_15 : decode cX6_looseNow 15 = .ok (.iconst 4, 1) := by decide +kernel
theorem dX6_looseNow_16 : decode cX6_looseNow 16 = .ok (.idiv, 1) := by decide +kernel
theorem dX6_looseNow_17 : decode cX6_looseNow 17 = .ok (.iload_n 3, 1) := by decide +kernel
theorem dX6_looseNow_18 : decode cX6_looseNow 18 = .ok (.iconst 4, 1) := by decide +kernel
theorem dX6_looseNow_19 : decode cX6_looseNow 19 = .ok (.irem, 1) := by decide +kernel
theorem dX6_looseNow_20 : decode cX6_looseNow 20 = .ok (.invokestatic 81, 3) := by decide +kernel
theorem dX6_looseNow_23 : decode cX6_looseNow 23 = .ok (.iconst 0, 1) := by decide +kernel
theorem dX6_looseNow_24 : decode cX6_looseNow 24 = .ok (.iastore, 1) := by decide +kernel
theorem dX6_looseNow_25 : decode cX6_looseNow 25 = .ok (.iinc 3 1, 3) := by decide +kernel
theorem dX6_looseNow_28 : decode cX6_looseNow 28 = .ok (.goto (-26), 3) := by decide +kernel
theorem dX6_looseNow_31 : decode cX6_looseNow 31 = .ok (.return_, 1) := by decide +kernel
theorem dX6_pin_0 : decode cX6_pin 0 = .ok (.aload_n 0, 1) := by decide +kernel
theorem dX6_pin_1 : decode cX6_pin 1 = .ok (.iload_n 1, 1) := by decide +kernel
theorem dX6_pin_2 : decode cX6_pin 2 = .ok (.invokevirtual 141, 3) := by decide +kernel
theorem dX6_pin_5 : decode cX6_pin 5 = .ok (.ifCond .eq 23, 3) := by decide +kernel
theorem dX6_pin_8 : decode cX6_pin 8 = .ok (.iload_n 2, 1) := by decide +kernel
theorem dX6_pin_9 : decode cX6_pin 9 = .ok (.i2l, 1) := by decide +kernel
theorem dX6_pin_10 : decode cX6_pin 10 = .ok (.ldc2_w 177, 3) := by decide +kernel
theorem dX6_pin_13 : decode cX6_pin 13 = .ok (.aload_n 0, 1) := by decide +kernel
theorem dX6_pin_14 : decode cX6_pin 14 = .ok (.getfield 13, 3) := by decide +kernel
theorem dX6_pin_17 : decode cX6_pin 17 = .ok (.iload_n 1, 1) := by decide +kernel
theorem dX6_pin_18 : decode cX6_pin 18 = .ok (.iaload, 1) := by decide +kernel
theorem dX6_pin_19 : decode cX6_pin 19 = .ok (.iconst 1, 1) := by decide +kernel
theorem dX6_pin_20 : decode cX6_pin 20 = .ok (.isub, 1) := by decide +kernel
theorem dX6_pin_21 : decode cX6_pin 21 = .ok (.i2l, 1) := by decide +kernel
theorem dX6_pin_22 : decode cX6_pin 22 = .ok (.invokestatic 89, 3) := by decide +kernel
theorem dX6_pin_25 : decode cX6_pin 25 = .ok (.ifCond .ne 5, 3) := by decide +kernel
theorem dX6_pin_28 : decode cX6_pin 28 = .ok (.iconst (-1), 1) := by decide +kernel
theorem dX6_pin_29 : decode cX6_pin 29 = .ok (.ireturn, 1) := by decide +kernel
theorem dX6_pin_30 : decode cX6_pin 30 = .ok (.aload_n 0, 1) := by decide +kernel
theorem dX6_pin_31 : decode cX6_pin 31 = .ok (.getfield 22, 3) := by decide +kernel
theorem dX6_pin_34 : decode cX6_pin 34 = .ok (.bipush 40, 2) := by decide +kernel
theorem dX6_pin_36 : decode cX6_pin 36 = .ok (.iload_n 1, 1) := by decide +kernel
theorem dX6_pin_37 : decode cX6_pin 37 = .ok (.iadd, 1) := by decide +kernel
theorem dX6_pin_38 : decode cX6_pin 38 = .ok (.iaload, 1) := by decide +kernel
theorem dX6_pin_39 : decode cX6_pin 39 = .ok (.iconst 1, 1) := by decide +kernel
theorem dX6_pin_40 : decode cX6_pin 40 = .ok (.isub, 1) := by decide +kernel
theorem dX6_pin_41 : decode cX6_pin 41 = .ok (.istore_n 3, 1) := by decide +kernel
theorem dX6_pin_42 : decode cX6_pin 42 = .ok (.iload_n 3, 1) := by decide +kernel
theorem dX6_pin_43 : decode cX6_pin 43 = .ok (.iload_n 2, 1) := by decide +kernel
theorem dX6_pin_44 : decode cX6_pin 44 = .ok (.if_icmp .ne 6, 3) := by decide +kernel
theorem dX6_pin_47 : decode cX6_pin 47 = .ok (.bipush (-2), 2) := by decide +kernel
theorem dX6_pin_49 : decode cX6_pin 49 = .ok (.ireturn, 1) := by decide +kernel
theorem dX6_pin_50 : decode cX6_pin 50 = .ok (.aload_n 0, 1) := by decide +kernel
theorem dX6_pin_51 : decode cX6_pin 51 = .ok (.invokevirtual 167, 3) := by decide +kernel
theorem dX6_pin_54 : decode cX6_pin 54 = .ok (.aload_n 0, 1) := by decide +kernel
theorem dX6_pin_55 : decode cX6_pin 55 = .ok (.getfield 22, 3) := by decide +kernel
theorem dX6_pin_58 : decode cX6_pin 58 = .ok (.bipush 40, 2) := by decide +kernel
theorem dX6_pin_60 : decode cX6_pin 60 = .ok (.iload_n 1, 1) := by decide +kernel
theorem dX6_pin_61 : decode cX6_pin 61 = .ok (.iadd, 1) := by decide +kernel
theorem dX6_pin_62 : decode cX6_pin 62 = .ok (.iload_n 2, 1) := by decide +kernel
theorem dX6_pin_63 : decode cX6_pin 63 = .ok (.iconst 1, 1) := by decide +kernel
theorem dX6_pin_64 : decode cX6_pin 64 = .ok (.iadd, 1) := by decide +kernel
theorem dX6_pin_65 : decode cX6_pin 65 = .ok (.iastore, 1) := by decide +kernel
theorem dX6_pin_66 : decode cX6_pin 66 = .ok (.iload_n 3, 1) := by decide +kernel
theorem dX6_pin_67 : decode cX6_pin 67 = .ok (.ifCond .ge 8, 3) := by decide +kernel
theorem dX6_pin_70 : decode cX6_pin 70 = .ok (.bipush (-4), 2) := by decide +kernel
theorem dX6_pin_72 : decode cX6_pin 72 = .ok (.goto 4, 3) := by decide +kernel
theorem dX6_pin_75 : decode cX6_pin 75 = .ok (.iload_n 3, 1) := by decide +kernel
theorem dX6_pin_76 : decode cX6_pin 76 = .ok (.ireturn, 1) := by decide +kernel
theorem dX6_rename_0 : decode cX6_rename 0 = .ok (.aload_n 0, 1) := by decide +kernel
theorem dX6_rename_1 : decode cX6_rename 1 = .ok (.iload_n 1, 1) := by decide +kernel
theorem dX6_rename_2 : decode cX6_rename 2 = .ok (.invokevirtual 141, 3) := by decide +kernel
theorem dX6_rename_5 : decode cX6_rename 5 = .ok (.ifCond .eq 15, 3) := by decide +kernel
theorem dX6_rename_8 : decode cX6_rename 8 = .ok (.iload_n 2, 1) := by decide +kernel
theorem dX6_rename_9 : decode cX6_rename 9 = .ok (.i2l, 1) := by decide +kernel
theorem dX6_rename_10 : decode cX6_rename 10 = .ok (.lconst 0, 1) := by decide +kernel
theorem dX6_rename_11 : decode cX6_rename 11 = .ok (.ldc2_w 150, 3) := by decide +kernel
theorem dX6_rename_14 : decode cX6_rename 14 = .ok (.invokestatic 89, 3) := by decide +kernel
theorem dX6_rename_17 : decode cX6_rename 17 = .ok (.ifCond .ne 5, 3) := by decide +kernel
theorem dX6_rename_20 : decode cX6_rename 20 = .ok (.iconst (-1), 1) := by decide +kernel
theorem dX6_rename_21 : decode cX6_rename 21 = .ok (.ireturn, 1) := by decide +kernel
theorem dX6_rename_22 : decode cX6_rename 22 = .ok (.aload_n 0, 1) := by decide +kernel
theorem dX6_rename_23 : decode cX6_rename 23 = .ok (.getfield 22, 3) := by decide +kernel
theorem dX6_rename_26 : decode cX6_rename 26 = .ok (.bipush 32, 2) := by decide +kernel
theorem dX6_rename_28 : decode cX6_rename 28 = .ok (.iload_n 1, 1) := by decide +kernel
theorem dX6_rename_29 : decode cX6_rename 29 = .ok (.iadd, 1) := by decide +kernel
theorem dX6_rename_30 : decode cX6_rename 30 = .ok (.iaload, 1) := by decide +kernel
theorem dX6_rename_31 : decode cX6_rename 31 = .ok (.istore_n 3, 1) := by decide +kernel
theorem dX6_rename_32 : decode cX6_rename 32 = .ok (.iload_n 3, 1) := by decide +kernel
theorem dX6_rename_33 : decode cX6_rename 33 = .ok (.iload_n 2, 1) := by decide +kernel
theorem dX6_rename_34 : decode cX6_rename 34 = .ok (.if_icmp .ne 6, 3) := by decide +kernel
theorem dX6_rename_37 : decode cX6_rename 37 = .ok (.bipush (-2), 2) := by decide +kernel
theorem dX6_rename_39 : decode cX6_rename 39 = .ok (.ireturn, 1) := by decide +kernel
theorem dX6_rename_40 : decode cX6_rename 40 = .ok (.aload_n 0, 1) := by decide +kernel
theorem dX6_rename_41 : decode cX6_rename 41 = .ok (.invokevirtual 167, 3) := by decide +kernel
theorem dX6_rename_44 : decode cX6_rename 44 = .ok (.aload_n 0, 1) := by decide +kernel
theorem dX6_rename_45 : decode cX6_rename 45 = .ok (.getfield 22, 3) := by decide +kernel
theorem dX6_rename_48 : decode cX6_rename 48 = .ok (.bipush 32, 2) := by decide +kernel
theorem dX6_rename_50 : decode cX6_rename 50 = .ok (.iload_n 1, 1) := by decide +kernel
theorem dX6_rename_51 : decode cX6_rename 51 = .ok (.iadd, 1) := by decide +kernel
theorem dX6_rename_52 : decode cX6_rename 52 = .ok (.iload_n 2, 1) := by decide +kernel
theorem dX6_rename_53 : decode cX6_rename 53 = .ok (.iastore, 1) := by decide +kernel
theorem dX6_rename_54 : decode cX6_rename 54 = .ok (.iload_n 3, 1) := by decide +kernel
theorem dX6_rename_55 : decode cX6_rename 55 = .ok (.ireturn, 1) := by decide +kernel
theorem dX6_undo_0 : decode cX6_undo 0 = .ok (.aload_n 0, 1) := by decide +kernel
theorem dX6_undo_1 : decode cX6_undo 1 = .ok (.getfield 135, 3) := by decide +kernel
theorem dX6_undo_4 : decode cX6_undo 4 = .ok (.ifCond .ne 6, 3) := by decide +kernel
theorem dX6_undo_7 : decode cX6_undo 7 = .ok (.bipush (-2), 2) := by decide +kernel
theorem dX6_undo_9 : decode cX6_undo 9 = .ok (.ireturn, 1) := by decide +kernel
theorem dX6_undo_10 : decode cX6_undo 10 = .ok (.aload_n 0, 1) := by decide +kernel
theorem dX6_undo_11 : decode cX6_undo 11 = .ok (.dup, 1) := by decide +kernel
theorem dX6_undo_12 : decode cX6_undo 12 = .ok (.getfield 135, 3) := by decide +kernel
theorem dX6_undo_15 : decode cX6_undo 15 = .ok (.iconst 1, 1) := by decide +kernel
theorem dX6_undo_16 : decode cX6_undo 16 = .ok (.isub, 1) := by decide +kernel
theorem dX6_undo_17 : decode cX6_undo 17 = .ok (.putfield 135, 3) := by decide +kernel
theorem dX6_undo_20 : decode cX6_undo 20 = .ok (.iconst 0, 1) := by decide +kernel
theorem dX6_undo_21 : decode cX6_undo 21 = .ok (.istore_n 1, 1) := by decide +kernel
theorem dX6_undo_22 : decode cX6_undo 22 = .ok (.iload_n 1, 1) := by decide +kernel
theorem dX6_undo_23 : decode cX6_undo 23 = .ok (.sipush 500, 3) := by decide +kernel
theorem dX6_undo_26 : decode cX6_undo 26 = .ok (.if_icmp .ge 30, 3) := by decide +kernel
theorem dX6_undo_29 : decode cX6_undo 29 = .ok (.aload_n 0, 1) := by decide +kernel
theorem dX6_undo_30 : decode cX6_undo 30 = .ok (.getfield 22, 3) := by decide +kernel
theorem dX6_undo_33 : decode cX6_undo 33 = .ok (.iload_n 1, 1) := by decide +kernel
theorem dX6_undo_34 : decode cX6_undo 34 = .ok (.aload_n 0, 1) := by decide +kernel
theorem dX6_undo_35 : decode cX6_undo 35 = .ok (.getfield 25, 3) := by decide +kernel
theorem dX6_undo_38 : decode cX6_undo 38 = .ok (.sipush 500, 3) := by decide +kernel
theorem dX6_undo_41 : decode cX6_undo 41 = .ok (.aload_n 0, 1) := by decide +kernel
theorem dX6_undo_42 : decode cX6_undo 42 = .ok (.getfield 135, 3) := by decide +kernel
theorem dX6_undo_45 : decode cX6_undo 45 = .ok (.imul, 1) := by decide +kernel
theorem dX6_undo_46 : decode cX6_undo 46 = .ok (.iload_n 1, 1) := by decide +kernel
theorem dX6_undo_47 : decode cX6_undo 47 = .ok (.iadd, 1) := by decide +kernel
theorem dX6_undo_48 : decode cX6_undo 48 = .ok (.iaload, 1) := by decide +kernel
theorem dX6_undo_49 : decode cX6_undo 49 = .ok (.iastore, 1) := by decide +kernel
theorem dX6_undo_50 : decode cX6_undo 50 = .ok (.iinc 1 1, 3) := by decide +kernel
theorem dX6_undo_53 : decode cX6_undo 53 = .ok (.goto (-31), 3) := by decide +kernel
theorem dX6_undo_56 : decode cX6_undo 56 = .ok (.aload_n 0, 1) := by decide +kernel
theorem dX6_undo_57 : decode cX6_undo 57 = .ok (.getfield 135, 3) := by decide +kernel
theorem dX6_undo_60 : decode cX6_undo 60 = .ok (.ireturn, 1) := by decide +kernel
theorem dX6_tableAt_0 : decode cX6_tableAt 0 = .ok (.sipush 128, 3) := by decide +kernel
theorem dX6_tableAt_3 : decode cX6_tableAt 3 = .ok (.iload_n 0, 1) := by decide +kernel
theorem dX6_tableAt_4 : decode cX6_tableAt 4 = .ok (.imul, 1) := by decide +kernel
theorem dX6_tableAt_5 : decode cX6_tableAt 5 = .ok (.bipush 16, 2) := by decide +kernel
theorem dX6_tableAt_7 : decode cX6_tableAt 7 = .ok (.iload_n 1, 1) := by decide +kernel
theorem dX6_tableAt_8 : decode cX6_tableAt 8 = .ok (.imul, 1) := by decide +kernel
theorem dX6_tableAt_9 : decode cX6_tableAt 9 = .ok (.iadd, 1) := by decide +kernel
theorem dX6_tableAt_10 : decode cX6_tableAt 10 = .ok (.iconst 4, 1) := by decide +kernel
theorem dX6_tableAt_11 : decode cX6_tableAt 11 = .ok (.iload_n 2, 1) := by decide +kernel
theorem dX6_tableAt_12 : decode cX6_tableAt 12 = .ok (.imul, 1) := by decide +kernel
theorem dX6_tableAt_13 : decode cX6_tableAt 13 = .ok (.iadd, 1) := by decide +kernel
theorem dX6_tableAt_14 : decode cX6_tableAt 14 = .ok (.iload_n 3, 1) := by decide +kernel
theorem dX6_tableAt_15 : decode cX6_tableAt 15 = .ok (.iadd, 1) := by decide +kernel
theorem dX6_tableAt_16 : decode cX6_tableAt 16 = .ok (.ireturn, 1) := by decide +kernel
theorem dX6_aside_0 : decode cX6_aside 0 = .ok (.iconst 0, 1) := by decide +kernel
theorem dX6_aside_1 : decode cX6_aside 1 = .ok (.istore_n 1, 1) := by decide +kernel
theorem dX6_aside_2 : decode cX6_aside 2 = .ok (.iload_n 1, 1) := by decide +kernel
theorem dX6_aside_3 : decode cX6_aside 3 = .ok (.aload_n 0, 1) := by decide +kernel
theorem dX6_aside_4 : decode cX6_aside 4 = .ok (.getfield 132, 3) := by decide +kernel
theorem dX6_aside_7 : decode cX6_aside 7 = .ok (.if_icmp .ge 173, 3) := by decide +kernel
theorem dX6_aside_10 : decode cX6_aside 10 = .ok (.aload_n 0, 1) := by decide +kernel
theorem dX6_aside_11 : decode cX6_aside 11 = .ok (.getfield 37, 3) := by decide +kernel
theorem dX6_aside_14 : decode cX6_aside 14 = .ok (.iload_n 1, 1) := by decide +kernel
theorem dX6_aside_15 : decode cX6_aside 15 = .ok (.iconst 0, 1) := by decide +kernel
theorem dX6_aside_16 : decode cX6_aside 16 = .ok (.iastore, 1) := by decide +kernel
theorem dX6_aside_17 : decode cX6_aside 17 = .ok (.iconst 0, 1) := by decide +kernel
theorem dX6_aside_18 : decode cX6_aside 18 = .ok (.istore_n 2, 1) := by decide +kernel
theorem dX6_aside_19 : decode cX6_aside 19 = .ok (.iload_n 2, 1) := by decide +kernel
theorem dX6_aside_20 : decode cX6_aside 20 = .ok (.aload_n 0, 1) := by decide +kernel
theorem dX6_aside_21 : decode cX6_aside 21 = .ok (.getfield 13, 3) := by decide +kernel
theorem dX6_aside_24 : decode cX6_aside 24 = .ok (.iload_n 1, 1) := by decide +kernel
theorem dX6_aside_25 : decode cX6_aside 25 = .ok (.iaload, 1) := by decide +kernel
theorem dX6_aside_26 : decode cX6_aside 26 = .ok (.if_icmp .ge 25, 3) := by decide +kernel
theorem dX6_aside_29 : decode cX6_aside 29 = .ok (.aload_n 0, 1) := by decide +kernel
theorem dX6_aside_30 : decode cX6_aside 30 = .ok (.getfield 31, 3) := by decide +kernel
theorem dX6_aside_33 : decode cX6_aside 33 = .ok (.iconst 4, 1) := by decide +kernel
theorem dX6_aside_34 : decode cX6_aside 34 = .ok (.iload_n 1, 1) := by decide +kernel
theorem dX6_aside_35 : decode cX6_aside 35 = .ok (.imul, 1) := by decide +kernel
theorem dX6_aside_36 : decode cX6_aside 36 = .ok (.iload_n 2, 1) := by decide +kernel
theorem dX6_aside_37 : decode cX6_aside 37 = .ok (.iadd, 1) := by decide +kernel
theorem dX6_aside_38 : decode cX6_aside 38 = .ok (.aload_n 0, 1) := by decide +kernel
theorem dX6_aside_39 : decode cX6_aside 39 = .ok (.iload_n 1, 1) := by decide +kernel
theorem dX6_aside_40 : decode cX6_aside 40 = .ok (.iload_n 2, 1) := by decide +kernel
theorem dX6_aside_41 : decode cX6_aside 41 = .ok (.invokevirtual 158, 3) := by decide +kernel
theorem dX6_aside_44 : decode cX6_aside 44 = .ok (.iastore, 1) := by decide +kernel
theorem dX6_aside_45 : decode cX6_aside 45 = .ok (.iinc 2 1, 3) := by decide +kernel
theorem dX6_aside_48 : decode cX6_aside 48 = .ok (.goto (-29), 3) := by decide +kernel
theorem dX6_aside_51 : decode cX6_aside 51 = .ok (.iconst 0, 1) := by decide +kernel
theorem dX6_aside_52 : decode cX6_aside 52 = .ok (.istore_n 2, 1) := by decide +kernel
theorem dX6_aside_53 : decode cX6_aside 53 = .ok (.iload_n 2, 1) := by decide +kernel
theorem dX6_aside_54 : decode cX6_aside 54 = .ok (.aload_n 0, 1) := by decide +kernel
theorem dX6_aside_55 : decode cX6_aside 55 = .ok (.getfield 132, 3) := by decide +kernel
theorem dX6_aside_58 : decode cX6_aside 58 = .ok (.if_icmp .ge 116, 3) := by decide +kernel
theorem dX6_aside_61 : decode cX6_aside 61 = .ok (.aload_n 0, 1) := by decide +kernel
theorem dX6_aside_62 : decode cX6_aside 62 = .ok (.getfield 37, 3) := by decide +kernel
theorem dX6_aside_65 : decode cX6_aside 65 = .ok (.iload_n 1, 1) := by decide +kernel
theorem dX6_aside_66 : decode cX6_aside 66 = .ok (.dup2, 1) := by decide +kernel
theorem dX6_aside_67 : decode cX6_aside 67 = .ok (.iaload, 1) := by decide +kernel
theorem dX6_aside_68 : decode cX6_aside 68 = .ok (.aload_n 0, 1) := by decide +kernel
theorem dX6_aside_69 : decode cX6_aside 69 = .ok (.iload_n 1, 1) := by decide +kernel
theorem dX6_aside_70 : decode cX6_aside 70 = .ok (.iload_n 2, 1) := by decide +kernel
theorem dX6_aside_71 : decode cX6_aside 71 = .ok (.invokevirtual 146, 3) := by decide +kernel
theorem dX6_aside_74 : decode cX6_aside 74 = .ok (.ifCond .eq 9, 3) := by decide +kernel
theorem dX6_aside_77 : decode cX6_aside 77 = .ok (.iconst 1, 1) := by decide +kernel
theorem dX6_aside_78 : decode cX6_aside 78 = .ok (.iload_n 2, 1) := by decide +kernel
theorem dX6_aside_79 : decode cX6_aside 79 = .ok (.ishl, 1) := by decide +kernel
theorem dX6_aside_80 : decode cX6_aside 80 = .ok (.goto 4, 3) := by decide +kernel
theorem dX6_aside_83 : decode cX6_aside 83 = .ok (.iconst 0, 1) := by decide +kernel
theorem dX6_aside_84 : decode cX6_aside 84 = .ok (.ior, 1) := by decide +kernel
theorem dX6_aside_85 : decode cX6_aside 85 = .ok (.iastore, 1) := by decide +kernel
theorem dX6_aside_86 : decode cX6_aside 86 = .ok (.iconst 0, 1) := by decide +kernel
theorem dX6_aside_87 : decode cX6_aside 87 = .ok (.istore_n 3, 1) := by decide +kernel
theorem dX6_aside_88 : decode cX6_aside 88 = .ok (.iload_n 3, 1) := by decide +kernel
theorem dX6_aside_89 : decode cX6_aside 89 = .ok (.aload_n 0, 1) := by decide +kernel
theorem dX6_aside_90 : decode cX6_aside 90 = .ok (.getfield 13, 3) := by decide +kernel
theorem dX6_aside_93 : decode cX6_aside 93 = .ok (.iload_n 1, 1) := by decide +kernel
theorem dX6_aside_94 : decode cX6_aside 94 = .ok (.iaload, 1) := by decide +kernel
theorem dX6_aside_95 : decode cX6_aside 95 = .ok (.aload_n 0, 1) := by decide +kernel
theorem dX6_aside_96 : decode cX6_aside 96 = .ok (.getfield 13, 3) := by decide +kernel
theorem dX6_aside_99 : decode cX6_aside 99 = .ok (.iload_n 2, 1) := by decide +kernel
theorem dX6_aside_100 : decode cX6_aside 100 = .ok (.iaload, 1) := by decide +kernel
theorem dX6_aside_101 : decode cX6_aside 101 = .ok (.imul, 1) := by decide +kernel
theorem dX6_aside_102 : decode cX6_aside 102 = .ok (.if_icmp .ge 66, 3) := by decide +kernel
theorem dX6_aside_105 : decode cX6_aside 105 = .ok (.iload_n 3, 1) := by decide +kernel
theorem dX6_aside_106 : decode cX6_aside 106 = .ok (.aload_n 0, 1) := by decide +kernel
theorem dX6_aside_107 : decode cX6_aside 107 = .ok (.getfield 13, 3) := by decide +kernel
theorem dX6_aside_110 : decode cX6_aside 110 = .ok (.iload_n 2, 1) := by decide +kernel
theorem dX6_aside_111 : decode cX6_aside 111 = .ok (.iaload, 1) := by decide +kernel
theorem dX6_aside_112 : decode cX6_aside 112 = .ok (.idiv, 1) := by decide +kernel
theorem dX6_aside_113 : decode cX6_aside 113 = .ok (.istore 4, 2) := by decide +kernel
theorem dX6_aside_115 : decode cX6_aside 115 = .ok (.iload_n 3, 1) := by decide +kernel
theorem dX6_aside_116 : decode cX6_aside 116 = .ok (.aload_n 0, 1) := by decide +kernel
theorem dX6_aside_117 : decode cX6_aside 117 = .ok (.getfield 13, 3) := by decide +kernel
theorem dX6_aside_120 : decode cX6_aside 120 = .ok (.iload_n 2, 1) := by decide +kernel
theorem dX6_aside_121 : decode cX6_aside 121 = .ok (.iaload, 1) := by decide +kernel
theorem dX6_aside_122 : decode cX6_aside 122 = .ok (.irem, 1) := by decide +kernel
theorem dX6_aside_123 : decode cX6_aside 123 = .ok (.istore 5, 2) := by decide +kernel
theorem dX6_aside_125 : decode cX6_aside 125 = .ok (.aload_n 0, 1) := by decide +kernel
theorem dX6_aside_126 : decode cX6_aside 126 = .ok (.getfield 34, 3) := by decide +kernel
theorem dX6_aside_129 : decode cX6_aside 129 = .ok (.iload_n 1, 1) := by decide +kernel
theorem dX6_aside_130 : decode cX6_aside 130 = .ok (.iload_n 2, 1) := by decide +kernel
theorem dX6_aside_131 : decode cX6_aside 131 = .ok (.iload 4, 2) := by decide +kernel
theorem dX6_aside_133 : decode cX6_aside 133 = .ok (.iload 5, 2) := by decide +kernel
theorem dX6_aside_135 : decode cX6_aside 135 = .ok (.invokestatic 179, 3) := by decide +kernel
theorem dX6_aside_138 : decode cX6_aside 138 = .ok (.aload_n 0, 1) := by decide +kernel
theorem dX6_aside_139 : decode cX6_aside 139 = .ok (.iload_n 1, 1) := by decide +kernel
theorem dX6_aside_140 : decode cX6_aside 140 = .ok (.iload_n 2, 1) := by decide +kernel
theorem dX6_aside_141 : decode cX6_aside 141 = .ok (.invokevirtual 146, 3) := by decide +kernel
theorem dX6_aside_144 : decode cX6_aside 144 = .ok (.ifCond .eq 16, 3) := by decide +kernel
theorem dX6_aside_147 : decode cX6_aside 147 = .ok (.aload_n 0, 1) := by decide +kernel
theorem dX6_aside_148 : decode cX6_aside 148 = .ok (.iload_n 1, 1) := by decide +kernel
theorem dX6_aside_149 : decode cX6_aside 149 = .ok (.iload_n 2, 1) := by decide +kernel
theorem dX6_aside_150 : decode cX6_aside 150 = .ok (.iload 4, 2) := by decide +kernel
theorem dX6_aside_152 : decode cX6_aside 152 = .ok (.iload 5, 2) := by decide +kernel
theorem dX6_aside_154 : decode cX6_aside 154 = .ok (.invokevirtual 162, 3) := by decide +kernel
theorem dX6_aside_157 : decode cX6_aside 157 = .ok (.goto 4, 3) := by decide +kernel
theorem dX6_aside_160 : decode cX6_aside 160 = .ok (.iconst 0, 1) := by decide +kernel
theorem dX6_aside_161 : decode cX6_aside 161 = .ok (.iastore, 1) := by decide +kernel
theorem dX6_aside_162 : decode cX6_aside 162 = .ok (.iinc 3 1, 3) := by decide +kernel
theorem dX6_aside_165 : decode cX6_aside 165 = .ok (.goto (-77), 3) := by decide +kernel
theorem dX6_aside_168 : decode cX6_aside 168 = .ok (.iinc 2 1, 3) := by decide +kernel
theorem dX6_aside_171 : decode cX6_aside 171 = .ok (.goto (-118), 3) := by decide +kernel
theorem dX6_aside_174 : decode cX6_aside 174 = .ok (.iinc 1 1, 3) := by decide +kernel
theorem dX6_aside_177 : decode cX6_aside 177 = .ok (.goto (-175), 3) := by decide +kernel
theorem dX6_aside_180 : decode cX6_aside 180 = .ok (.return_, 1) := by decide +kernel
theorem dX6_ones_0 : decode cX6_ones 0 = .ok (.iconst 0, 1) := by decide +kernel
theorem dX6_ones_1 : decode cX6_ones 1 = .ok (.istore_n 1, 1) := by decide +kernel
theorem dX6_ones_2 : decode cX6_ones 2 = .ok (.iload_n 0, 1) := by decide +kernel
theorem dX6_ones_3 : decode cX6_ones 3 = .ok (.istore_n 2, 1) := by decide +kernel
theorem dX6_ones_4 : decode cX6_ones 4 = .ok (.iload_n 2, 1) := by decide +kernel
theorem dX6_ones_5 : decode cX6_ones 5 = .ok (.ifCond .eq 15, 3) := by decide +kernel
theorem dX6_ones_8 : decode cX6_ones 8 = .ok (.iinc 1 1, 3) := by decide +kernel
theorem dX6_ones_11 : decode cX6_ones 11 = .ok (.iload_n 2, 1) := by decide +kernel
theorem dX6_ones_12 : decode cX6_ones 12 = .ok (.iload_n 2, 1) := by decide +kernel
theorem dX6_ones_13 : decode cX6_ones 13 = .ok (.iconst 1, 1) := by decide +kernel
theorem dX6_ones_14 : decode cX6_ones 14 = .ok (.isub, 1) := by decide +kernel
theorem dX6_ones_15 : decode cX6_ones 15 = .ok (.iand, 1) := by decide +kernel
theorem dX6_ones_16 : decode cX6_ones 16 = .ok (.istore_n 2, 1) := by decide +kernel
theorem dX6_ones_17 : decode cX6_ones 17 = .ok (.goto (-13), 3) := by decide +kernel
theorem dX6_ones_20 : decode cX6_ones 20 = .ok (.iload_n 1, 1) := by decide +kernel
theorem dX6_ones_21 : decode cX6_ones 21 = .ok (.ireturn, 1) := by decide +kernel
theorem dX6_has_0 : decode cX6_has 0 = .ok (.iload_n 0, 1) := by decide +kernel
theorem dX6_has_1 : decode cX6_has 1 = .ok (.iload_n 1, 1) := by decide +kernel
theorem dX6_has_2 : decode cX6_has 2 = .ok (.ishr, 1) := by decide +kernel
theorem dX6_has_3 : decode cX6_has 3 = .ok (.iconst 1, 1) := by decide +kernel
theorem dX6_has_4 : decode cX6_has 4 = .ok (.iand, 1) := by decide +kernel
theorem dX6_has_5 : decode cX6_has 5 = .ok (.iconst 1, 1) := by decide +kernel
theorem dX6_has_6 : decode cX6_has 6 = .ok (.if_icmp .ne 7, 3) := by decide +kernel
theorem dX6_has_9 : decode cX6_has 9 = .ok (.iconst 1, 1) := by decide +kernel
theorem dX6_has_10 : decode cX6_has 10 = .ok (.goto 4, 3) := by decide +kernel
theorem dX6_has_13 : decode cX6_has 13 = .ok (.iconst 0, 1) := by decide +kernel
theorem dX6_has_14 : decode cX6_has 14 = .ok (.ireturn, 1) := by decide +kernel
theorem dX6_isAhead_0 : decode cX6_isAhead 0 = .ok (.bipush 100, 2) := by decide +kernel
theorem dX6_isAhead_2 : decode cX6_isAhead 2 = .ok (.aload_n 0, 1) := by decide +kernel
theorem dX6_isAhead_3 : decode cX6_isAhead 3 = .ok (.getfield 37, 3) := by decide +kernel
theorem dX6_isAhead_6 : decode cX6_isAhead 6 = .ok (.iload_n 1, 1) := by decide +kernel
theorem dX6_isAhead_7 : decode cX6_isAhead 7 = .ok (.iaload, 1) := by decide +kernel
theorem dX6_isAhead_8 : decode cX6_isAhead 8 = .ok (.invokestatic 182, 3) := by decide +kernel
theorem dX6_isAhead_11 : decode cX6_isAhead 11 = .ok (.imul, 1) := by decide +kernel
theorem dX6_isAhead_12 : decode cX6_isAhead 12 = .ok (.bipush 10, 2) := by decide +kernel
theorem dX6_isAhead_14 : decode cX6_isAhead 14 = .ok (.aload_n 0, 1) := by decide +kernel
theorem dX6_isAhead_15 : decode cX6_isAhead 15 = .ok (.getfield 13, 3) := by decide +kernel
theorem dX6_isAhead_18 : decode cX6_isAhead 18 = .ok (.iload_n 1, 1) := by decide +kernel
theorem dX6_isAhead_19 : decode cX6_isAhead 19 = .ok (.iaload, 1) := by decide +kernel
theorem dX6_isAhead_20 : decode cX6_isAhead 20 = .ok (.imul, 1) := by decide +kernel
theorem dX6_isAhead_21 : decode cX6_isAhead 21 = .ok (.iadd, 1) := by decide +kernel
theorem dX6_isAhead_22 : decode cX6_isAhead 22 = .ok (.iload_n 1, 1) := by decide +kernel
theorem dX6_isAhead_23 : decode cX6_isAhead 23 = .ok (.iadd, 1) := by decide +kernel
theorem dX6_isAhead_24 : decode cX6_isAhead 24 = .ok (.istore_n 3, 1) := by decide +kernel
theorem dX6_isAhead_25 : decode cX6_isAhead 25 = .ok (.bipush 100, 2) := by decide +kernel
theorem dX6_isAhead_27 : decode cX6_isAhead 27 = .ok (.aload_n 0, 1) := by decide +kernel
theorem dX6_isAhead_28 : decode cX6_isAhead 28 = .ok (.getfield 37, 3) := by decide +kernel
theorem dX6_isAhead_31 : decode cX6_isAhead 31 = .ok (.iload_n 2, 1) := by decide +kernel
theorem dX6_isAhead_32 : decode cX6_isAhead 32 = .ok (.iaload, 1) := by decide +kernel
theorem dX6_isAhead_33 : decode cX6_isAhead 33 = .ok (.invokestatic 182, 3) := by decide +kernel
theorem dX6_isAhead_36 : decode cX6_isAhead 36 = .ok (.imul, 1) := by decide +kernel
theorem dX6_isAhead_37 : decode cX6_isAhead 37 = .ok (.bipush 10, 2) := by decide +kernel
theorem dX6_isAhead_39 : decode cX6_isAhead 39 = .ok (.aload_n 0, 1) := by decide +kernel
theorem dX6_isAhead_40 : decode cX6_isAhead 40 = .ok (.getfield 13, 3) := by decide +kernel
theorem dX6_isAhead_43 : decode cX6_isAhead 43 = .ok (.iload_n 2, 1) := by decide +kernel
theorem dX6_isAhead_44 : decode cX6_isAhead 44 = .ok (.iaload, 1) := by decide +kernel
theorem dX6_isAhead_45 : decode cX6_isAhead 45 = .ok (.imul, 1) := by decide +kernel
theorem dX6_isAhead_46 : decode cX6_isAhead 46 = .ok (.iadd, 1) := by decide +kernel
theorem dX6_isAhead_47 : decode cX6_isAhead 47 = .ok (.iload_n 2, 1) := by decide +kernel
theorem dX6_isAhead_48 : decode cX6_isAhead 48 = .ok (.iadd, 1) := by decide +kernel
theorem dX6_isAhead_49 : decode cX6_isAhead 49 = .ok (.istore 4, 2) := by decide +kernel
theorem dX6_isAhead_51 : decode cX6_isAhead 51 = .ok (.iload_n 3, 1) := by decide +kernel
theorem dX6_isAhead_52 : decode cX6_isAhead 52 = .ok (.iload 4, 2) := by decide +kernel
theorem dX6_isAhead_54 : decode cX6_isAhead 54 = .ok (.if_icmp .ge 7, 3) := by decide +kernel
theorem dX6_isAhead_57 : decode cX6_isAhead 57 = .ok (.iconst 1, 1) := by decide +kernel
theorem dX6_isAhead_58 : decode cX6_isAhead 58 = .ok (.goto 4, 3) := by decide +kernel
theorem dX6_isAhead_61 : decode cX6_isAhead 61 = .ok (.iconst 0, 1) := by decide +kernel
theorem dX6_isAhead_62 : decode cX6_isAhead 62 = .ok (.ireturn, 1) := by decide +kernel
theorem dX6_nextOf_0 : decode cX6_nextOf 0 = .ok (.bipush (-4), 2) := by decide +kernel
theorem dX6_nextOf_2 : decode cX6_nextOf 2 = .ok (.istore_n 2, 1) := by decide +kernel
theorem dX6_nextOf_3 : decode cX6_nextOf 3 = .ok (.bipush (-4), 2) := by decide +kernel
theorem dX6_nextOf_5 : decode cX6_nextOf 5 = .ok (.istore_n 3, 1) := by decide +kernel
theorem dX6_nextOf_6 : decode cX6_nextOf 6 = .ok (.iconst 0, 1) := by decide +kernel
theorem dX6_nextOf_7 : decode cX6_nextOf 7 = .ok (.istore 4, 2) := by decide +kernel
theorem dX6_nextOf_9 : decode cX6_nextOf 9 = .ok (.iload 4, 2) := by decide +kernel
theorem dX6_nextOf_11 : decode cX6_nextOf 11 = .ok (.aload_n 0, 1) := by decide +kernel
theorem dX6_nextOf_12 : decode cX6_nextOf 12 = .ok (.getfield 132, 3) := by decide +kernel
theorem dX6_nextOf_15 : decode cX6_nextOf 15 = .ok (.if_icmp .ge 64, 3) := by decide +kernel
theorem dX6_nextOf_18 : decode cX6_nextOf 18 = .ok (.iload_n 1, 1) := by decide +kernel
theorem dX6_nextOf_19 : decode cX6_nextOf 19 = .ok (.iload 4, 2) := by decide +kernel
theorem dX6_nextOf_21 : decode cX6_nextOf 21 = .ok (.invokestatic 185, 3) := by decide +kernel
theorem dX6_nextOf_24 : decode cX6_nextOf 24 = .ok (.ifCond .eq 49, 3) := by decide +kernel
theorem dX6_nextOf_27 : decode cX6_nextOf 27 = .ok (.iload_n 2, 1) := by decide +kernel
theorem dX6_nextOf_28 : decode cX6_nextOf 28 = .ok (.bipush (-4), 2) := by decide +kernel
theorem dX6_nextOf_30 : decode cX6_nextOf 30 = .ok (.if_icmp .eq 13, 3) := by decide +kernel
theorem dX6_nextOf_33 : decode cX6_nextOf 33 = .ok (.aload_n 0, 1) := by decide +kernel
theorem dX6_nextOf_34 : decode cX6_nextOf 34 = .ok (.iload 4, 2) := by decide +kernel
theorem dX6_nextOf_36 : decode cX6_nextOf 36 = .ok (.iload_n 2, 1) := by decide +kernel
theorem dX6_nextOf_37 : decode cX6_nextOf 37 = .ok (.invokevirtual 188, 3) := by decide +kernel
theorem dX6_nextOf_40 : decode cX6_nextOf 40 = .ok (.ifCond .eq 8, 3) := by decide +kernel
theorem dX6_nextOf_43 : decode cX6_nextOf 43 = .ok (.iload 4, 2) := by decide +kernel
theorem dX6_nextOf_45 : decode cX6_nextOf 45 = .ok (.goto 4, 3) := by decide +kernel
theorem dX6_nextOf_48 : decode cX6_nextOf 48 = .ok (.iload_n 2, 1) := by decide +kernel
theorem dX6_nextOf_49 : decode cX6_nextOf 49 = .ok (.istore_n 2, 1) := by decide +kernel
theorem dX6_nextOf_50 : decode cX6_nextOf 50 = .ok (.iload_n 3, 1) := by decide +kernel
theorem dX6_nextOf_51 : decode cX6_nextOf 51 = .ok (.bipush (-4), 2) := by decide +kernel
theorem dX6_nextOf_53 : decode cX6_nextOf 53 = .ok (.if_icmp .eq 13, 3) := by decide +kernel
theorem dX6_nextOf_56 : decode cX6_nextOf 56 = .ok (.aload_n 0, 1) := by decide +kernel
theorem dX6_nextOf_57 : decode cX6_nextOf 57 = .ok (.iload_n 3, 1) := by decide +kernel
theorem dX6_nextOf_58 : decode cX6_nextOf 58 = .ok (.iload 4, 2) := by decide +kernel
theorem dX6_nextOf_60 : decode cX6_nextOf 60 = .ok (.invokevirtual 188, 3) := by decide +kernel
theorem dX6_nextOf_63 : decode cX6_nextOf 63 = .ok (.ifCond .eq 8, 3) := by decide +kernel
theorem dX6_nextOf_66 : decode cX6_nextOf 66 = .ok (.iload 4, 2) := by decide +kernel
theorem dX6_nextOf_68 : decode cX6_nextOf 68 = .ok (.goto 4, 3) := by decide +kernel
theorem dX6_nextOf_71 : decode cX6_nextOf 71 = .ok (.iload_n 3, 1) := by decide +kernel
theorem dX6_nextOf_72 : decode cX6_nextOf 72 = .ok (.istore_n 3, 1) := by decide +kernel
theorem dX6_nextOf_73 : decode cX6_nextOf 73 = .ok (.iinc 4 1, 3) := by decide +kernel
theorem dX6_nextOf_76 : decode cX6_nextOf 76 = .ok (.goto (-67), 3) := by decide +kernel
theorem dX6_nextOf_79 : decode cX6_nextOf 79 = .ok (.aload_n 0, 1) := by decide +kernel
theorem dX6_nextOf_80 : decode cX6_nextOf 80 = .ok (.getfield 37, 3) := by decide +kernel
theorem dX6_nextOf_83 : decode cX6_nextOf 83 = .ok (.iload_n 2, 1) := by decide +kernel
theorem dX6_nextOf_84 : decode cX6_nextOf 84 = .ok (.iaload, 1) := by decide +kernel
theorem dX6_nextOf_85 : decode cX6_nextOf 85 = .ok (.invokestatic 182, 3) := by decide +kernel
theorem dX6_nextOf_88 : decode cX6_nextOf 88 = .ok (.iconst 3, 1) := by decide +kernel
theorem dX6_nextOf_89 : decode cX6_nextOf 89 = .ok (.if_icmp .ge 7, 3) := by decide +kernel
theorem dX6_nextOf_92 : decode cX6_nextOf 92 = .ok (.iload_n 2, 1) := by decide +kernel
theorem dX6_nextOf_93 : decode cX6_nextOf 93 = .ok (.goto 4, 3) := by decide +kernel
theorem dX6_nextOf_96 : decode cX6_nextOf 96 = .ok (.iload_n 3, 1) := by decide +kernel
theorem dX6_nextOf_97 : decode cX6_nextOf 97 = .ok (.ireturn, 1) := by decide +kernel
theorem dX6_nthOf_0 : decode cX6_nthOf 0 = .ok (.iload_n 0, 1) := by decide +kernel
theorem dX6_nthOf_1 : decode cX6_nthOf 1 = .ok (.istore_n 2, 1) := by decide +kernel
theorem dX6_nthOf_2 : decode cX6_nthOf 2 = .ok (.iconst 0, 1) := by decide +kernel
theorem dX6_nthOf_3 : decode cX6_nthOf 3 = .ok (.istore_n 3, 1) := by decide +kernel
theorem dX6_nthOf_4 : decode cX6_nthOf 4 = .ok (.iload_n 3, 1) := by decide +kernel
theorem dX6_nthOf_5 : decode cX6_nthOf 5 = .ok (.iload_n 1, 1) := by decide +kernel
theorem dX6_nthOf_6 : decode cX6_nthOf 6 = .ok (.if_icmp .ge 15, 3) := by decide +kernel
theorem dX6_nthOf_9 : decode cX6_nthOf 9 = .ok (.iload_n 2, 1) := by decide +kernel
theorem dX6_nthOf_10 : decode cX6_nthOf 10 = .ok (.iload_n 2, 1) := by decide +kernel
theorem dX6_nthOf_11 : decode cX6_nthOf 11 = .ok (.iconst 1, 1) := by decide +kernel
theorem dX6_nthOf_12 : decode cX6_nthOf 12 = .ok (.isub, 1) := by decide +kernel
theorem dX6_nthOf_13 : decode cX6_nthOf 13 = .ok (.iand, 1) := by decide +kernel
theorem dX6_nthOf_14 : decode cX6_nthOf 14 = .ok (.istore_n 2, 1) := by decide +kernel
theorem dX6_nthOf_15 : decode cX6_nthOf 15 = .ok (.iinc 3 1, 3) := by decide +kernel
theorem dX6_nthOf_18 : decode cX6_nthOf 18 = .ok (.goto (-14), 3) := by decide +kernel
theorem dX6_nthOf_21 : decode cX6_nthOf 21 = .ok (.iconst 0, 1) := by decide +kernel
theorem dX6_nthOf_22 : decode cX6_nthOf 22 = .ok (.istore_n 3, 1) := by decide +kernel
theorem dX6_nthOf_23 : decode cX6_nthOf 23 = .ok (.iload_n 2, 1) := by decide +kernel
theorem dX6_nthOf_24 : decode cX6_nthOf 24 = .ok (.iload_n 3, 1) := by decide +kernel
theorem dX6_nthOf_25 : decode cX6_nthOf 25 = .ok (.invokestatic 185, 3) := by decide +kernel
theorem dX6_nthOf_28 : decode cX6_nthOf 28 = .ok (.ifCond .ne 9, 3) := by decide +kernel
theorem dX6_nthOf_31 : decode cX6_nthOf 31 = .ok (.iinc 3 1, 3) := by decide +kernel
theorem dX6_nthOf_34 : decode cX6_nthOf 34 = .ok (.goto (-11), 3) := by decide +kernel
theorem dX6_nthOf_37 : decode cX6_nthOf 37 = .ok (.iload_n 3, 1) := by decide +kernel
theorem dX6_nthOf_38 : decode cX6_nthOf 38 = .ok (.ireturn, 1) := by decide +kernel
theorem dX6_ruleOne_0 : decode cX6_ruleOne 0 = .ok (.iconst 0, 1) := by decide +kernel
theorem dX6_ruleOne_1 : decode cX6_ruleOne 1 = .ok (.istore_n 3, 1) := by decide +kernel
theorem dX6_ruleOne_2 : decode cX6_ruleOne 2 = .ok (.iload_n 3, 1) := by decide +kernel
theorem dX6_ruleOne_3 : decode cX6_ruleOne 3 = .ok (.aload_n 0, 1) := by decide +kernel
theorem dX6_ruleOne_4 : decode cX6_ruleOne 4 = .ok (.getfield 13, 3) := by decide +kernel
theorem dX6_ruleOne_7 : decode cX6_ruleOne 7 = .ok (.iload_n 2, 1) := by decide +kernel
theorem dX6_ruleOne_8 : decode cX6_ruleOne 8 = .ok (.iaload, 1) := by decide +kernel
theorem dX6_ruleOne_9 : decode cX6_ruleOne 9 = .ok (.if_icmp .ge 102, 3) := by decide +kernel
theorem dX6_ruleOne_12 : decode cX6_ruleOne 12 = .ok (.ldc 145, 2) := by decide +kernel
theorem dX6_ruleOne_14 : decode cX6_ruleOne 14 = .ok (.istore 4, 2) := by decide +kernel
theorem dX6_ruleOne_16 : decode cX6_ruleOne 16 = .ok (.iconst 0, 1) := by decide +kernel
theorem dX6_ruleOne_17 : decode cX6_ruleOne 17 = .ok (.istore 5, 2) := by decide +kernel
theorem dX6_ruleOne_19 : decode cX6_ruleOne 19 = .ok (.iload 5, 2) := by decide +kernel
theorem dX6_ruleOne_21 : decode cX6_ruleOne 21 = .ok (.aload_n 0, 1) := by decide +kernel
theorem dX6_ruleOne_22 : decode cX6_ruleOne 22 = .ok (.getfield 13, 3) := by decide +kernel
theorem dX6_ruleOne_25 : decode cX6_ruleOne 25 = .ok (.iload_n 1, 1) := by decide +kernel
theorem dX6_ruleOne_26 : decode cX6_ruleOne 26 = .ok (.iaload, 1) := by decide +kernel
theorem dX6_ruleOne_27 : decode cX6_ruleOne 27 = .ok (.if_icmp .ge 52, 3) := by decide +kernel
theorem dX6_ruleOne_30 : decode cX6_ruleOne 30 = .ok (.aload_n 0, 1) := by decide +kernel
theorem dX6_ruleOne_31 : decode cX6_ruleOne 31 = .ok (.getfield 31, 3) := by decide +kernel
theorem dX6_ruleOne_34 : decode cX6_ruleOne 34 = .ok (.iconst 4, 1) := by decide +kernel
theorem dX6_ruleOne_35 : decode cX6_ruleOne 35 = .ok (.iload_n 1, 1) := by decide +kernel
theorem dX6_ruleOne_36 : decode cX6_ruleOne 36 = .ok (.imul, 1) := by decide +kernel
theorem dX6_ruleOne_37 : decode cX6_ruleOne 37 = .ok (.iload 5, 2) := by decide +kernel
theorem dX6_ruleOne_39 : decode cX6_ruleOne 39 = .ok (.iadd, 1) := by decide +kernel
theorem dX6_ruleOne_40 : decode cX6_ruleOne 40 = .ok (.iaload, 1) := by decide +kernel
theorem dX6_ruleOne_41 : decode cX6_ruleOne 41 = .ok (.aload_n 0, 1) := by decide +kernel
theorem dX6_ruleOne_42 : decode cX6_ruleOne 42 = .ok (.getfield 34, 3) := by decide +kernel
theorem dX6_ruleOne_45 : decode cX6_ruleOne 45 = .ok (.iload_n 1, 1) := by decide +kernel
theorem dX6_ruleOne_46 : decode cX6_ruleOne 46 = .ok (.iload_n 2, 1) := by decide +kernel
theorem dX6_ruleOne_47 : decode cX6_ruleOne 47 = .ok (.iload 5, 2) := by decide +kernel
theorem dX6_ruleOne_49 : decode cX6_ruleOne 49 = .ok (.iload_n 3, 1) := by decide +kernel
theorem dX6_ruleOne_50 : decode cX6_ruleOne 50 = .ok (.invokestatic 179, 3) := by decide +kernel
theorem dX6_ruleOne_53 : decode cX6_ruleOne 53 = .ok (.iaload, 1) := by decide +kernel
theorem dX6_ruleOne_54 : decode cX6_ruleOne 54 = .ok (.iadd, 1) := by decide +kernel
theorem dX6_ruleOne_55 : decode cX6_ruleOne 55 = .ok (.istore 6, 2) := by decide +kernel
theorem dX6_ruleOne_57 : decode cX6_ruleOne 57 = .ok (.iload 6, 2) := by decide +kernel
theorem dX6_ruleOne_59 : decode cX6_ruleOne 59 = .ok (.iload 4, 2) := by decide +kernel
theorem dX6_ruleOne_61 : decode cX6_ruleOne 61 = .ok (.if_icmp .ge 8, 3) := by decide +kernel
theorem dX6_ruleOne_64 : decode cX6_ruleOne 64 = .ok (.iload 6, 2) := by decide +kernel
theorem dX6_ruleOne_66 : decode cX6_ruleOne 66 = .ok (.goto 5, 3) := by decide +kernel
theorem dX6_ruleOne_69 : decode cX6_ruleOne 69 = .ok (.iload 4, 2) := by decide +kernel
theorem dX6_ruleOne_71 : decode cX6_ruleOne 71 = .ok (.istore 4, 2) := by decide +kernel
theorem dX6_ruleOne_73 : decode cX6_ruleOne 73 = .ok (.iinc 5 1, 3) := by decide +kernel
theorem dX6_ruleOne_76 : decode cX6_ruleOne 76 = .ok (.goto (-57), 3) := by decide +kernel
theorem dX6_ruleOne_79 : decode cX6_ruleOne 79 = .ok (.aload_n 0, 1) := by decide +kernel
theorem dX6_ruleOne_80 : decode cX6_ruleOne 80 = .ok (.getfield 31, 3) := by decide +kernel
theorem dX6_ruleOne_83 : decode cX6_ruleOne 83 = .ok (.iconst 4, 1) := by decide +kernel
theorem dX6_ruleOne_84 : decode cX6_ruleOne 84 = .ok (.iload_n 2, 1) := by decide +kernel
theorem dX6_ruleOne_85 : decode cX6_ruleOne 85 = .ok (.imul, 1) := by decide +kernel
theorem dX6_ruleOne_86 : decode cX6_ruleOne 86 = .ok (.iload_n 3, 1) := by decide +kernel
theorem dX6_ruleOne_87 : decode cX6_ruleOne 87 = .ok (.iadd, 1) := by decide +kernel
theorem dX6_ruleOne_88 : decode cX6_ruleOne 88 = .ok (.aload_n 0, 1) := by decide +kernel
theorem dX6_ruleOne_89 : decode cX6_ruleOne 89 = .ok (.getfield 31, 3) := by decide +kernel
theorem dX6_ruleOne_92 : decode cX6_ruleOne 92 = .ok (.iconst 4, 1) := by decide +kernel
theorem dX6_ruleOne_93 : decode cX6_ruleOne 93 = .ok (.iload_n 2, 1) := by decide +kernel
theorem dX6_ruleOne_94 : decode cX6_ruleOne 94 = .ok (.imul, 1) := by decide +kernel
theorem dX6_ruleOne_95 : decode cX6_ruleOne 95 = .ok (.iload_n 3, 1) := by decide +kernel
theorem dX6_ruleOne_96 : decode cX6_ruleOne 96 = .ok (.iadd, 1) := by decide +kernel
theorem dX6_ruleOne_97 : decode cX6_ruleOne 97 = .ok (.iaload, 1) := by decide +kernel
theorem dX6_ruleOne_98 : decode cX6_ruleOne 98 = .ok (.iload 4, 2) := by decide +kernel
theorem dX6_ruleOne_100 : decode cX6_ruleOne 100 = .ok (.iadd, 1) := by decide +kernel
theorem dX6_ruleOne_101 : decode cX6_ruleOne 101 = .ok (.invokestatic 191, 3) := by decide +kernel
theorem dX6_ruleOne_104 : decode cX6_ruleOne 104 = .ok (.iastore, 1) := by decide +kernel
theorem dX6_ruleOne_105 : decode cX6_ruleOne 105 = .ok (.iinc 3 1, 3) := by decide +kernel
theorem dX6_ruleOne_108 : decode cX6_ruleOne 108 = .ok (.goto (-106), 3) := by decide +kernel
theorem dX6_ruleOne_111 : decode cX6_ruleOne 111 = .ok (.return_, 1) := by decide +kernel
theorem dX6_ruleTwo_0 : decode cX6_ruleTwo 0 = .ok (.iconst 0, 1) := by decide +kernel
theorem dX6_ruleTwo_1 : decode cX6_ruleTwo 1 = .ok (.istore 4, 2) := by decide +kernel
theorem dX6_ruleTwo_3 : decode cX6_ruleTwo 3 = .ok (.iload 4, 2) := by decide +kernel
theorem dX6_ruleTwo_5 : decode cX6_ruleTwo 5 = .ok (.aload_n 0, 1) := by decide +kernel
theorem dX6_ruleTwo_6 : decode cX6_ruleTwo 6 = .ok (.getfield 13, 3) := by decide +kernel
theorem dX6_ruleTwo_9 : decode cX6_ruleTwo 9 = .ok (.iload_n 2, 1) := by decide +kernel
theorem dX6_ruleTwo_10 : decode cX6_ruleTwo 10 = .ok (.iaload, 1) := by decide +kernel
theorem dX6_ruleTwo_11 : decode cX6_ruleTwo 11 = .ok (.aload_n 0, 1) := by decide +kernel
theorem dX6_ruleTwo_12 : decode cX6_ruleTwo 12 = .ok (.getfield 13, 3) := by decide +kernel
theorem dX6_ruleTwo_15 : decode cX6_ruleTwo 15 = .ok (.iload_n 3, 1) := by decide +kernel
theorem dX6_ruleTwo_16 : decode cX6_ruleTwo 16 = .ok (.iaload, 1) := by decide +kernel
theorem dX6_ruleTwo_17 : decode cX6_ruleTwo 17 = .ok (.imul, 1) := by decide +kernel
theorem dX6_ruleTwo_18 : decode cX6_ruleTwo 18 = .ok (.if_icmp .ge 168, 3) := by decide +kernel
theorem dX6_ruleTwo_21 : decode cX6_ruleTwo 21 = .ok (.iload 4, 2) := by decide +kernel
theorem dX6_ruleTwo_23 : decode cX6_ruleTwo 23 = .ok (.aload_n 0, 1) := by decide +kernel
theorem dX6_ruleTwo_24 : decode cX6_ruleTwo 24 = .ok (.getfield 13, 3) := by decide +kernel
theorem dX6_ruleTwo_27 : decode cX6_ruleTwo 27 = .ok (.iload_n 3, 1) := by decide +kernel
theorem dX6_ruleTwo_28 : decode cX6_ruleTwo 28 = .ok (.iaload, 1) := by decide +kernel
theorem dX6_ruleTwo_29 : decode cX6_ruleTwo 29 = .ok (.idiv, 1) := by decide +kernel
theorem dX6_ruleTwo_30 : decode cX6_ruleTwo 30 = .ok (.istore 5, 2) := by decide +kernel
theorem dX6_ruleTwo_32 : decode cX6_ruleTwo 32 = .ok (.iload 4, 2) := by decide +kernel
theorem dX6_ruleTwo_34 : decode cX6_ruleTwo 34 = .ok (.aload_n 0, 1) := by decide +kernel
theorem dX6_ruleTwo_35 : decode cX6_ruleTwo 35 = .ok (.getfield 13, 3) := by decide +kernel
theorem dX6_ruleTwo_38 : decode cX6_ruleTwo 38 = .ok (.iload_n 3, 1) := by decide +kernel
theorem dX6_ruleTwo_39 : decode cX6_ruleTwo 39 = .ok (.iaload, 1) := by decide +kernel
theorem dX6_ruleTwo_40 : decode cX6_ruleTwo 40 = .ok (.irem, 1) := by decide +kernel
theorem dX6_ruleTwo_41 : decode cX6_ruleTwo 41 = .ok (.istore 6, 2) := by decide +kernel
theorem dX6_ruleTwo_43 : decode cX6_ruleTwo 43 = .ok (.ldc 145, 2) := by decide +kernel
theorem dX6_ruleTwo_45 : decode cX6_ruleTwo 45 = .ok (.istore 7, 2) := by decide +kernel
theorem dX6_ruleTwo_47 : decode cX6_ruleTwo 47 = .ok (.iconst 0, 1) := by decide +kernel
theorem dX6_ruleTwo_48 : decode cX6_ruleTwo 48 = .ok (.istore 8, 2) := by decide +kernel
theorem dX6_ruleTwo_50 : decode cX6_ruleTwo 50 = .ok (.iload 8, 2) := by decide +kernel
theorem dX6_ruleTwo_52 : decode cX6_ruleTwo 52 = .ok (.aload_n 0, 1) := by decide +kernel
theorem dX6_ruleTwo_53 : decode cX6_ruleTwo 53 = .ok (.getfield 13, 3) := by decide +kernel
theorem dX6_ruleTwo_56 : decode cX6_ruleTwo 56 = .ok (.iload_n 1, 1) := by decide +kernel
theorem dX6_ruleTwo_57 : decode cX6_ruleTwo 57 = .ok (.iaload, 1) := by decide +kernel
theorem dX6_ruleTwo_58 : decode cX6_ruleTwo 58 = .ok (.if_icmp .ge 68, 3) := by decide +kernel
theorem dX6_ruleTwo_61 : decode cX6_ruleTwo 61 = .ok (.aload_n 0, 1) := by decide +kernel
theorem dX6_ruleTwo_62 : decode cX6_ruleTwo 62 = .ok (.getfield 31, 3) := by decide +kernel
theorem dX6_ruleTwo_65 : decode cX6_ruleTwo 65 = .ok (.iconst 4, 1) := by decide +kernel
theorem dX6_ruleTwo_66 : decode cX6_ruleTwo 66 = .ok (.iload_n 1, 1) := by decide +kernel
theorem dX6_ruleTwo_67 : decode cX6_ruleTwo 67 = .ok (.imul, 1) := by decide +kernel
theorem dX6_ruleTwo_68 : decode cX6_ruleTwo 68 = .ok (.iload 8, 2) := by decide +kernel
theorem dX6_ruleTwo_70 : decode cX6_ruleTwo 70 = .ok (.iadd, 1) := by decide +kernel
theorem dX6_ruleTwo_71 : decode cX6_ruleTwo 71 = .ok (.iaload, 1) := by decide +kernel
theorem dX6_ruleTwo_72 : decode cX6_ruleTwo 72 = .ok (.aload_n 0, 1) := by decide +kernel
theorem dX6_ruleTwo_73 : decode cX6_ruleTwo 73 = .ok (.getfield 34, 3) := by decide +kernel
theorem dX6_ruleTwo_76 : decode cX6_ruleTwo 76 = .ok (.iload_n 1, 1) := by decide +kernel
theorem dX6_ruleTwo_77 : decode cX6_ruleTwo 77 = .ok (.iload_n 2, 1) := by decide +kernel
theorem dX6_ruleTwo_78 : decode cX6_ruleTwo 78 = .ok (.iload 8, 2) := by decide +kernel
theorem dX6_ruleTwo_80 : decode cX6_ruleTwo 80 = .ok (.iload 5, 2) := by decide +kernel
theorem dX6_ruleTwo_82 : decode cX6_ruleTwo 82 = .ok (.invokestatic 179, 3) := by decide +kernel
theorem dX6_ruleTwo_85 : decode cX6_ruleTwo 85 = .ok (.iaload, 1) := by decide +kernel
theorem dX6_ruleTwo_86 : decode cX6_ruleTwo 86 = .ok (.iadd, 1) := by decide +kernel
theorem dX6_ruleTwo_87 : decode cX6_ruleTwo 87 = .ok (.aload_n 0, 1) := by decide +kernel
theorem dX6_ruleTwo_88 : decode cX6_ruleTwo 88 = .ok (.getfield 34, 3) := by decide +kernel
theorem dX6_ruleTwo_91 : decode cX6_ruleTwo 91 = .ok (.iload_n 1, 1) := by decide +kernel
theorem dX6_ruleTwo_92 : decode cX6_ruleTwo 92 = .ok (.iload_n 3, 1) := by decide +kernel
theorem dX6_ruleTwo_93 : decode cX6_ruleTwo 93 = .ok (.iload 8, 2) := by decide +kernel
theorem dX6_ruleTwo_95 : decode cX6_ruleTwo 95 = .ok (.iload 6, 2) := by decide +kernel
theorem dX6_ruleTwo_97 : decode cX6_ruleTwo 97 = .ok (.invokestatic 179, 3) := by decide +kernel
theorem dX6_ruleTwo_100 : decode cX6_ruleTwo 100 = .ok (.iaload, 1) := by decide +kernel
theorem dX6_ruleTwo_101 : decode cX6_ruleTwo 101 = .ok (.iadd, 1) := by decide +kernel
theorem dX6_ruleTwo_102 : decode cX6_ruleTwo 102 = .ok (.istore 9, 2) := by decide +kernel
theorem dX6_ruleTwo_104 : decode cX6_ruleTwo 104 = .ok (.iload 9, 2) := by decide +kernel
theorem dX6_ruleTwo_106 : decode cX6_ruleTwo 106 = .ok (.iload 7, 2) := by decide +kernel
theorem dX6_ruleTwo_108 : decode cX6_ruleTwo 108 = .ok (.if_icmp .ge 8, 3) := by decide +kernel
theorem dX6_ruleTwo_111 : decode cX6_ruleTwo 111 = .ok (.iload 9, 2) := by decide +kernel
theorem dX6_ruleTwo_113 : decode cX6_ruleTwo 113 = .ok (.goto 5, 3) := by decide +kernel
theorem dX6_ruleTwo_116 : decode cX6_ruleTwo 116 = .ok (.iload 7, 2) := by decide +kernel
theorem dX6_ruleTwo_118 : decode cX6_ruleTwo 118 = .ok (.istore 7, 2) := by decide +kernel
theorem dX6_ruleTwo_120 : decode cX6_ruleTwo 120 = .ok (.iinc 8 1, 3) := by decide +kernel
theorem dX6_ruleTwo_123 : decode cX6_ruleTwo 123 = .ok (.goto (-73), 3) := by decide +kernel
theorem dX6_ruleTwo_126 : decode cX6_ruleTwo 126 = .ok (.aload_n 0, 1) := by decide +kernel
theorem dX6_ruleTwo_127 : decode cX6_ruleTwo 127 = .ok (.getfield 34, 3) := by decide +kernel
theorem dX6_ruleTwo_130 : decode cX6_ruleTwo 130 = .ok (.iload_n 2, 1) := by decide +kernel
theorem dX6_ruleTwo_131 : decode cX6_ruleTwo 131 = .ok (.iload_n 3, 1) := by decide +kernel
theorem dX6_ruleTwo_132 : decode cX6_ruleTwo 132 = .ok (.iload 5, 2) := by decide +kernel
theorem dX6_ruleTwo_134 : decode cX6_ruleTwo 134 = .ok (.iload 6, 2) := by decide +kernel
theorem dX6_ruleTwo_136 : decode cX6_ruleTwo 136 = .ok (.invokestatic 179, 3) := by decide +kernel
theorem dX6_ruleTwo_139 : decode cX6_ruleTwo 139 = .ok (.iaload, 1) := by decide +kernel
theorem dX6_ruleTwo_140 : decode cX6_ruleTwo 140 = .ok (.iload 7, 2) := by decide +kernel
theorem dX6_ruleTwo_142 : decode cX6_ruleTwo 142 = .ok (.iadd, 1) := by decide +kernel
theorem dX6_ruleTwo_143 : decode cX6_ruleTwo 143 = .ok (.invokestatic 191, 3) := by decide +kernel
theorem dX6_ruleTwo_146 : decode cX6_ruleTwo 146 = .ok (.istore 8, 2) := by decide +kernel
theorem dX6_ruleTwo_148 : decode cX6_ruleTwo 148 = .ok (.aload_n 0, 1) := by decide +kernel
theorem dX6_ruleTwo_149 : decode cX6_ruleTwo 149 = .ok (.getfield 34, 3) := by decide +kernel
theorem dX6_ruleTwo_152 : decode cX6_ruleTwo 152 = .ok (.iload_n 2, 1) := by decide +kernel
theorem dX6_ruleTwo_153 : decode cX6_ruleTwo 153 = .ok (.iload_n 3, 1) := by decide +kernel
theorem dX6_ruleTwo_154 : decode cX6_ruleTwo 154 = .ok (.iload 5, 2) := by decide +kernel
theorem dX6_ruleTwo_156 : decode cX6_ruleTwo 156 = .ok (.iload 6, 2) := by decide +kernel
theorem dX6_ruleTwo_158 : decode cX6_ruleTwo 158 = .ok (.invokestatic 179, 3) := by decide +kernel
theorem dX6_ruleTwo_161 : decode cX6_ruleTwo 161 = .ok (.iload 8, 2) := by decide +kernel
theorem dX6_ruleTwo_163 : decode cX6_ruleTwo 163 = .ok (.iastore, 1) := by decide +kernel
theorem dX6_ruleTwo_164 : decode cX6_ruleTwo 164 = .ok (.aload_n 0, 1) := by decide +kernel
theorem dX6_ruleTwo_165 : decode cX6_ruleTwo 165 = .ok (.getfield 34, 3) := by decide +kernel
theorem dX6_ruleTwo_168 : decode cX6_ruleTwo 168 = .ok (.iload_n 3, 1) := by decide +kernel
theorem dX6_ruleTwo_169 : decode cX6_ruleTwo 169 = .ok (.iload_n 2, 1) := by decide +kernel
theorem dX6_ruleTwo_170 : decode cX6_ruleTwo 170 = .ok (.iload 6, 2) := by decide +kernel
theorem dX6_ruleTwo_172 : decode cX6_ruleTwo 172 = .ok (.iload 5, 2) := by decide +kernel
theorem dX6_ruleTwo_174 : decode cX6_ruleTwo 174 = .ok (.invokestatic 179, 3) := by decide +kernel
theorem dX6_ruleTwo_177 : decode cX6_ruleTwo 177 = .ok (.iload 8, 2) := by decide +kernel
theorem dX6_ruleTwo_179 : decode cX6_ruleTwo 179 = .ok (.iastore, 1) := by decide +kernel
theorem dX6_ruleTwo_180 : decode cX6_ruleTwo 180 = .ok (.iinc 4 1, 3) := by decide +kernel
theorem dX6_ruleTwo_183 : decode cX6_ruleTwo 183 = .ok (.goto (-180), 3) := by decide +kernel
theorem dX6_ruleTwo_186 : decode cX6_ruleTwo 186 = .ok (.aload_n 0, 1) := by decide +kernel
theorem dX6_ruleTwo_187 : decode cX6_ruleTwo 187 = .ok (.getfield 37, 3) := by decide +kernel
theorem dX6_ruleTwo_190 : decode cX6_ruleTwo 190 = .ok (.iload_n 2, 1) := by decide +kernel
theorem dX6_ruleTwo_191 : decode cX6_ruleTwo 191 = .ok (.dup2, 1) := by decide +kernel
theorem dX6_ruleTwo_192 : decode cX6_ruleTwo 192 = .ok (.iaload, 1) := by decide +kernel
theorem dX6_ruleTwo_193 : decode cX6_ruleTwo 193 = .ok (.iconst 1, 1) := by decide +kernel
theorem dX6_ruleTwo_194 : decode cX6_ruleTwo 194 = .ok (.iload_n 3, 1) := by decide +kernel
theorem dX6_ruleTwo_195 : decode cX6_ruleTwo 195 = .ok (.ishl, 1) := by decide +kernel
theorem dX6_ruleTwo_196 : decode cX6_ruleTwo 196 = .ok (.ior, 1) := by decide +kernel
theorem dX6_ruleTwo_197 : decode cX6_ruleTwo 197 = .ok (.iastore, 1) := by decide +kernel
theorem dX6_ruleTwo_198 : decode cX6_ruleTwo 198 = .ok (.aload_n 0, 1) := by decide +kernel
theorem dX6_ruleTwo_199 : decode cX6_ruleTwo 199 = .ok (.getfield 37, 3) := by decide +kernel
theorem dX6_ruleTwo_202 : decode cX6_ruleTwo 202 = .ok (.iload_n 3, 1) := by decide +kernel
theorem dX6_ruleTwo_203 : decode cX6_ruleTwo 203 = .ok (.dup2, 1) := by decide +kernel
theorem dX6_ruleTwo_204 : decode cX6_ruleTwo 204 = .ok (.iaload, 1) := by decide +kernel
theorem dX6_ruleTwo_205 : decode cX6_ruleTwo 205 = .ok (.iconst 1, 1) := by decide +kernel
theorem dX6_ruleTwo_206 : decode cX6_ruleTwo 206 = .ok (.iload_n 2, 1) := by decide +kernel
theorem dX6_ruleTwo_207 : decode cX6_ruleTwo 207 = .ok (.ishl, 1) := by decide +kernel
theorem dX6_ruleTwo_208 : decode cX6_ruleTwo 208 = .ok (.ior, 1) := by decide +kernel
theorem dX6_ruleTwo_209 : decode cX6_ruleTwo 209 = .ok (.iastore, 1) := by decide +kernel
theorem dX6_ruleTwo_210 : decode cX6_ruleTwo 210 = .ok (.return_, 1) := by decide +kernel
theorem dX6_leastBeside_0 : decode cX6_leastBeside 0 = .ok (.ldc 145, 2) := by decide +kernel
theorem dX6_leastBeside_2 : decode cX6_leastBeside 2 = .ok (.istore 4, 2) := by decide +kernel
theorem dX6_leastBeside_4 : decode cX6_leastBeside 4 = .ok (.iconst 0, 1) := by decide +kernel
theorem dX6_leastBeside_5 : decode cX6_leastBeside 5 = .ok (.istore 5, 2) := by decide +kernel
theorem dX6_leastBeside_7 : decode cX6_leastBeside 7 = .ok (.iload 5, 2) := by decide +kernel
theorem dX6_leastBeside_9 : decode cX6_leastBeside 9 = .ok (.aload_n 0, 1) := by decide +kernel
theorem dX6_leastBeside_10 : decode cX6_leastBeside 10 = .ok (.getfield 13, 3) := by decide +kernel
theorem dX6_leastBeside_13 : decode cX6_leastBeside 13 = .ok (.iload_n 3, 1) := by decide +kernel
theorem dX6_leastBeside_14 : decode cX6_leastBeside 14 = .ok (.iaload, 1) := by decide +kernel
theorem dX6_leastBeside_15 : decode cX6_leastBeside 15 = .ok (.if_icmp .ge 52, 3) := by decide +kernel
theorem dX6_leastBeside_18 : decode cX6_leastBeside 18 = .ok (.aload_n 0, 1) := by decide +kernel
theorem dX6_leastBeside_19 : decode cX6_leastBeside 19 = .ok (.getfield 31, 3) := by decide +kernel
theorem dX6_leastBeside_22 : decode cX6_leastBeside 22 = .ok (.iconst 4, 1) := by decide +kernel
theorem dX6_leastBeside_23 : decode cX6_leastBeside 23 = .ok (.iload_n 3, 1) := by decide +kernel
theorem dX6_leastBeside_24 : decode cX6_leastBeside 24 = .ok (.imul, 1) := by decide +kernel
theorem dX6_leastBeside_25 : decode cX6_leastBeside 25 = .ok (.iload 5, 2) := by decide +kernel
theorem dX6_leastBeside_27 : decode cX6_leastBeside 27 = .ok (.iadd, 1) := by decide +kernel
theorem dX6_leastBeside_28 : decode cX6_leastBeside 28 = .ok (.iaload, 1) := by decide +kernel
theorem dX6_leastBeside_29 : decode cX6_leastBeside 29 = .ok (.aload_n 0, 1) := by decide +kernel
theorem dX6_leastBeside_30 : decode cX6_leastBeside 30 = .ok (.getfield 34, 3) := by decide +kernel
theorem dX6_leastBeside_33 : decode cX6_leastBeside 33 = .ok (.iload_n 1, 1) := by decide +kernel
theorem dX6_leastBeside_34 : decode cX6_leastBeside 34 = .ok (.iload_n 3, 1) := by decide +kernel
theorem dX6_leastBeside_35 : decode cX6_leastBeside 35 = .ok (.iload_n 2, 1) := by decide +kernel
theorem dX6_leastBeside_36 : decode cX6_leastBeside 36 = .ok (.iload 5, 2) := by decide +kernel
theorem dX6_leastBeside_38 : decode cX6_leastBeside 38 = .ok (.invokestatic 179, 3) := by decide +kernel
theorem dX6_leastBeside_41 : decode cX6_leastBeside 41 = .ok (.iaload, 1) := by decide +kernel
theorem dX6_leastBeside_42 : decode cX6_leastBeside 42 = .ok (.iadd, 1) := by decide +kernel
theorem dX6_leastBeside_43 : decode cX6_leastBeside 43 = .ok (.istore 6, 2) := by decide +kernel
theorem dX6_leastBeside_45 : decode cX6_leastBeside 45 = .ok (.iload 6, 2) := by decide +kernel
theorem dX6_leastBeside_47 : decode cX6_leastBeside 47 = .ok (.iload 4, 2) := by decide +kernel
theorem dX6_leastBeside_49 : decode cX6_leastBeside 49 = .ok (.if_icmp .ge 8, 3) := by decide +kernel
theorem dX6_leastBeside_52 : decode cX6_leastBeside 52 = .ok (.iload 6, 2) := by decide +kernel
theorem dX6_leastBeside_54 : decode cX6_leastBeside 54 = .ok (.goto 5, 3) := by decide +kernel
theorem dX6_leastBeside_57 : decode cX6_leastBeside 57 = .ok (.iload 4, 2) := by decide +kernel
theorem dX6_leastBeside_59 : decode cX6_leastBeside 59 = .ok (.istore 4, 2) := by decide +kernel
theorem dX6_leastBeside_61 : decode cX6_leastBeside 61 = .ok (.iinc 5 1, 3) := by decide +kernel
theorem dX6_leastBeside_64 : decode cX6_leastBeside 64 = .ok (.goto (-57), 3) := by decide +kernel
theorem dX6_leastBeside_67 : decode cX6_leastBeside 67 = .ok (.iload 4, 2) := by decide +kernel
theorem dX6_leastBeside_69 : decode cX6_leastBeside 69 = .ok (.ireturn, 1) := by decide +kernel
theorem dX6_ruleThree_0 : decode cX6_ruleThree 0 = .ok (.iconst 0, 1) := by decide +kernel
theorem dX6_ruleThree_1 : decode cX6_ruleThree 1 = .ok (.istore_n 2, 1) := by decide +kernel
theorem dX6_ruleThree_2 : decode cX6_ruleThree 2 = .ok (.ldc 194, 2) := by decide +kernel
theorem dX6_ruleThree_4 : decode cX6_ruleThree 4 = .ok (.istore_n 3, 1) := by decide +kernel
theorem dX6_ruleThree_5 : decode cX6_ruleThree 5 = .ok (.iconst 0, 1) := by decide +kernel
theorem dX6_ruleThree_6 : decode cX6_ruleThree 6 = .ok (.istore 4, 2) := by decide +kernel
theorem dX6_ruleThree_8 : decode cX6_ruleThree 8 = .ok (.iload 4, 2) := by decide +kernel
theorem dX6_ruleThree_10 : decode cX6_ruleThree 10 = .ok (.aload_n 0, 1) := by decide +kernel
theorem dX6_ruleThree_11 : decode cX6_ruleThree 11 = .ok (.getfield 13, 3) := by decide +kernel
theorem dX6_ruleThree_14 : decode cX6_ruleThree 14 = .ok (.iload_n 1, 1) := by decide +kernel
theorem dX6_ruleThree_15 : decode cX6_ruleThree 15 = .ok (.iaload, 1) := by decide +kernel
theorem dX6_ruleThree_16 : decode cX6_ruleThree 16 = .ok (.if_icmp .ge 101, 3) := by decide +kernel
theorem dX6_ruleThree_19 : decode cX6_ruleThree 19 = .ok (.aload_n 0, 1) := by decide +kernel
theorem dX6_ruleThree_20 : decode cX6_ruleThree 20 = .ok (.getfield 31, 3) := by decide +kernel
theorem dX6_ruleThree_23 : decode cX6_ruleThree 23 = .ok (.iconst 4, 1) := by decide +kernel
theorem dX6_ruleThree_24 : decode cX6_ruleThree 24 = .ok (.iload_n 1, 1) := by decide +kernel
theorem dX6_ruleThree_25 : decode cX6_ruleThree 25 = .ok (.imul, 1) := by decide +kernel
theorem dX6_ruleThree_26 : decode cX6_ruleThree 26 = .ok (.iload 4, 2) := by decide +kernel
theorem dX6_ruleThree_28 : decode cX6_ruleThree 28 = .ok (.iadd, 1) := by decide +kernel
theorem dX6_ruleThree_29 : decode cX6_ruleThree 29 = .ok (.iaload, 1) := by decide +kernel
theorem dX6_ruleThree_30 : decode cX6_ruleThree 30 = .ok (.istore 5, 2) := by decide +kernel
theorem dX6_ruleThree_32 : decode cX6_ruleThree 32 = .ok (.iconst 0, 1) := by decide +kernel
theorem dX6_ruleThree_33 : decode cX6_ruleThree 33 = .ok (.istore 6, 2) := by decide +kernel
theorem dX6_ruleThree_35 : decode cX6_ruleThree 35 = .ok (.iload 6, 2) := by decide +kernel
theorem dX6_ruleThree_37 : decode cX6_ruleThree 37 = .ok (.aload_n 0, 1) := by decide +kernel
theorem dX6_ruleThree_38 : decode cX6_ruleThree 38 = .ok (.getfield 132, 3) := by decide +kernel
theorem dX6_ruleThree_41 : decode cX6_ruleThree 41 = .ok (.if_icmp .ge 44, 3) := by decide +kernel
theorem dX6_ruleThree_44 : decode cX6_ruleThree 44 = .ok (.iload 5, 2) := by decide +kernel
theorem dX6_ruleThree_46 : decode cX6_ruleThree 46 = .ok (.aload_n 0, 1) := by decide +kernel
theorem dX6_ruleThree_47 : decode cX6_ruleThree 47 = .ok (.getfield 37, 3) := by decide +kernel
theorem dX6_ruleThree_50 : decode cX6_ruleThree 50 = .ok (.iload_n 1, 1) := by decide +kernel
theorem dX6_ruleThree_51 : decode cX6_ruleThree 51 = .ok (.iaload, 1) := by decide +kernel
theorem dX6_ruleThree_52 : decode cX6_ruleThree 52 = .ok (.iload 6, 2) := by decide +kernel
theorem dX6_ruleThree_54 : decode cX6_ruleThree 54 = .ok (.invokestatic 185, 3) := by decide +kernel
theorem dX6_ruleThree_57 : decode cX6_ruleThree 57 = .ok (.ifCond .eq 15, 3) := by decide +kernel
theorem dX6_ruleThree_60 : decode cX6_ruleThree 60 = .ok (.aload_n 0, 1) := by decide +kernel
theorem dX6_ruleThree_61 : decode cX6_ruleThree 61 = .ok (.iload_n 1, 1) := by decide +kernel
theorem dX6_ruleThree_62 : decode cX6_ruleThree 62 = .ok (.iload 4, 2) := by decide +kernel
theorem dX6_ruleThree_64 : decode cX6_ruleThree 64 = .ok (.iload 6, 2) := by decide +kernel
theorem dX6_ruleThree_66 : decode cX6_ruleThree 66 = .ok (.invokevirtual 195, 3) := by decide +kernel
theorem dX6_ruleThree_69 : decode cX6_ruleThree 69 = .ok (.goto 4, 3) := by decide +kernel
theorem dX6_ruleThree_72 : decode cX6_ruleThree 72 = .ok (.iconst 0, 1) := by decide +kernel
theorem dX6_ruleThree_73 : decode cX6_ruleThree 73 = .ok (.iadd, 1) := by decide +kernel
theorem dX6_ruleThree_74 : decode cX6_ruleThree 74 = .ok (.invokestatic 191, 3) := by decide +kernel
theorem dX6_ruleThree_77 : decode cX6_ruleThree 77 = .ok (.istore 5, 2) := by decide +kernel
theorem dX6_ruleThree_79 : decode cX6_ruleThree 79 = .ok (.iinc 6 1, 3) := by decide +kernel
theorem dX6_ruleThree_82 : decode cX6_ruleThree 82 = .ok (.goto (-47), 3) := by decide +kernel
theorem dX6_ruleThree_85 : decode cX6_ruleThree 85 = .ok (.iload 5, 2) := by decide +kernel
theorem dX6_ruleThree_87 : decode cX6_ruleThree 87 = .ok (.iload_n 3, 1) := by decide +kernel
theorem dX6_ruleThree_88 : decode cX6_ruleThree 88 = .ok (.if_icmp .ge 8, 3) := by decide +kernel
theorem dX6_ruleThree_91 : decode cX6_ruleThree 91 = .ok (.iload 4, 2) := by decide +kernel
theorem dX6_ruleThree_93 : decode cX6_ruleThree 93 = .ok (.goto 4, 3) := by decide +kernel
theorem dX6_ruleThree_96 : decode cX6_ruleThree 96 = .ok (.iload_n 2, 1) := by decide +kernel
theorem dX6_ruleThree_97 : decode cX6_ruleThree 97 = .ok (.istore_n 2, 1) := by decide +kernel
theorem dX6_ruleThree_98 : decode cX6_ruleThree 98 = .ok (.iload 5, 2) := by decide +kernel
theorem dX6_ruleThree_100 : decode cX6_ruleThree 100 = .ok (.iload_n 3, 1) := by decide +kernel
theorem dX6_ruleThree_101 : decode cX6_ruleThree 101 = .ok (.if_icmp .ge 8, 3) := by decide +kernel
theorem dX6_ruleThree_104 : decode cX6_ruleThree 104 = .ok (.iload 5, 2) := by decide +kernel
theorem dX6_ruleThree_106 : decode cX6_ruleThree 106 = .ok (.goto 4, 3) := by decide +kernel
theorem dX6_ruleThree_109 : decode cX6_ruleThree 109 = .ok (.iload_n 3, 1) := by decide +kernel
theorem dX6_ruleThree_110 : decode cX6_ruleThree 110 = .ok (.istore_n 3, 1) := by decide +kernel
theorem dX6_ruleThree_111 : decode cX6_ruleThree 111 = .ok (.iinc 4 1, 3) := by decide +kernel
theorem dX6_ruleThree_114 : decode cX6_ruleThree 114 = .ok (.goto (-106), 3) := by decide +kernel
theorem dX6_ruleThree_117 : decode cX6_ruleThree 117 = .ok (.aload_n 0, 1) := by decide +kernel
theorem dX6_ruleThree_118 : decode cX6_ruleThree 118 = .ok (.getfield 49, 3) := by decide +kernel
theorem dX6_ruleThree_121 : decode cX6_ruleThree 121 = .ok (.iload_n 1, 1) := by decide +kernel
theorem dX6_ruleThree_122 : decode cX6_ruleThree 122 = .ok (.iload_n 2, 1) := by decide +kernel
theorem dX6_ruleThree_123 : decode cX6_ruleThree 123 = .ok (.iastore, 1) := by decide +kernel
theorem dX6_ruleThree_124 : decode cX6_ruleThree 124 = .ok (.iconst 0, 1) := by decide +kernel
theorem dX6_ruleThree_125 : decode cX6_ruleThree 125 = .ok (.istore 4, 2) := by decide +kernel
theorem dX6_ruleThree_127 : decode cX6_ruleThree 127 = .ok (.iload 4, 2) := by decide +kernel
theorem dX6_ruleThree_129 : decode cX6_ruleThree 129 = .ok (.aload_n 0, 1) := by decide +kernel
theorem dX6_ruleThree_130 : decode cX6_ruleThree 130 = .ok (.getfield 132, 3) := by decide +kernel
theorem dX6_ruleThree_133 : decode cX6_ruleThree 133 = .ok (.if_icmp .ge 86, 3) := by decide +kernel
theorem dX6_ruleThree_136 : decode cX6_ruleThree 136 = .ok (.iconst 0, 1) := by decide +kernel
theorem dX6_ruleThree_137 : decode cX6_ruleThree 137 = .ok (.istore 5, 2) := by decide +kernel
theorem dX6_ruleThree_139 : decode cX6_ruleThree 139 = .ok (.iload 5, 2) := by decide +kernel
theorem dX6_ruleThree_141 : decode cX6_ruleThree 141 = .ok (.aload_n 0, 1) := by decide +kernel
theorem dX6_ruleThree_142 : decode cX6_ruleThree 142 = .ok (.getfield 13, 3) := by decide +kernel
theorem dX6_ruleThree_145 : decode cX6_ruleThree 145 = .ok (.iload 4, 2) := by decide +kernel
theorem dX6_ruleThree_147 : decode cX6_ruleThree 147 = .ok (.iaload, 1) := by decide +kernel
theorem dX6_ruleThree_148 : decode cX6_ruleThree 148 = .ok (.if_icmp .ge 65, 3) := by decide +kernel
theorem dX6_ruleThree_151 : decode cX6_ruleThree 151 = .ok (.aload_n 0, 1) := by decide +kernel
theorem dX6_ruleThree_152 : decode cX6_ruleThree 152 = .ok (.getfield 37, 3) := by decide +kernel
theorem dX6_ruleThree_155 : decode cX6_ruleThree 155 = .ok (.iload_n 1, 1) := by decide +kernel
theorem dX6_ruleThree_156 : decode cX6_ruleThree 156 = .ok (.iaload, 1) := by decide +kernel
theorem dX6_ruleThree_157 : decode cX6_ruleThree 157 = .ok (.iload 4, 2) := by decide +kernel
theorem dX6_ruleThree_159 : decode cX6_ruleThree 159 = .ok (.invokestatic 185, 3) := by decide +kernel
theorem dX6_ruleThree_162 : decode cX6_ruleThree 162 = .ok (.ifCond .eq 51, 3) := by decide +kernel
theorem dX6_ruleThree_165 : decode cX6_ruleThree 165 = .ok (.aload_n 0, 1) := by decide +kernel
theorem dX6_ruleThree_166 : decode cX6_ruleThree 166 = .ok (.getfield 31, 3) := by decide +kernel
theorem dX6_ruleThree_169 : decode cX6_ruleThree 169 = .ok (.iconst 4, 1) := by decide +kernel
theorem dX6_ruleThree_170 : decode cX6_ruleThree 170 = .ok (.iload 4, 2) := by decide +kernel
theorem dX6_ruleThree_172 : decode cX6_ruleThree 172 = .ok (.imul, 1) := by decide +kernel
theorem dX6_ruleThree_173 : decode cX6_ruleThree 173 = .ok (.iload 5, 2) := by decide +kernel
theorem dX6_ruleThree_175 : decode cX6_ruleThree 175 = .ok (.iadd, 1) := by decide +kernel
theorem dX6_ruleThree_176 : decode cX6_ruleThree 176 = .ok (.aload_n 0, 1) := by decide +kernel
theorem dX6_ruleThree_177 : decode cX6_ruleThree 177 = .ok (.getfield 31, 3) := by decide +kernel
theorem dX6_ruleThree_180 : decode cX6_ruleThree 180 = .ok (.iconst 4, 1) := by decide +kernel
theorem dX6_ruleThree_181 : decode cX6_ruleThree 181 = .ok (.iload 4, 2) := by decide +kernel
theorem dX6_ruleThree_183 : decode cX6_ruleThree 183 = .ok (.imul, 1) := by decide +kernel
theorem dX6_ruleThree_184 : decode cX6_ruleThree 184 = .ok (.iload 5, 2) := by decide +kernel
theorem dX6_ruleThree_186 : decode cX6_ruleThree 186 = .ok (.iadd, 1) := by decide +kernel
theorem dX6_ruleThree_187 : decode cX6_ruleThree 187 = .ok (.iaload, 1) := by decide +kernel
theorem dX6_ruleThree_188 : decode cX6_ruleThree 188 = .ok (.aload_n 0, 1) := by decide +kernel
theorem dX6_ruleThree_189 : decode cX6_ruleThree 189 = .ok (.getfield 34, 3) := by decide +kernel
theorem dX6_ruleThree_192 : decode cX6_ruleThree 192 = .ok (.iload_n 1, 1) := by decide +kernel
theorem dX6_ruleThree_193 : decode cX6_ruleThree 193 = .ok (.iload 4, 2) := by decide +kernel
theorem dX6_ruleThree_195 : decode cX6_ruleThree 195 = .ok (.iload_n 2, 1) := by decide +kernel
theorem dX6_ruleThree_196 : decode cX6_ruleThree 196 = .ok (.iload 5, 2) := by decide +kernel
theorem dX6_ruleThree_198 : decode cX6_ruleThree 198 = .ok (.invokestatic 179, 3) := by decide +kernel
theorem dX6_ruleThree_201 : decode cX6_ruleThree 201 = .ok (.iaload, 1) := by decide +kernel
theorem dX6_ruleThree_202 : decode cX6_ruleThree 202 = .ok (.iadd, 1) := by decide +kernel
theorem dX6_ruleThree_203 : decode cX6_ruleThree 203 = .ok (.invokestatic 191, 3) := by decide +kernel
theorem dX6_ruleThree_206 : decode cX6_ruleThree 206 = .ok (.iastore, 1) := by decide +kernel
theorem dX6_ruleThree_207 : decode cX6_ruleThree 207 = .ok (.iinc 5 1, 3) := by decide +kernel
theorem dX6_ruleThree_210 : decode cX6_ruleThree 210 = .ok (.goto (-71), 3) := by decide +kernel
theorem dX6_ruleThree_213 : decode cX6_ruleThree 213 = .ok (.iinc 4 1, 3) := by decide +kernel
theorem dX6_ruleThree_216 : decode cX6_ruleThree 216 = .ok (.goto (-89), 3) := by decide +kernel
theorem dX6_ruleThree_219 : decode cX6_ruleThree 219 = .ok (.return_, 1) := by decide +kernel
theorem dX6_reduceAll_0 : decode cX6_reduceAll 0 = .ok (.aload_n 0, 1) := by decide +kernel
theorem dX6_reduceAll_1 : decode cX6_reduceAll 1 = .ok (.invokevirtual 199, 3) := by decide +kernel
theorem dX6_reduceAll_4 : decode cX6_reduceAll 4 = .ok (.iconst 1, 1) := by decide +kernel
theorem dX6_reduceAll_5 : decode cX6_reduceAll 5 = .ok (.aload_n 0, 1) := by decide +kernel
theorem dX6_reduceAll_6 : decode cX6_reduceAll 6 = .ok (.getfield 132, 3) := by decide +kernel
theorem dX6_reduceAll_9 : decode cX6_reduceAll 9 = .ok (.ishl, 1) := by decide +kernel
theorem dX6_reduceAll_10 : decode cX6_reduceAll 10 = .ok (.iconst 1, 1) := by decide +kernel
theorem dX6_reduceAll_11 : decode cX6_reduceAll 11 = .ok (.isub, 1) := by decide +kernel
theorem dX6_reduceAll_12 : decode cX6_reduceAll 12 = .ok (.istore_n 1, 1) := by decide +kernel
theorem dX6_reduceAll_13 : decode cX6_reduceAll 13 = .ok (.iconst 0, 1) := by decide +kernel
theorem dX6_reduceAll_14 : decode cX6_reduceAll 14 = .ok (.istore_n 2, 1) := by decide +kernel
theorem dX6_reduceAll_15 : decode cX6_reduceAll 15 = .ok (.iload_n 2, 1) := by decide +kernel
theorem dX6_reduceAll_16 : decode cX6_reduceAll 16 = .ok (.aload_n 0, 1) := by decide +kernel
theorem dX6_reduceAll_17 : decode cX6_reduceAll 17 = .ok (.getfield 132, 3) := by decide +kernel
theorem dX6_reduceAll_20 : decode cX6_reduceAll 20 = .ok (.if_icmp .ge 173, 3) := by decide +kernel
theorem dX6_reduceAll_23 : decode cX6_reduceAll 23 = .ok (.aload_n 0, 1) := by decide +kernel
theorem dX6_reduceAll_24 : decode cX6_reduceAll 24 = .ok (.iload_n 1, 1) := by decide +kernel
theorem dX6_reduceAll_25 : decode cX6_reduceAll 25 = .ok (.invokevirtual 202, 3) := by decide +kernel
theorem dX6_reduceAll_28 : decode cX6_reduceAll 28 = .ok (.istore_n 3, 1) := by decide +kernel
theorem dX6_reduceAll_29 : decode cX6_reduceAll 29 = .ok (.aload_n 0, 1) := by decide +kernel
theorem dX6_reduceAll_30 : decode cX6_reduceAll 30 = .ok (.getfield 37, 3) := by decide +kernel
theorem dX6_reduceAll_33 : decode cX6_reduceAll 33 = .ok (.iload_n 3, 1) := by decide +kernel
theorem dX6_reduceAll_34 : decode cX6_reduceAll 34 = .ok (.iaload, 1) := by decide +kernel
theorem dX6_reduceAll_35 : decode cX6_reduceAll 35 = .ok (.invokestatic 182, 3) := by decide +kernel
theorem dX6_reduceAll_38 : decode cX6_reduceAll 38 = .ok (.istore 4, 2) := by decide +kernel
theorem dX6_reduceAll_40 : decode cX6_reduceAll 40 = .ok (.aload_n 0, 1) := by decide +kernel
theorem dX6_reduceAll_41 : decode cX6_reduceAll 41 = .ok (.getfield 40, 3) := by decide +kernel
theorem dX6_reduceAll_44 : decode cX6_reduceAll 44 = .ok (.iload_n 2, 1) := by decide +kernel
theorem dX6_reduceAll_45 : decode cX6_reduceAll 45 = .ok (.iload_n 3, 1) := by decide +kernel
theorem dX6_reduceAll_46 : decode cX6_reduceAll 46 = .ok (.iastore, 1) := by decide +kernel
theorem dX6_reduceAll_47 : decode cX6_reduceAll 47 = .ok (.aload_n 0, 1) := by decide +kernel
theorem dX6_reduceAll_48 : decode cX6_reduceAll 48 = .ok (.getfield 43, 3) := by decide +kernel
theorem dX6_reduceAll_51 : decode cX6_reduceAll 51 = .ok (.iload_n 2, 1) := by decide +kernel
theorem dX6_reduceAll_52 : decode cX6_reduceAll 52 = .ok (.iload 4, 2) := by decide +kernel
theorem dX6_reduceAll_54 : decode cX6_reduceAll 54 = .ok (.iconst 3, 1) := by decide +kernel
theorem dX6_reduceAll_55 : decode cX6_reduceAll 55 = .ok (.if_icmp .ge 8, 3) := by decide +kernel
theorem dX6_reduceAll_58 : decode cX6_reduceAll 58 = .ok (.iload 4, 2) := by decide +kernel
theorem dX6_reduceAll_60 : decode cX6_reduceAll 60 = .ok (.goto 4, 3) := by decide +kernel
theorem dX6_reduceAll_63 : decode cX6_reduceAll 63 = .ok (.iconst 3, 1) := by decide +kernel
theorem dX6_reduceAll_64 : decode cX6_reduceAll 64 = .ok (.iastore, 1) := by decide +kernel
theorem dX6_reduceAll_65 : decode cX6_reduceAll 65 = .ok (.aload_n 0, 1) := by decide +kernel
theorem dX6_reduceAll_66 : decode cX6_reduceAll 66 = .ok (.getfield 46, 3) := by decide +kernel
theorem dX6_reduceAll_69 : decode cX6_reduceAll 69 = .ok (.iload_n 2, 1) := by decide +kernel
theorem dX6_reduceAll_70 : decode cX6_reduceAll 70 = .ok (.aload_n 0, 1) := by decide +kernel
theorem dX6_reduceAll_71 : decode cX6_reduceAll 71 = .ok (.getfield 37, 3) := by decide +kernel
theorem dX6_reduceAll_74 : decode cX6_reduceAll 74 = .ok (.iload_n 3, 1) := by decide +kernel
theorem dX6_reduceAll_75 : decode cX6_reduceAll 75 = .ok (.iaload, 1) := by decide +kernel
theorem dX6_reduceAll_76 : decode cX6_reduceAll 76 = .ok (.iastore, 1) := by decide +kernel
theorem dX6_reduceAll_77 : decode cX6_reduceAll 77 = .ok (.iload 4, 2) := by decide +kernel
theorem dX6_reduceAll_79 : decode cX6_reduceAll 79 = .ok (.iconst 1, 1) := by decide +kernel
theorem dX6_reduceAll_80 : decode cX6_reduceAll 80 = .ok (.if_icmp .ne 21, 3) := by decide +kernel
theorem dX6_reduceAll_83 : decode cX6_reduceAll 83 = .ok (.aload_n 0, 1) := by decide +kernel
theorem dX6_reduceAll_84 : decode cX6_reduceAll 84 = .ok (.iload_n 3, 1) := by decide +kernel
theorem dX6_reduceAll_85 : decode cX6_reduceAll 85 = .ok (.aload_n 0, 1) := by decide +kernel
theorem dX6_reduceAll_86 : decode cX6_reduceAll 86 = .ok (.getfield 37, 3) := by decide +kernel
theorem dX6_reduceAll_89 : decode cX6_reduceAll 89 = .ok (.iload_n 3, 1) := by decide +kernel
theorem dX6_reduceAll_90 : decode cX6_reduceAll 90 = .ok (.iaload, 1) := by decide +kernel
theorem dX6_reduceAll_91 : decode cX6_reduceAll 91 = .ok (.iconst 0, 1) := by decide +kernel
theorem dX6_reduceAll_92 : decode cX6_reduceAll 92 = .ok (.invokestatic 205, 3) := by decide +kernel
theorem dX6_reduceAll_95 : decode cX6_reduceAll 95 = .ok (.invokevirtual 208, 3) := by decide +kernel
theorem dX6_reduceAll_98 : decode cX6_reduceAll 98 = .ok (.goto 48, 3) := by decide +kernel
theorem dX6_reduceAll_101 : decode cX6_reduceAll 101 = .ok (.iload 4, 2) := by decide +kernel
theorem dX6_reduceAll_103 : decode cX6_reduceAll 103 = .ok (.iconst 2, 1) := by decide +kernel
theorem dX6_reduceAll_104 : decode cX6_reduceAll 104 = .ok (.if_icmp .ne 31, 3) := by decide +kernel
theorem dX6_reduceAll_107 : decode cX6_reduceAll 107 = .ok (.aload_n 0, 1) := by decide +kernel
theorem dX6_reduceAll_108 : decode cX6_reduceAll 108 = .ok (.iload_n 3, 1) := by decide +kernel
theorem dX6_reduceAll_109 : decode cX6_reduceAll 109 = .ok (.aload_n 0, 1) := by decide +kernel
theorem dX6_reduceAll_110 : decode cX6_reduceAll 110 = .ok (.getfield 37, 3) := by decide +kernel
theorem dX6_reduceAll_113 : decode cX6_reduceAll 113 = .ok (.iload_n 3, 1) := by decide +kernel
theorem dX6_reduceAll_114 : decode cX6_reduceAll 114 = .ok (.iaload, 1) := by decide +kernel
theorem dX6_reduceAll_115 : decode cX6_reduceAll 115 = .ok (.iconst 0, 1) := by decide +kernel
theorem dX6_reduceAll_116 : decode cX6_reduceAll 116 = .ok (.invokestatic 205, 3) := by decide +kernel
theorem dX6_reduceAll_119 : decode cX6_reduceAll 119 = .ok (.aload_n 0, 1) := by decide +kernel
theorem dX6_reduceAll_120 : decode cX6_reduceAll 120 = .ok (.getfield 37, 3) := by decide +kernel
theorem dX6_reduceAll_123 : decode cX6_reduceAll 123 = .ok (.iload_n 3, 1) := by decide +kernel
theorem dX6_reduceAll_124 : decode cX6_reduceAll 124 = .ok (.iaload, 1) := by decide +kernel
theorem dX6_reduceAll_125 : decode cX6_reduceAll 125 = .ok (.iconst 1, 1) := by decide +kernel
theorem dX6_reduceAll_126 : decode cX6_reduceAll 126 = .ok (.invokestatic 205, 3) := by decide +kernel
theorem dX6_reduceAll_129 : decode cX6_reduceAll 129 = .ok (.invokevirtual 211, 3) := by decide +kernel
theorem dX6_reduceAll_132 : decode cX6_reduceAll 132 = .ok (.goto 14, 3) := by decide +kernel
theorem dX6_reduceAll_135 : decode cX6_reduceAll 135 = .ok (.iload 4, 2) := by decide +kernel
theorem dX6_reduceAll_137 : decode cX6_reduceAll 137 = .ok (.iconst 2, 1) := by decide +kernel
theorem dX6_reduceAll_138 : decode cX6_reduceAll 138 = .ok (.if_icmp .le 8, 3) := by decide +kernel
theorem dX6_reduceAll_141 : decode cX6_reduceAll 141 = .ok (.aload_n 0, 1) := by decide +kernel
theorem dX6_reduceAll_142 : decode cX6_reduceAll 142 = .ok (.iload_n 3, 1) := by decide +kernel
theorem dX6_reduceAll_143 : decode cX6_reduceAll 143 = .ok (.invokevirtual 214, 3) := by decide +kernel
theorem dX6_reduceAll_146 : decode cX6_reduceAll 146 = .ok (.iconst 0, 1) := by decide +kernel
theorem dX6_reduceAll_147 : decode cX6_reduceAll 147 = .ok (.istore 5, 2) := by decide +kernel
theorem dX6_reduceAll_149 : decode cX6_reduceAll 149 = .ok (.iload 5, 2) := by decide +kernel
theorem dX6_reduceAll_151 : decode cX6_reduceAll 151 = .ok (.aload_n 0, 1) := by decide +kernel
theorem dX6_reduceAll_152 : decode cX6_reduceAll 152 = .ok (.getfield 132, 3) := by decide +kernel
theorem dX6_reduceAll_155 : decode cX6_reduceAll 155 = .ok (.if_icmp .ge 24, 3) := by decide +kernel
theorem dX6_reduceAll_158 : decode cX6_reduceAll 158 = .ok (.aload_n 0, 1) := by decide +kernel
theorem dX6_reduceAll_159 : decode cX6_reduceAll 159 = .ok (.getfield 37, 3) := by decide +kernel
theorem dX6_reduceAll_162 : decode cX6_reduceAll 162 = .ok (.iload 5, 2) := by decide +kernel
theorem dX6_reduceAll_164 : decode cX6_reduceAll 164 = .ok (.dup2, 1) := by decide +kernel
theorem dX6_reduceAll_165 : decode cX6_reduceAll 165 = .ok (.iaload, 1) := by decide +kernel
theorem dX6_reduceAll_166 : decode cX6_reduceAll 166 = .ok (.iconst 1, 1) := by decide +kernel
theorem dX6_reduceAll_167 : decode cX6_reduceAll 167 = .ok (.iload_n 3, 1) := by decide +kernel
theorem dX6_reduceAll_168 : decode cX6_reduceAll 168 = .ok (.ishl, 1) := by decide +kernel
theorem dX6_reduceAll_169 : decode cX6_reduceAll 169 = .ok (.iconst (-1), 1) := by decide +kernel
theorem dX6_reduceAll_170 : decode cX6_reduceAll 170 = .ok (.ixor, 1) := by decide +kernel
theorem dX6_reduceAll_171 : decode cX6_reduceAll 171 = .ok (.iand, 1) := by decide +kernel
theorem dX6_reduceAll_172 : decode cX6_reduceAll 172 = .ok (.iastore, 1) := by decide +kernel
theorem dX6_reduceAll_173 : decode cX6_reduceAll 173 = .ok (.iinc 5 1, 3) := by decide +kernel
theorem dX6_reduceAll_176 : decode cX6_reduceAll 176 = .ok (.goto (-27), 3) := by decide +kernel
theorem dX6_reduceAll_179 : decode cX6_reduceAll 179 = .ok (.iload_n 1, 1) := by decide +kernel
theorem dX6_reduceAll_180 : decode cX6_reduceAll 180 = .ok (.iconst 1, 1) := by decide +kernel
theorem dX6_reduceAll_181 : decode cX6_reduceAll 181 = .ok (.iload_n 3, 1) := by decide +kernel
theorem dX6_reduceAll_182 : decode cX6_reduceAll 182 = .ok (.ishl, 1) := by decide +kernel
theorem dX6_reduceAll_183 : decode cX6_reduceAll 183 = .ok (.iconst (-1), 1) := by decide +kernel
theorem dX6_reduceAll_184 : decode cX6_reduceAll 184 = .ok (.ixor, 1) := by decide +kernel
theorem dX6_reduceAll_185 : decode cX6_reduceAll 185 = .ok (.iand, 1) := by decide +kernel
theorem dX6_reduceAll_186 : decode cX6_reduceAll 186 = .ok (.istore_n 1, 1) := by decide +kernel
theorem dX6_reduceAll_187 : decode cX6_reduceAll 187 = .ok (.iinc 2 1, 3) := by decide +kernel
theorem dX6_reduceAll_190 : decode cX6_reduceAll 190 = .ok (.goto (-175), 3) := by decide +kernel
theorem dX6_reduceAll_193 : decode cX6_reduceAll 193 = .ok (.aload_n 0, 1) := by decide +kernel
theorem dX6_reduceAll_194 : decode cX6_reduceAll 194 = .ok (.getfield 132, 3) := by decide +kernel
theorem dX6_reduceAll_197 : decode cX6_reduceAll 197 = .ok (.iconst 1, 1) := by decide +kernel
theorem dX6_reduceAll_198 : decode cX6_reduceAll 198 = .ok (.isub, 1) := by decide +kernel
theorem dX6_reduceAll_199 : decode cX6_reduceAll 199 = .ok (.istore_n 2, 1) := by decide +kernel
theorem dX6_reduceAll_200 : decode cX6_reduceAll 200 = .ok (.iload_n 2, 1) := by decide +kernel
theorem dX6_reduceAll_201 : decode cX6_reduceAll 201 = .ok (.ifCond .lt 35, 3) := by decide +kernel
theorem dX6_reduceAll_204 : decode cX6_reduceAll 204 = .ok (.aload_n 0, 1) := by decide +kernel
theorem dX6_reduceAll_205 : decode cX6_reduceAll 205 = .ok (.getfield 43, 3) := by decide +kernel
theorem dX6_reduceAll_208 : decode cX6_reduceAll 208 = .ok (.iload_n 2, 1) := by decide +kernel
theorem dX6_reduceAll_209 : decode cX6_reduceAll 209 = .ok (.iaload, 1) := by decide +kernel
theorem dX6_reduceAll_210 : decode cX6_reduceAll 210 = .ok (.iconst 3, 1) := by decide +kernel
theorem dX6_reduceAll_211 : decode cX6_reduceAll 211 = .ok (.if_icmp .ge 19, 3) := by decide +kernel
theorem dX6_reduceAll_214 : decode cX6_reduceAll 214 = .ok (.aload_n 0, 1) := by decide +kernel
theorem dX6_reduceAll_215 : decode cX6_reduceAll 215 = .ok (.aload_n 0, 1) := by decide +kernel
theorem dX6_reduceAll_216 : decode cX6_reduceAll 216 = .ok (.getfield 40, 3) := by decide +kernel
theorem dX6_reduceAll_219 : decode cX6_reduceAll 219 = .ok (.iload_n 2, 1) := by decide +kernel
theorem dX6_reduceAll_220 : decode cX6_reduceAll 220 = .ok (.iaload, 1) := by decide +kernel
theorem dX6_reduceAll_221 : decode cX6_reduceAll 221 = .ok (.aload_n 0, 1) := by decide +kernel
theorem dX6_reduceAll_222 : decode cX6_reduceAll 222 = .ok (.getfield 46, 3) := by decide +kernel
theorem dX6_reduceAll_225 : decode cX6_reduceAll 225 = .ok (.iload_n 2, 1) := by decide +kernel
theorem dX6_reduceAll_226 : decode cX6_reduceAll 226 = .ok (.iaload, 1) := by decide +kernel
theorem dX6_reduceAll_227 : decode cX6_reduceAll 227 = .ok (.invokevirtual 218, 3) := by decide +kernel
theorem dX6_reduceAll_230 : decode cX6_reduceAll 230 = .ok (.iinc 2 (-1), 3) := by decide +kernel
theorem dX6_reduceAll_233 : decode cX6_reduceAll 233 = .ok (.goto (-33), 3) := by decide +kernel
theorem dX6_reduceAll_236 : decode cX6_reduceAll 236 = .ok (.return_, 1) := by decide +kernel
theorem dX6_takeBest_0 : decode cX6_takeBest 0 = .ok (.ldc 194, 2) := by decide +kernel
theorem dX6_takeBest_2 : decode cX6_takeBest 2 = .ok (.istore_n 3, 1) := by decide +kernel
theorem dX6_takeBest_3 : decode cX6_takeBest 3 = .ok (.iconst 0, 1) := by decide +kernel
theorem dX6_takeBest_4 : decode cX6_takeBest 4 = .ok (.istore 4, 2) := by decide +kernel
theorem dX6_takeBest_6 : decode cX6_takeBest 6 = .ok (.iload 4, 2) := by decide +kernel
theorem dX6_takeBest_8 : decode cX6_takeBest 8 = .ok (.aload_n 0, 1) := by decide +kernel
theorem dX6_takeBest_9 : decode cX6_takeBest 9 = .ok (.getfield 13, 3) := by decide +kernel
theorem dX6_takeBest_12 : decode cX6_takeBest 12 = .ok (.iload_n 1, 1) := by decide +kernel
theorem dX6_takeBest_13 : decode cX6_takeBest 13 = .ok (.iaload, 1) := by decide +kernel
theorem dX6_takeBest_14 : decode cX6_takeBest 14 = .ok (.if_icmp .ge 117, 3) := by decide +kernel
theorem dX6_takeBest_17 : decode cX6_takeBest 17 = .ok (.aload_n 0, 1) := by decide +kernel
theorem dX6_takeBest_18 : decode cX6_takeBest 18 = .ok (.getfield 31, 3) := by decide +kernel
theorem dX6_takeBest_21 : decode cX6_takeBest 21 = .ok (.iconst 4, 1) := by decide +kernel
theorem dX6_takeBest_22 : decode cX6_takeBest 22 = .ok (.iload_n 1, 1) := by decide +kernel
theorem dX6_takeBest_23 : decode cX6_takeBest 23 = .ok (.imul, 1) := by decide +kernel
theorem dX6_takeBest_24 : decode cX6_takeBest 24 = .ok (.iload 4, 2) := by decide +kernel
theorem dX6_takeBest_26 : decode cX6_takeBest 26 = .ok (.iadd, 1) := by decide +kernel
theorem dX6_takeBest_27 : decode cX6_takeBest 27 = .ok (.iaload, 1) := by decide +kernel
theorem dX6_takeBest_28 : decode cX6_takeBest 28 = .ok (.istore 5, 2) := by decide +kernel
theorem dX6_takeBest_30 : decode cX6_takeBest 30 = .ok (.iconst 0, 1) := by decide +kernel
theorem dX6_takeBest_31 : decode cX6_takeBest 31 = .ok (.istore 6, 2) := by decide +kernel
theorem dX6_takeBest_33 : decode cX6_takeBest 33 = .ok (.iload 6, 2) := by decide +kernel
theorem dX6_takeBest_35 : decode cX6_takeBest 35 = .ok (.aload_n 0, 1) := by decide +kernel
theorem dX6_takeBest_36 : decode cX6_takeBest 36 = .ok (.getfield 132, 3) := by decide +kernel
theorem dX6_takeBest_39 : decode cX6_takeBest 39 = .ok (.if_icmp .ge 50, 3) := by decide +kernel
theorem dX6_takeBest_42 : decode cX6_takeBest 42 = .ok (.iload 5, 2) := by decide +kernel
theorem dX6_takeBest_44 : decode cX6_takeBest 44 = .ok (.iload_n 2, 1) := by decide +kernel
theorem dX6_takeBest_45 : decode cX6_takeBest 45 = .ok (.iload 6, 2) := by decide +kernel
theorem dX6_takeBest_47 : decode cX6_takeBest 47 = .ok (.invokestatic 185, 3) := by decide +kernel
theorem dX6_takeBest_50 : decode cX6_takeBest 50 = .ok (.ifCond .eq 26, 3) := by decide +kernel
theorem dX6_takeBest_53 : decode cX6_takeBest 53 = .ok (.aload_n 0, 1) := by decide +kernel
theorem dX6_takeBest_54 : decode cX6_takeBest 54 = .ok (.getfield 34, 3) := by decide +kernel
theorem dX6_takeBest_57 : decode cX6_takeBest 57 = .ok (.iload_n 1, 1) := by decide +kernel
theorem dX6_takeBest_58 : decode cX6_takeBest 58 = .ok (.iload 6, 2) := by decide +kernel
theorem dX6_takeBest_60 : decode cX6_takeBest 60 = .ok (.iload 4, 2) := by decide +kernel
theorem dX6_takeBest_62 : decode cX6_takeBest 62 = .ok (.aload_n 0, 1) := by decide +kernel
theorem dX6_takeBest_63 : decode cX6_takeBest 63 = .ok (.getfield 49, 3) := by decide +kernel
theorem dX6_takeBest_66 : decode cX6_takeBest 66 = .ok (.iload 6, 2) := by decide +kernel
theorem dX6_takeBest_68 : decode cX6_takeBest 68 = .ok (.iaload, 1) := by decide +kernel
theorem dX6_takeBest_69 : decode cX6_takeBest 69 = .ok (.invokestatic 179, 3) := by decide +kernel
theorem dX6_takeBest_72 : decode cX6_takeBest 72 = .ok (.iaload, 1) := by decide +kernel
theorem dX6_takeBest_73 : decode cX6_takeBest 73 = .ok (.goto 4, 3) := by decide +kernel
theorem dX6_takeBest_76 : decode cX6_takeBest 76 = .ok (.iconst 0, 1) := by decide +kernel
theorem dX6_takeBest_77 : decode cX6_takeBest 77 = .ok (.iadd, 1) := by decide +kernel
theorem dX6_takeBest_78 : decode cX6_takeBest 78 = .ok (.invokestatic 191, 3) := by decide +kernel
theorem dX6_takeBest_81 : decode cX6_takeBest 81 = .ok (.istore 5, 2) := by decide +kernel
theorem dX6_takeBest_83 : decode cX6_takeBest 83 = .ok (.iinc 6 1, 3) := by decide +kernel
theorem dX6_takeBest_86 : decode cX6_takeBest 86 = .ok (.goto (-53), 3) := by decide +kernel
theorem dX6_takeBest_89 : decode cX6_takeBest 89 = .ok (.aload_n 0, 1) := by decide +kernel
theorem dX6_takeBest_90 : decode cX6_takeBest 90 = .ok (.getfield 49, 3) := by decide +kernel
theorem dX6_takeBest_93 : decode cX6_takeBest 93 = .ok (.iload_n 1, 1) := by decide +kernel
theorem dX6_takeBest_94 : decode cX6_takeBest 94 = .ok (.iload 5, 2) := by decide +kernel
theorem dX6_takeBest_96 : decode cX6_takeBest 96 = .ok (.iload_n 3, 1) := by decide +kernel
theorem dX6_takeBest_97 : decode cX6_takeBest 97 = .ok (.if_icmp .ge 8, 3) := by decide +kernel
theorem dX6_takeBest_100 : decode cX6_takeBest 100 = .ok (.iload 4, 2) := by decide +kernel
theorem dX6_takeBest_102 : decode cX6_takeBest 102 = .ok (.goto 9, 3) := by decide +kernel
theorem dX6_takeBest_105 : decode cX6_takeBest 105 = .ok (.aload_n 0, 1) := by decide +kernel
theorem dX6_takeBest_106 : decode cX6_takeBest 106 = .ok (.getfield 49, 3) := by decide +kernel
theorem dX6_takeBest_109 : decode cX6_takeBest 109 = .ok (.iload_n 1, 1) := by decide +kernel
theorem dX6_takeBest_110 : decode cX6_takeBest 110 = .ok (.iaload, 1) := by decide +kernel
theorem dX6_takeBest_111 : decode cX6_takeBest 111 = .ok (.iastore, 1) := by decide +kernel
theorem dX6_takeBest_112 : decode cX6_takeBest 112 = .ok (.iload 5, 2) := by decide +kernel
theorem dX6_takeBest_114 : decode cX6_takeBest 114 = .ok (.iload_n 3, 1) := by decide +kernel
theorem dX6_takeBest_115 : decode cX6_takeBest 115 = .ok (.if_icmp .ge 8, 3) := by decide +kernel
theorem dX6_takeBest_118 : decode cX6_takeBest 118 = .ok (.iload 5, 2) := by decide +kernel
theorem dX6_takeBest_120 : decode cX6_takeBest 120 = .ok (.goto 4, 3) := by decide +kernel
theorem dX6_takeBest_123 : decode cX6_takeBest 123 = .ok (.iload_n 3, 1) := by decide +kernel
theorem dX6_takeBest_124 : decode cX6_takeBest 124 = .ok (.istore_n 3, 1) := by decide +kernel
theorem dX6_takeBest_125 : decode cX6_takeBest 125 = .ok (.iinc 4 1, 3) := by decide +kernel
theorem dX6_takeBest_128 : decode cX6_takeBest 128 = .ok (.goto (-122), 3) := by decide +kernel
theorem dX6_takeBest_131 : decode cX6_takeBest 131 = .ok (.return_, 1) := by decide +kernel
theorem dX6_planCost_0 : decode cX6_planCost 0 = .ok (.iconst 0, 1) := by decide +kernel
theorem dX6_planCost_1 : decode cX6_planCost 1 = .ok (.istore_n 1, 1) := by decide +kernel
theorem dX6_planCost_2 : decode cX6_planCost 2 = .ok (.iconst 0, 1) := by decide +kernel
theorem dX6_planCost_3 : decode cX6_planCost 3 = .ok (.istore_n 2, 1) := by decide +kernel
theorem dX6_planCost_4 : decode cX6_planCost 4 = .ok (.iload_n 2, 1) := by decide +kernel
theorem dX6_planCost_5 : decode cX6_planCost 5 = .ok (.aload_n 0, 1) := by decide +kernel
theorem dX6_planCost_6 : decode cX6_planCost 6 = .ok (.getfield 132, 3) := by decide +kernel
theorem dX6_planCost_9 : decode cX6_planCost 9 = .ok (.if_icmp .ge 76, 3) := by decide +kernel
theorem dX6_planCost_12 : decode cX6_planCost 12 = .ok (.iload_n 1, 1) := by decide +kernel
theorem dX6_planCost_13 : decode cX6_planCost 13 = .ok (.aload_n 0, 1) := by decide +kernel
theorem dX6_planCost_14 : decode cX6_planCost 14 = .ok (.iload_n 2, 1) := by decide +kernel
theorem dX6_planCost_15 : decode cX6_planCost 15 = .ok (.aload_n 0, 1) := by decide +kernel
theorem dX6_planCost_16 : decode cX6_planCost 16 = .ok (.getfield 49, 3) := by decide +kernel
theorem dX6_planCost_19 : decode cX6_planCost 19 = .ok (.iload_n 2, 1) := by decide +kernel
theorem dX6_planCost_20 : decode cX6_planCost 20 = .ok (.iaload, 1) := by decide +kernel
theorem dX6_planCost_21 : decode cX6_planCost 21 = .ok (.invokevirtual 158, 3) := by decide +kernel
theorem dX6_planCost_24 : decode cX6_planCost 24 = .ok (.iadd, 1) := by decide +kernel
theorem dX6_planCost_25 : decode cX6_planCost 25 = .ok (.invokestatic 191, 3) := by decide +kernel
theorem dX6_planCost_28 : decode cX6_planCost 28 = .ok (.istore_n 1, 1) := by decide +kernel
theorem dX6_planCost_29 : decode cX6_planCost 29 = .ok (.iconst 0, 1) := by decide +kernel
theorem dX6_planCost_30 : decode cX6_planCost 30 = .ok (.istore_n 3, 1) := by decide +kernel
theorem dX6_planCost_31 : decode cX6_planCost 31 = .ok (.iload_n 3, 1) := by decide +kernel
theorem dX6_planCost_32 : decode cX6_planCost 32 = .ok (.iload_n 2, 1) := by decide +kernel
theorem dX6_planCost_33 : decode cX6_planCost 33 = .ok (.if_icmp .ge 46, 3) := by decide +kernel
theorem dX6_planCost_36 : decode cX6_planCost 36 = .ok (.iload_n 1, 1) := by decide +kernel
theorem dX6_planCost_37 : decode cX6_planCost 37 = .ok (.aload_n 0, 1) := by decide +kernel
theorem dX6_planCost_38 : decode cX6_planCost 38 = .ok (.iload_n 2, 1) := by decide +kernel
theorem dX6_planCost_39 : decode cX6_planCost 39 = .ok (.iload_n 3, 1) := by decide +kernel
theorem dX6_planCost_40 : decode cX6_planCost 40 = .ok (.invokevirtual 146, 3) := by decide +kernel
theorem dX6_planCost_43 : decode cX6_planCost 43 = .ok (.ifCond .eq 24, 3) := by decide +kernel
theorem dX6_planCost_46 : decode cX6_planCost 46 = .ok (.aload_n 0, 1) := by decide +kernel
theorem dX6_planCost_47 : decode cX6_planCost 47 = .ok (.iload_n 2, 1) := by decide +kernel
theorem dX6_planCost_48 : decode cX6_planCost 48 = .ok (.iload_n 3, 1) := by decide +kernel
theorem dX6_planCost_49 : decode cX6_planCost 49 = .ok (.aload_n 0, 1) := by decide +kernel
theorem dX6_planCost_50 : decode cX6_planCost 50 = .ok (.getfield 49, 3) := by decide +kernel
theorem dX6_planCost_53 : decode cX6_planCost 53 = .ok (.iload_n 2, 1) := by decide +kernel
theorem dX6_planCost_54 : decode cX6_planCost 54 = .ok (.iaload, 1) := by decide +kernel
theorem dX6_planCost_55 : decode cX6_planCost 55 = .ok (.aload_n 0, 1) := by decide +kernel
theorem dX6_planCost_56 : decode cX6_planCost 56 = .ok (.getfield 49, 3) := by decide +kernel
theorem dX6_planCost_59 : decode cX6_planCost 59 = .ok (.iload_n 3, 1) := by decide +kernel
theorem dX6_planCost_60 : decode cX6_planCost 60 = .ok (.iaload, 1) := by decide +kernel
theorem dX6_planCost_61 : decode cX6_planCost 61 = .ok (.invokevirtual 162, 3) := by decide +kernel
theorem dX6_planCost_64 : decode cX6_planCost 64 = .ok (.goto 4, 3) := by decide +kernel
theorem dX6_planCost_67 : decode cX6_planCost 67 = .ok (.iconst 0, 1) := by decide +kernel
theorem dX6_planCost_68 : decode cX6_planCost 68 = .ok (.iadd, 1) := by decide +kernel
theorem dX6_planCost_69 : decode cX6_planCost 69 = .ok (.invokestatic 191, 3) := by decide +kernel
theorem dX6_planCost_72 : decode cX6_planCost 72 = .ok (.istore_n 1, 1) := by decide +kernel
theorem dX6_planCost_73 : decode cX6_planCost 73 = .ok (.iinc 3 1, 3) := by decide +kernel
theorem dX6_planCost_76 : decode cX6_planCost 76 = .ok (.goto (-45), 3) := by decide +kernel
theorem dX6_planCost_79 : decode cX6_planCost 79 = .ok (.iinc 2 1, 3) := by decide +kernel
theorem dX6_planCost_82 : decode cX6_planCost 82 = .ok (.goto (-78), 3) := by decide +kernel
theorem dX6_planCost_85 : decode cX6_planCost 85 = .ok (.iload_n 1, 1) := by decide +kernel
theorem dX6_planCost_86 : decode cX6_planCost 86 = .ok (.ireturn, 1) := by decide +kernel
theorem dX6_turn_0 : decode cX6_turn 0 = .ok (.iload_n 1, 1) := by decide +kernel
theorem dX6_turn_1 : decode cX6_turn 1 = .ok (.i2l, 1) := by decide +kernel
theorem dX6_turn_2 : decode cX6_turn 2 = .ok (.lconst 0, 1) := by decide +kernel
theorem dX6_turn_3 : decode cX6_turn 3 = .ok (.aload_n 0, 1) := by decide +kernel
theorem dX6_turn_4 : decode cX6_turn 4 = .ok (.getfield 132, 3) := by decide +kernel
theorem dX6_turn_7 : decode cX6_turn 7 = .ok (.iconst 1, 1) := by decide +kernel
theorem dX6_turn_8 : decode cX6_turn 8 = .ok (.isub, 1) := by decide +kernel
theorem dX6_turn_9 : decode cX6_turn 9 = .ok (.i2l, 1) := by decide +kernel
theorem dX6_turn_10 : decode cX6_turn 10 = .ok (.invokestatic 89, 3) := by decide +kernel
theorem dX6_turn_13 : decode cX6_turn 13 = .ok (.ifCond .eq 13, 3) := by decide +kernel
theorem dX6_turn_16 : decode cX6_turn 16 = .ok (.iload_n 2, 1) := by decide +kernel
theorem dX6_turn_17 : decode cX6_turn 17 = .ok (.i2l, 1) := by decide +kernel
theorem dX6_turn_18 : decode cX6_turn 18 = .ok (.lconst 0, 1) := by decide +kernel
theorem dX6_turn_19 : decode cX6_turn 19 = .ok (.lconst 1, 1) := by decide +kernel
theorem dX6_turn_20 : decode cX6_turn 20 = .ok (.invokestatic 89, 3) := by decide +kernel
theorem dX6_turn_23 : decode cX6_turn 23 = .ok (.ifCond .ne 5, 3) := by decide +kernel
theorem dX6_turn_26 : decode cX6_turn 26 = .ok (.iconst (-1), 1) := by decide +kernel
theorem dX6_turn_27 : decode cX6_turn 27 = .ok (.ireturn, 1) := by decide +kernel
theorem dX6_turn_28 : decode cX6_turn 28 = .ok (.aload_n 0, 1) := by decide +kernel
theorem dX6_turn_29 : decode cX6_turn 29 = .ok (.invokevirtual 221, 3) := by decide +kernel
theorem dX6_turn_32 : decode cX6_turn 32 = .ok (.iload_n 2, 1) := by decide +kernel
theorem dX6_turn_33 : decode cX6_turn 33 = .ok (.ifCond .ne 12, 3) := by decide +kernel
theorem dX6_turn_36 : decode cX6_turn 36 = .ok (.aload_n 0, 1) := by decide +kernel
theorem dX6_turn_37 : decode cX6_turn 37 = .ok (.getfield 40, 3) := by decide +kernel
theorem dX6_turn_40 : decode cX6_turn 40 = .ok (.iload_n 1, 1) := by decide +kernel
theorem dX6_turn_41 : decode cX6_turn 41 = .ok (.iaload, 1) := by decide +kernel
theorem dX6_turn_42 : decode cX6_turn 42 = .ok (.goto 9, 3) := by decide +kernel
theorem dX6_turn_45 : decode cX6_turn 45 = .ok (.aload_n 0, 1) := by decide +kernel
theorem dX6_turn_46 : decode cX6_turn 46 = .ok (.getfield 43, 3) := by decide +kernel
theorem dX6_turn_49 : decode cX6_turn 49 = .ok (.iload_n 1, 1) := by decide +kernel
theorem dX6_turn_50 : decode cX6_turn 50 = .ok (.iaload, 1) := by decide +kernel
theorem dX6_turn_51 : decode cX6_turn 51 = .ok (.ireturn, 1) := by decide +kernel
theorem dX6_reduced_0 : decode cX6_reduced 0 = .ok (.aload_n 0, 1) := by decide +kernel
theorem dX6_reduced_1 : decode cX6_reduced 1 = .ok (.iload_n 1, 1) := by decide +kernel
theorem dX6_reduced_2 : decode cX6_reduced 2 = .ok (.invokevirtual 141, 3) := by decide +kernel
theorem dX6_reduced_5 : decode cX6_reduced 5 = .ok (.ifCond .ne 5, 3) := by decide +kernel
theorem dX6_reduced_8 : decode cX6_reduced 8 = .ok (.iconst (-1), 1) := by decide +kernel
theorem dX6_reduced_9 : decode cX6_reduced 9 = .ok (.ireturn, 1) := by decide +kernel
theorem dX6_reduced_10 : decode cX6_reduced 10 = .ok (.aload_n 0, 1) := by decide +kernel
theorem dX6_reduced_11 : decode cX6_reduced 11 = .ok (.invokevirtual 221, 3) := by decide +kernel
theorem dX6_reduced_14 : decode cX6_reduced 14 = .ok (.aload_n 0, 1) := by decide +kernel
theorem dX6_reduced_15 : decode cX6_reduced 15 = .ok (.getfield 49, 3) := by decide +kernel
theorem dX6_reduced_18 : decode cX6_reduced 18 = .ok (.iload_n 1, 1) := by decide +kernel
theorem dX6_reduced_19 : decode cX6_reduced 19 = .ok (.iaload, 1) := by decide +kernel
theorem dX6_reduced_20 : decode cX6_reduced 20 = .ok (.ireturn, 1) := by decide +kernel
theorem dX6_plan_0 : decode cX6_plan 0 = .ok (.iload_n 1, 1) := by decide +kernel
theorem dX6_plan_1 : decode cX6_plan 1 = .ok (.i2l, 1) := by decide +kernel
theorem dX6_plan_2 : decode cX6_plan 2 = .ok (.lconst 0, 1) := by decide +kernel
theorem dX6_plan_3 : decode cX6_plan 3 = .ok (.lconst 1, 1) := by decide +kernel
theorem dX6_plan_4 : decode cX6_plan 4 = .ok (.invokestatic 89, 3) := by decide +kernel
theorem dX6_plan_7 : decode cX6_plan 7 = .ok (.ifCond .ne 5, 3) := by decide +kernel
theorem dX6_plan_10 : decode cX6_plan 10 = .ok (.iconst (-1), 1) := by decide +kernel
theorem dX6_plan_11 : decode cX6_plan 11 = .ok (.ireturn, 1) := by decide +kernel
theorem dX6_plan_12 : decode cX6_plan 12 = .ok (.aload_n 0, 1) := by decide +kernel
theorem dX6_plan_13 : decode cX6_plan 13 = .ok (.invokevirtual 221, 3) := by decide +kernel
theorem dX6_plan_16 : decode cX6_plan 16 = .ok (.iload_n 1, 1) := by decide +kernel
theorem dX6_plan_17 : decode cX6_plan 17 = .ok (.ifCond .ne 8, 3) := by decide +kernel
theorem dX6_plan_20 : decode cX6_plan 20 = .ok (.aload_n 0, 1) := by decide +kernel
theorem dX6_plan_21 : decode cX6_plan 21 = .ok (.invokevirtual 224, 3) := by decide +kernel
theorem dX6_plan_24 : decode cX6_plan 24 = .ok (.ireturn, 1) := by decide +kernel
theorem dX6_plan_25 : decode cX6_plan 25 = .ok (.iconst 1, 1) := by decide +kernel
theorem dX6_plan_26 : decode cX6_plan 26 = .ok (.istore_n 2, 1) := by decide +kernel
theorem dX6_plan_27 : decode cX6_plan 27 = .ok (.iconst 0, 1) := by decide +kernel
theorem dX6_plan_28 : decode cX6_plan 28 = .ok (.istore_n 3, 1) := by decide +kernel
theorem dX6_plan_29 : decode cX6_plan 29 = .ok (.iload_n 3, 1) := by decide +kernel
theorem dX6_plan_30 : decode cX6_plan 30 = .ok (.aload_n 0, 1) := by decide +kernel
theorem dX6_plan_31 : decode cX6_plan 31 = .ok (.getfield 132, 3) := by decide +kernel
theorem dX6_plan_34 : decode cX6_plan 34 = .ok (.if_icmp .ge 25, 3) := by decide +kernel
theorem dX6_plan_37 : decode cX6_plan 37 = .ok (.aload_n 0, 1) := by decide +kernel
theorem dX6_plan_38 : decode cX6_plan 38 = .ok (.getfield 43, 3) := by decide +kernel
theorem dX6_plan_41 : decode cX6_plan 41 = .ok (.iload_n 3, 1) := by decide +kernel
theorem dX6_plan_42 : decode cX6_plan 42 = .ok (.iaload, 1) := by decide +kernel
theorem dX6_plan_43 : decode cX6_plan 43 = .ok (.iconst 3, 1) := by decide +kernel
theorem dX6_plan_44 : decode cX6_plan 44 = .ok (.if_icmp .ne 7, 3) := by decide +kernel
theorem dX6_plan_47 : decode cX6_plan 47 = .ok (.iconst 0, 1) := by decide +kernel
theorem dX6_plan_48 : decode cX6_plan 48 = .ok (.goto 4, 3) := by decide +kernel
theorem dX6_plan_51 : decode cX6_plan 51 = .ok (.iload_n 2, 1) := by decide +kernel
theorem dX6_plan_52 : decode cX6_plan 52 = .ok (.istore_n 2, 1) := by decide +kernel
theorem dX6_plan_53 : decode cX6_plan 53 = .ok (.iinc 3 1, 3) := by decide +kernel
theorem dX6_plan_56 : decode cX6_plan 56 = .ok (.goto (-27), 3) := by decide +kernel
theorem dX6_plan_59 : decode cX6_plan 59 = .ok (.iload_n 2, 1) := by decide +kernel
theorem dX6_plan_60 : decode cX6_plan 60 = .ok (.ireturn, 1) := by decide +kernel
theorem dX6_goAll_0 : decode cX6_goAll 0 = .ok (.aload_n 0, 1) := by decide +kernel
theorem dX6_goAll_1 : decode cX6_goAll 1 = .ok (.ldc 145, 2) := by decide +kernel
theorem dX6_goAll_3 : decode cX6_goAll 3 = .ok (.putfield 227, 3) := by decide +kernel
theorem dX6_goAll_6 : decode cX6_goAll 6 = .ok (.aload_n 0, 1) := by decide +kernel
theorem dX6_goAll_7 : decode cX6_goAll 7 = .ok (.iconst 0, 1) := by decide +kernel
theorem dX6_goAll_8 : decode cX6_goAll 8 = .ok (.putfield 230, 3) := by decide +kernel
theorem dX6_goAll_11 : decode cX6_goAll 11 = .ok (.aload_n 0, 1) := by decide +kernel
theorem dX6_goAll_12 : decode cX6_goAll 12 = .ok (.ldc 145, 2) := by decide +kernel
theorem dX6_goAll_14 : decode cX6_goAll 14 = .ok (.putfield 233, 3) := by decide +kernel
theorem dX6_goAll_17 : decode cX6_goAll 17 = .ok (.iconst 1, 1) := by decide +kernel
theorem dX6_goAll_18 : decode cX6_goAll 18 = .ok (.istore_n 3, 1) := by decide +kernel
theorem dX6_goAll_19 : decode cX6_goAll 19 = .ok (.iconst 0, 1) := by decide +kernel
theorem dX6_goAll_20 : decode cX6_goAll 20 = .ok (.istore 4, 2) := by decide +kernel
theorem dX6_goAll_22 : decode cX6_goAll 22 = .ok (.iload 4, 2) := by decide +kernel
theorem dX6_goAll_24 : decode cX6_goAll 24 = .ok (.aload_n 0, 1) := by decide +kernel
theorem dX6_goAll_25 : decode cX6_goAll 25 = .ok (.getfield 132, 3) := by decide +kernel
theorem dX6_goAll_28 : decode cX6_goAll 28 = .ok (.if_icmp .ge 28, 3) := by decide +kernel
theorem dX6_goAll_31 : decode cX6_goAll 31 = .ok (.iload_n 3, 1) := by decide +kernel
theorem dX6_goAll_32 : decode cX6_goAll 32 = .ok (.aload_n 0, 1) := by decide +kernel
theorem dX6_goAll_33 : decode cX6_goAll 33 = .ok (.getfield 13, 3) := by decide +kernel
theorem dX6_goAll_36 : decode cX6_goAll 36 = .ok (.iload 4, 2) := by decide +kernel
theorem dX6_goAll_38 : decode cX6_goAll 38 = .ok (.iaload, 1) := by decide +kernel
theorem dX6_goAll_39 : decode cX6_goAll 39 = .ok (.imul, 1) := by decide +kernel
theorem dX6_goAll_40 : decode cX6_goAll 40 = .ok (.istore_n 3, 1) := by decide +kernel
theorem dX6_goAll_41 : decode cX6_goAll 41 = .ok (.aload_n 0, 1) := by decide +kernel
theorem dX6_goAll_42 : decode cX6_goAll 42 = .ok (.getfield 52, 3) := by decide +kernel
theorem dX6_goAll_45 : decode cX6_goAll 45 = .ok (.iload 4, 2) := by decide +kernel
theorem dX6_goAll_47 : decode cX6_goAll 47 = .ok (.bipush (-4), 2) := by decide +kernel
theorem dX6_goAll_49 : decode cX6_goAll 49 = .ok (.iastore, 1) := by decide +kernel
theorem dX6_goAll_50 : decode cX6_goAll 50 = .ok (.iinc 4 1, 3) := by decide +kernel
theorem dX6_goAll_53 : decode cX6_goAll 53 = .ok (.goto (-31), 3) := by decide +kernel
theorem dX6_goAll_56 : decode cX6_goAll 56 = .ok (.iconst 0, 1) := by decide +kernel
theorem dX6_goAll_57 : decode cX6_goAll 57 = .ok (.istore 4, 2) := by decide +kernel
theorem dX6_goAll_59 : decode cX6_goAll 59 = .ok (.iload 4, 2) := by decide +kernel
theorem dX6_goAll_61 : decode cX6_goAll 61 = .ok (.iload_n 3, 1) := by decide +kernel
theorem dX6_goAll_62 : decode cX6_goAll 62 = .ok (.if_icmp .ge 85, 3) := by decide +kernel
theorem dX6_goAll_65 : decode cX6_goAll 65 = .ok (.iload 4, 2) := by decide +kernel
theorem dX6_goAll_67 : decode cX6_goAll 67 = .ok (.istore 5, 2) := by decide +kernel
theorem dX6_goAll_69 : decode cX6_goAll 69 = .ok (.aload_n 0, 1) := by decide +kernel
theorem dX6_goAll_70 : decode cX6_goAll 70 = .ok (.getfield 132, 3) := by decide +kernel
theorem dX6_goAll_73 : decode cX6_goAll 73 = .ok (.iconst 1, 1) := by decide +kernel
theorem dX6_goAll_74 : decode cX6_goAll 74 = .ok (.isub, 1) := by decide +kernel
theorem dX6_goAll_75 : decode cX6_goAll 75 = .ok (.istore 6, 2) := by decide +kernel
theorem dX6_goAll_77 : decode cX6_goAll 77 = .ok (.iload 6, 2) := by decide +kernel
theorem dX6_goAll_79 : decode cX6_goAll 79 = .ok (.ifCond .lt 38, 3) := by decide +kernel
theorem dX6_goAll_82 : decode cX6_goAll 82 = .ok (.aload_n 0, 1) := by decide +kernel
theorem dX6_goAll_83 : decode cX6_goAll 83 = .ok (.getfield 49, 3) := by decide +kernel
theorem dX6_goAll_86 : decode cX6_goAll 86 = .ok (.iload 6, 2) := by decide +kernel
theorem dX6_goAll_88 : decode cX6_goAll 88 = .ok (.iload 5, 2) := by decide +kernel
theorem dX6_goAll_90 : decode cX6_goAll 90 = .ok (.aload_n 0, 1) := by decide +kernel
theorem dX6_goAll_91 : decode cX6_goAll 91 = .ok (.getfield 13, 3) := by decide +kernel
theorem dX6_goAll_94 : decode cX6_goAll 94 = .ok (.iload 6, 2) := by decide +kernel
theorem dX6_goAll_96 : decode cX6_goAll 96 = .ok (.iaload, 1) := by decide +kernel
theorem dX6_goAll_97 : decode cX6_goAll 97 = .ok (.irem, 1) := by decide +kernel
theorem dX6_goAll_98 : decode cX6_goAll 98 = .ok (.iastore, 1) := by decide +kernel
theorem dX6_goAll_99 : decode cX6_goAll 99 = .ok (.iload 5, 2) := by decide +kernel
theorem dX6_goAll_101 : decode cX6_goAll 101 = .ok (.aload_n 0, 1) := by decide +kernel
theorem dX6_goAll_102 : decode cX6_goAll 102 = .ok (.getfield 13, 3) := by decide +kernel
theorem dX6_goAll_105 : decode cX6_goAll 105 = .ok (.iload 6, 2) := by decide +kernel
theorem dX6_goAll_107 : decode cX6_goAll 107 = .ok (.iaload, 1) := by decide +kernel
theorem dX6_goAll_108 : decode cX6_goAll 108 = .ok (.idiv, 1) := by decide +kernel
theorem dX6_goAll_109 : decode cX6_goAll 109 = .ok (.istore 5, 2) := by decide +kernel
theorem dX6_goAll_111 : decode cX6_goAll 111 = .ok (.iinc 6 (-1), 3) := by decide +kernel
theorem dX6_goAll_114 : decode cX6_goAll 114 = .ok (.goto (-37), 3) := by decide +kernel
theorem dX6_goAll_117 : decode cX6_goAll 117 = .ok (.iload_n 1, 1) := by decide +kernel
theorem dX6_goAll_118 : decode cX6_goAll 118 = .ok (.bipush (-4), 2) := by decide +kernel
theorem dX6_goAll_120 : decode cX6_goAll 120 = .ok (.if_icmp .eq 13, 3) := by decide +kernel
theorem dX6_goAll_123 : decode cX6_goAll 123 = .ok (.aload_n 0, 1) := by decide +kernel
theorem dX6_goAll_124 : decode cX6_goAll 124 = .ok (.getfield 49, 3) := by decide +kernel
theorem dX6_goAll_127 : decode cX6_goAll 127 = .ok (.iload_n 1, 1) := by decide +kernel
theorem dX6_goAll_128 : decode cX6_goAll 128 = .ok (.iaload, 1) := by decide +kernel
theorem dX6_goAll_129 : decode cX6_goAll 129 = .ok (.iload_n 2, 1) := by decide +kernel
theorem dX6_goAll_130 : decode cX6_goAll 130 = .ok (.if_icmp .ne 11, 3) := by decide +kernel
theorem dX6_goAll_133 : decode cX6_goAll 133 = .ok (.aload_n 0, 1) := by decide +kernel
theorem dX6_goAll_134 : decode cX6_goAll 134 = .ok (.aload_n 0, 1) := by decide +kernel
theorem dX6_goAll_135 : decode cX6_goAll 135 = .ok (.invokevirtual 224, 3) := by decide +kernel
theorem dX6_goAll_138 : decode cX6_goAll 138 = .ok (.invokevirtual 236, 3) := by decide +kernel
theorem dX6_goAll_141 : decode cX6_goAll 141 = .ok (.iinc 4 1, 3) := by decide +kernel
theorem dX6_goAll_144 : decode cX6_goAll 144 = .ok (.goto (-85), 3) := by decide +kernel
theorem dX6_goAll_147 : decode cX6_goAll 147 = .ok (.return_, 1) := by decide +kernel
theorem dX6_meetPlan_0 : decode cX6_meetPlan 0 = .ok (.iload_n 1, 1) := by decide +kernel
theorem dX6_meetPlan_1 : decode cX6_meetPlan 1 = .ok (.aload_n 0, 1) := by decide +kernel
theorem dX6_meetPlan_2 : decode cX6_meetPlan 2 = .ok (.getfield 227, 3) := by decide +kernel
theorem dX6_meetPlan_5 : decode cX6_meetPlan 5 = .ok (.if_icmp .ge 59, 3) := by decide +kernel
theorem dX6_meetPlan_8 : decode cX6_meetPlan 8 = .ok (.aload_n 0, 1) := by decide +kernel
theorem dX6_meetPlan_9 : decode cX6_meetPlan 9 = .ok (.aload_n 0, 1) := by decide +kernel
theorem dX6_meetPlan_10 : decode cX6_meetPlan 10 = .ok (.getfield 227, 3) := by decide +kernel
theorem dX6_meetPlan_13 : decode cX6_meetPlan 13 = .ok (.putfield 233, 3) := by decide +kernel
theorem dX6_meetPlan_16 : decode cX6_meetPlan 16 = .ok (.aload_n 0, 1) := by decide +kernel
theorem dX6_meetPlan_17 : decode cX6_meetPlan 17 = .ok (.iload_n 1, 1) := by decide +kernel
theorem dX6_meetPlan_18 : decode cX6_meetPlan 18 = .ok (.putfield 227, 3) := by decide +kernel
theorem dX6_meetPlan_21 : decode cX6_meetPlan 21 = .ok (.aload_n 0, 1) := by decide +kernel
theorem dX6_meetPlan_22 : decode cX6_meetPlan 22 = .ok (.iconst 0, 1) := by decide +kernel
theorem dX6_meetPlan_23 : decode cX6_meetPlan 23 = .ok (.putfield 230, 3) := by decide +kernel
theorem dX6_meetPlan_26 : decode cX6_meetPlan 26 = .ok (.iconst 0, 1) := by decide +kernel
theorem dX6_meetPlan_27 : decode cX6_meetPlan 27 = .ok (.istore_n 2, 1) := by decide +kernel
theorem dX6_meetPlan_28 : decode cX6_meetPlan 28 = .ok (.iload_n 2, 1) := by decide +kernel
theorem dX6_meetPlan_29 : decode cX6_meetPlan 29 = .ok (.aload_n 0, 1) := by decide +kernel
theorem dX6_meetPlan_30 : decode cX6_meetPlan 30 = .ok (.getfield 132, 3) := by decide +kernel
theorem dX6_meetPlan_33 : decode cX6_meetPlan 33 = .ok (.if_icmp .ge 28, 3) := by decide +kernel
theorem dX6_meetPlan_36 : decode cX6_meetPlan 36 = .ok (.aload_n 0, 1) := by decide +kernel
theorem dX6_meetPlan_37 : decode cX6_meetPlan 37 = .ok (.getfield 52, 3) := by decide +kernel
theorem dX6_meetPlan_40 : decode cX6_meetPlan 40 = .ok (.iload_n 2, 1) := by decide +kernel
theorem dX6_meetPlan_41 : decode cX6_meetPlan 41 = .ok (.aload_n 0, 1) := by decide +kernel
theorem dX6_meetPlan_42 : decode cX6_meetPlan 42 = .ok (.getfield 49, 3) := by decide +kernel
theorem dX6_meetPlan_45 : decode cX6_meetPlan 45 = .ok (.iload_n 2, 1) := by decide +kernel
theorem dX6_meetPlan_46 : decode cX6_meetPlan 46 = .ok (.iaload, 1) := by decide +kernel
theorem dX6_meetPlan_47 : decode cX6_meetPlan 47 = .ok (.iastore, 1) := by decide +kernel
theorem dX6_meetPlan_48 : decode cX6_meetPlan 48 = .ok (.aload_n 0, 1) := by decide +kernel
theorem dX6_meetPlan_49 : decode cX6_meetPlan 49 = .ok (.getfield 55, 3) := by decide +kernel
theorem dX6_meetPlan_52 : decode cX6_meetPlan 52 = .ok (.iload_n 2, 1) := by decide +kernel
theorem dX6_meetPlan_53 : decode cX6_meetPlan 53 = .ok (.iconst 0, 1) := by decide +kernel
theorem dX6_meetPlan_54 : decode cX6_meetPlan 54 = .ok (.iastore, 1) := by decide +kernel
theorem dX6_meetPlan_55 : decode cX6_meetPlan 55 = .ok (.iinc 2 1, 3) := by decide +kernel
theorem dX6_meetPlan_58 : decode cX6_meetPlan 58 = .ok (.goto (-30), 3) := by decide +kernel
theorem dX6_meetPlan_61 : decode cX6_meetPlan 61 = .ok (.goto 24, 3) := by decide +kernel
theorem dX6_meetPlan_64 : decode cX6_meetPlan 64 = .ok (.iload_n 1, 1) := by decide +kernel
theorem dX6_meetPlan_65 : decode cX6_meetPlan 65 = .ok (.aload_n 0, 1) := by decide +kernel
theorem dX6_meetPlan_66 : decode cX6_meetPlan 66 = .ok (.getfield 227, 3) := by decide +kernel
theorem dX6_meetPlan_69 : decode cX6_meetPlan 69 = .ok (.if_icmp .le 16, 3) := by decide +kernel
theorem dX6_meetPlan_72 : decode cX6_meetPlan 72 = .ok (.iload_n 1, 1) := by decide +kernel
theorem dX6_meetPlan_73 : decode cX6_meetPlan 73 = .ok (.aload_n 0, 1) := by decide +kernel
theorem dX6_meetPlan_74 : decode cX6_meetPlan 74 = .ok (.getfield 233, 3) := by decide +kernel
theorem dX6_meetPlan_77 : decode cX6_meetPlan 77 = .ok (.if_icmp .ge 8, 3) := by decide +kernel
theorem dX6_meetPlan_80 : decode cX6_meetPlan 80 = .ok (.aload_n 0, 1) := by decide +kernel
theorem dX6_meetPlan_81 : decode cX6_meetPlan 81 = .ok (.iload_n 1, 1) := by decide +kernel
theorem dX6_meetPlan_82 : decode cX6_meetPlan 82 = .ok (.putfield 233, 3) := by decide +kernel
theorem dX6_meetPlan_85 : decode cX6_meetPlan 85 = .ok (.iload_n 1, 1) := by decide +kernel
theorem dX6_meetPlan_86 : decode cX6_meetPlan 86 = .ok (.aload_n 0, 1) := by decide +kernel
theorem dX6_meetPlan_87 : decode cX6_meetPlan 87 = .ok (.getfield 227, 3) := by decide +kernel
theorem dX6_meetPlan_90 : decode cX6_meetPlan 90 = .ok (.if_icmp .ne 52, 3) := by decide +kernel
theorem dX6_meetPlan_93 : decode cX6_meetPlan 93 = .ok (.iload_n 1, 1) := by decide +kernel
theorem dX6_meetPlan_94 : decode cX6_meetPlan 94 = .ok (.ldc 145, 2) := by decide +kernel
theorem dX6_meetPlan_96 : decode cX6_meetPlan 96 = .ok (.if_icmp .ge 46, 3) := by decide +kernel
theorem dX6_meetPlan_99 : decode cX6_meetPlan 99 = .ok (.aload_n 0, 1) := by decide +kernel
theorem dX6_meetPlan_100 : decode cX6_meetPlan 100 = .ok (.dup, 1) := by decide +kernel
theorem dX6_meetPlan_101 : decode cX6_meetPlan 101 = .ok (.getfield 230, 3) := by decide +kernel
theorem dX6_meetPlan_104 : decode cX6_meetPlan 104 = .ok (.iconst 1, 1) := by decide +kernel
theorem dX6_meetPlan_105 : decode cX6_meetPlan 105 = .ok (.iadd, 1) := by decide +kernel
theorem dX6_meetPlan_106 : decode cX6_meetPlan 106 = .ok (.putfield 230, 3) := by decide +kernel
theorem dX6_meetPlan_109 : decode cX6_meetPlan 109 = .ok (.iconst 0, 1) := by decide +kernel
theorem dX6_meetPlan_110 : decode cX6_meetPlan 110 = .ok (.istore_n 2, 1) := by decide +kernel
theorem dX6_meetPlan_111 : decode cX6_meetPlan 111 = .ok (.iload_n 2, 1) := by decide +kernel
theorem dX6_meetPlan_112 : decode cX6_meetPlan 112 = .ok (.aload_n 0, 1) := by decide +kernel
theorem dX6_meetPlan_113 : decode cX6_meetPlan 113 = .ok (.getfield 132, 3) := by decide +kernel
theorem dX6_meetPlan_116 : decode cX6_meetPlan 116 = .ok (.if_icmp .ge 26, 3) := by decide +kernel
theorem dX6_meetPlan_119 : decode cX6_meetPlan 119 = .ok (.aload_n 0, 1) := by decide +kernel
theorem dX6_meetPlan_120 : decode cX6_meetPlan 120 = .ok (.getfield 55, 3) := by decide +kernel
theorem dX6_meetPlan_123 : decode cX6_meetPlan 123 = .ok (.iload_n 2, 1) := by decide +kernel
theorem dX6_meetPlan_124 : decode cX6_meetPlan 124 = .ok (.dup2, 1) := by decide +kernel
theorem dX6_meetPlan_125 : decode cX6_meetPlan 125 = .ok (.iaload, 1) := by decide +kernel
theorem dX6_meetPlan_126 : decode cX6_meetPlan 126 = .ok (.iconst 1, 1) := by decide +kernel
theorem dX6_meetPlan_127 : decode cX6_meetPlan 127 = .ok (.aload_n 0, 1) := by decide +kernel
theorem dX6_meetPlan_128 : decode cX6_meetPlan 128 = .ok (.getfield 49, 3) := by decide +kernel
theorem dX6_meetPlan_131 : decode cX6_meetPlan 131 = .ok (.iload_n 2, 1) := by decide +kernel
theorem dX6_meetPlan_132 : decode cX6_meetPlan 132 = .ok (.iaload, 1) := by decide +kernel
theorem dX6_meetPlan_133 : decode cX6_meetPlan 133 = .ok (.ishl, 1) := by decide +kernel
theorem dX6_meetPlan_134 : decode cX6_meetPlan 134 = .ok (.ior, 1) := by decide +kernel
theorem dX6_meetPlan_135 : decode cX6_meetPlan 135 = .ok (.iastore, 1) := by decide +kernel
theorem dX6_meetPlan_136 : decode cX6_meetPlan 136 = .ok (.iinc 2 1, 3) := by decide +kernel
theorem dX6_meetPlan_139 : decode cX6_meetPlan 139 = .ok (.goto (-28), 3) := by decide +kernel
theorem dX6_meetPlan_142 : decode cX6_meetPlan 142 = .ok (.return_, 1) := by decide +kernel
theorem dX6_sameSet_0 : decode cX6_sameSet 0 = .ok (.iconst 0, 1) := by decide +kernel
theorem dX6_sameSet_1 : decode cX6_sameSet 1 = .ok (.istore_n 1, 1) := by decide +kernel
theorem dX6_sameSet_2 : decode cX6_sameSet 2 = .ok (.iconst 0, 1) := by decide +kernel
theorem dX6_sameSet_3 : decode cX6_sameSet 3 = .ok (.istore_n 2, 1) := by decide +kernel
theorem dX6_sameSet_4 : decode cX6_sameSet 4 = .ok (.iload_n 2, 1) := by decide +kernel
theorem dX6_sameSet_5 : decode cX6_sameSet 5 = .ok (.aload_n 0, 1) := by decide +kernel
theorem dX6_sameSet_6 : decode cX6_sameSet 6 = .ok (.getfield 132, 3) := by decide +kernel
theorem dX6_sameSet_9 : decode cX6_sameSet 9 = .ok (.if_icmp .ge 32, 3) := by decide +kernel
theorem dX6_sameSet_12 : decode cX6_sameSet 12 = .ok (.iload_n 1, 1) := by decide +kernel
theorem dX6_sameSet_13 : decode cX6_sameSet 13 = .ok (.aload_n 0, 1) := by decide +kernel
theorem dX6_sameSet_14 : decode cX6_sameSet 14 = .ok (.getfield 55, 3) := by decide +kernel
theorem dX6_sameSet_17 : decode cX6_sameSet 17 = .ok (.iload_n 2, 1) := by decide +kernel
theorem dX6_sameSet_18 : decode cX6_sameSet 18 = .ok (.iaload, 1) := by decide +kernel
theorem dX6_sameSet_19 : decode cX6_sameSet 19 = .ok (.invokestatic 182, 3) := by decide +kernel
theorem dX6_sameSet_22 : decode cX6_sameSet 22 = .ok (.iconst 1, 1) := by decide +kernel
theorem dX6_sameSet_23 : decode cX6_sameSet 23 = .ok (.if_icmp .ne 9, 3) := by decide +kernel
theorem dX6_sameSet_26 : decode cX6_sameSet 26 = .ok (.iconst 1, 1) := by decide +kernel
theorem dX6_sameSet_27 : decode cX6_sameSet 27 = .ok (.iload_n 2, 1) := by decide +kernel
theorem dX6_sameSet_28 : decode cX6_sameSet 28 = .ok (.ishl, 1) := by decide +kernel
theorem dX6_sameSet_29 : decode cX6_sameSet 29 = .ok (.goto 4, 3) := by decide +kernel
theorem dX6_sameSet_32 : decode cX6_sameSet 32 = .ok (.iconst 0, 1) := by decide +kernel
theorem dX6_sameSet_33 : decode cX6_sameSet 33 = .ok (.ior, 1) := by decide +kernel
theorem dX6_sameSet_34 : decode cX6_sameSet 34 = .ok (.istore_n 1, 1) := by decide +kernel
theorem dX6_sameSet_35 : decode cX6_sameSet 35 = .ok (.iinc 2 1, 3) := by decide +kernel
theorem dX6_sameSet_38 : decode cX6_sameSet 38 = .ok (.goto (-34), 3) := by decide +kernel
theorem dX6_sameSet_41 : decode cX6_sameSet 41 = .ok (.iload_n 1, 1) := by decide +kernel
theorem dX6_sameSet_42 : decode cX6_sameSet 42 = .ok (.ireturn, 1) := by decide +kernel
theorem dX6_bound_0 : decode cX6_bound 0 = .ok (.iconst 0, 1) := by decide +kernel
theorem dX6_bound_1 : decode cX6_bound 1 = .ok (.istore_n 1, 1) := by decide +kernel
theorem dX6_bound_2 : decode cX6_bound 2 = .ok (.iconst 0, 1) := by decide +kernel
theorem dX6_bound_3 : decode cX6_bound 3 = .ok (.istore_n 2, 1) := by decide +kernel
theorem dX6_bound_4 : decode cX6_bound 4 = .ok (.iload_n 2, 1) := by decide +kernel
theorem dX6_bound_5 : decode cX6_bound 5 = .ok (.aload_n 0, 1) := by decide +kernel
theorem dX6_bound_6 : decode cX6_bound 6 = .ok (.getfield 132, 3) := by decide +kernel
theorem dX6_bound_9 : decode cX6_bound 9 = .ok (.if_icmp .ge 181, 3) := by decide +kernel
theorem dX6_bound_12 : decode cX6_bound 12 = .ok (.ldc 145, 2) := by decide +kernel
theorem dX6_bound_14 : decode cX6_bound 14 = .ok (.istore_n 3, 1) := by decide +kernel
theorem dX6_bound_15 : decode cX6_bound 15 = .ok (.iconst 0, 1) := by decide +kernel
theorem dX6_bound_16 : decode cX6_bound 16 = .ok (.istore 4, 2) := by decide +kernel
theorem dX6_bound_18 : decode cX6_bound 18 = .ok (.iload 4, 2) := by decide +kernel
theorem dX6_bound_20 : decode cX6_bound 20 = .ok (.aload_n 0, 1) := by decide +kernel
theorem dX6_bound_21 : decode cX6_bound 21 = .ok (.getfield 13, 3) := by decide +kernel
theorem dX6_bound_24 : decode cX6_bound 24 = .ok (.iload_n 2, 1) := by decide +kernel
theorem dX6_bound_25 : decode cX6_bound 25 = .ok (.iaload, 1) := by decide +kernel
theorem dX6_bound_26 : decode cX6_bound 26 = .ok (.if_icmp .ge 32, 3) := by decide +kernel
theorem dX6_bound_29 : decode cX6_bound 29 = .ok (.aload_n 0, 1) := by decide +kernel
theorem dX6_bound_30 : decode cX6_bound 30 = .ok (.iload_n 2, 1) := by decide +kernel
theorem dX6_bound_31 : decode cX6_bound 31 = .ok (.iload 4, 2) := by decide +kernel
theorem dX6_bound_33 : decode cX6_bound 33 = .ok (.invokevirtual 158, 3) := by decide +kernel
theorem dX6_bound_36 : decode cX6_bound 36 = .ok (.iload_n 3, 1) := by decide +kernel
theorem dX6_bound_37 : decode cX6_bound 37 = .ok (.if_icmp .ge 13, 3) := by decide +kernel
theorem dX6_bound_40 : decode cX6_bound 40 = .ok (.aload_n 0, 1) := by decide +kernel
theorem dX6_bound_41 : decode cX6_bound 41 = .ok (.iload_n 2, 1) := by decide +kernel
theorem dX6_bound_42 : decode cX6_bound 42 = .ok (.iload 4, 2) := by decide +kernel
theorem dX6_bound_44 : decode cX6_bound 44 = .ok (.invokevirtual 158, 3) := by decide +kernel
theorem dX6_bound_47 : decode cX6_bound 47 = .ok (.goto 4, 3) := by decide +kernel
theorem dX6_bound_50 : decode cX6_bound 50 = .ok (.iload_n 3, 1) := by decide +kernel
theorem dX6_bound_51 : decode cX6_bound 51 = .ok (.istore_n 3, 1) := by decide +kernel
theorem dX6_bound_52 : decode cX6_bound 52 = .ok (.iinc 4 1, 3) := by decide +kernel
theorem dX6_bound_55 : decode cX6_bound 55 = .ok (.goto (-37), 3) := by decide +kernel
theorem dX6_bound_58 : decode cX6_bound 58 = .ok (.iload_n 1, 1) := by decide +kernel
theorem dX6_bound_59 : decode cX6_bound 59 = .ok (.iload_n 3, 1) := by decide +kernel
theorem dX6_bound_60 : decode cX6_bound 60 = .ok (.iadd, 1) := by decide +kernel
theorem dX6_bound_61 : decode cX6_bound 61 = .ok (.invokestatic 191, 3) := by decide +kernel
theorem dX6_bound_64 : decode cX6_bound 64 = .ok (.istore_n 1, 1) := by decide +kernel
theorem dX6_bound_65 : decode cX6_bound 65 = .ok (.iconst 0, 1) := by decide +kernel
theorem dX6_bound_66 : decode cX6_bound 66 = .ok (.istore 4, 2) := by decide +kernel
theorem dX6_bound_68 : decode cX6_bound 68 = .ok (.iload 4, 2) := by decide +kernel
theorem dX6_bound_70 : decode cX6_bound 70 = .ok (.iload_n 2, 1) := by decide +kernel
theorem dX6_bound_71 : decode cX6_bound 71 = .ok (.if_icmp .ge 113, 3) := by decide +kernel
theorem dX6_bound_74 : decode cX6_bound 74 = .ok (.aload_n 0, 1) := by decide +kernel
theorem dX6_bound_75 : decode cX6_bound 75 = .ok (.iload_n 2, 1) := by decide +kernel
theorem dX6_bound_76 : decode cX6_bound 76 = .ok (.iload 4, 2) := by decide +kernel
theorem dX6_bound_78 : decode cX6_bound 78 = .ok (.invokevirtual 146, 3) := by decide +kernel
theorem dX6_bound_81 : decode cX6_bound 81 = .ok (.ifCond .eq 8, 3) := by decide +kernel
theorem dX6_bound_84 : decode cX6_bound 84 = .ok (.ldc 145, 2) := by decide +kernel
theorem dX6_bound_86 : decode cX6_bound 86 = .ok (.goto 4, 3) := by decide +kernel
theorem dX6_bound_89 : decode cX6_bound 89 = .ok (.iconst 0, 1) := by decide +kernel
theorem dX6_bound_90 : decode cX6_bound 90 = .ok (.istore_n 3, 1) := by decide +kernel
theorem dX6_bound_91 : decode cX6_bound 91 = .ok (.iconst 0, 1) := by decide +kernel
theorem dX6_bound_92 : decode cX6_bound 92 = .ok (.istore 5, 2) := by decide +kernel
theorem dX6_bound_94 : decode cX6_bound 94 = .ok (.iload 5, 2) := by decide +kernel
theorem dX6_bound_96 : decode cX6_bound 96 = .ok (.aload_n 0, 1) := by decide +kernel
theorem dX6_bound_97 : decode cX6_bound 97 = .ok (.getfield 13, 3) := by decide +kernel
theorem dX6_bound_100 : decode cX6_bound 100 = .ok (.iload_n 2, 1) := by decide +kernel
theorem dX6_bound_101 : decode cX6_bound 101 = .ok (.iaload, 1) := by decide +kernel
theorem dX6_bound_102 : decode cX6_bound 102 = .ok (.aload_n 0, 1) := by decide +kernel
theorem dX6_bound_103 : decode cX6_bound 103 = .ok (.getfield 13, 3) := by decide +kernel
theorem dX6_bound_106 : decode cX6_bound 106 = .ok (.iload 4, 2) := by decide +kernel
theorem dX6_bound_108 : decode cX6_bound 108 = .ok (.iaload, 1) := by decide +kernel
theorem dX6_bound_109 : decode cX6_bound 109 = .ok (.imul, 1) := by decide +kernel
theorem dX6_bound_110 : decode cX6_bound 110 = .ok (.if_icmp .ge 61, 3) := by decide +kernel
theorem dX6_bound_113 : decode cX6_bound 113 = .ok (.aload_n 0, 1) := by decide +kernel
theorem dX6_bound_114 : decode cX6_bound 114 = .ok (.iload_n 2, 1) := by decide +kernel
theorem dX6_bound_115 : decode cX6_bound 115 = .ok (.iload 4, 2) := by decide +kernel
theorem dX6_bound_117 : decode cX6_bound 117 = .ok (.invokevirtual 146, 3) := by decide +kernel
theorem dX6_bound_120 : decode cX6_bound 120 = .ok (.ifCond .eq 51, 3) := by decide +kernel
theorem dX6_bound_123 : decode cX6_bound 123 = .ok (.aload_n 0, 1) := by decide +kernel
theorem dX6_bound_124 : decode cX6_bound 124 = .ok (.iload_n 2, 1) := by decide +kernel
theorem dX6_bound_125 : decode cX6_bound 125 = .ok (.iload 4, 2) := by decide +kernel
theorem dX6_bound_127 : decode cX6_bound 127 = .ok (.iload 5, 2) := by decide +kernel
theorem dX6_bound_129 : decode cX6_bound 129 = .ok (.aload_n 0, 1) := by decide +kernel
theorem dX6_bound_130 : decode cX6_bound 130 = .ok (.getfield 13, 3) := by decide +kernel
theorem dX6_bound_133 : decode cX6_bound 133 = .ok (.iload 4, 2) := by decide +kernel
theorem dX6_bound_135 : decode cX6_bound 135 = .ok (.iaload, 1) := by decide +kernel
theorem dX6_bound_136 : decode cX6_bound 136 = .ok (.idiv, 1) := by decide +kernel
theorem dX6_bound_137 : decode cX6_bound 137 = .ok (.iload 5, 2) := by decide +kernel
theorem dX6_bound_139 : decode cX6_bound 139 = .ok (.aload_n 0, 1) := by decide +kernel
theorem dX6_bound_140 : decode cX6_bound 140 = .ok (.getfield 13, 3) := by decide +kernel
theorem dX6_bound_143 : decode cX6_bound 143 = .ok (.iload 4, 2) := by decide +kernel
theorem dX6_bound_145 : decode cX6_bound 145 = .ok (.iaload, 1) := by decide +kernel
theorem dX6_bound_146 : decode cX6_bound 146 = .ok (.irem, 1) := by decide +kernel
theorem dX6_bound_147 : decode cX6_bound 147 = .ok (.invokevirtual 162, 3) := by decide +kernel
theorem dX6_bound_150 : decode cX6_bound 150 = .ok (.istore 6, 2) := by decide +kernel
theorem dX6_bound_152 : decode cX6_bound 152 = .ok (.iload 6, 2) := by decide +kernel
theorem dX6_bound_154 : decode cX6_bound 154 = .ok (.iload_n 3, 1) := by decide +kernel
theorem dX6_bound_155 : decode cX6_bound 155 = .ok (.if_icmp .ge 8, 3) := by decide +kernel
theorem dX6_bound_158 : decode cX6_bound 158 = .ok (.iload 6, 2) := by decide +kernel
theorem dX6_bound_160 : decode cX6_bound 160 = .ok (.goto 4, 3) := by decide +kernel
theorem dX6_bound_163 : decode cX6_bound 163 = .ok (.iload_n 3, 1) := by decide +kernel
theorem dX6_bound_164 : decode cX6_bound 164 = .ok (.istore_n 3, 1) := by decide +kernel
theorem dX6_bound_165 : decode cX6_bound 165 = .ok (.iinc 5 1, 3) := by decide +kernel
theorem dX6_bound_168 : decode cX6_bound 168 = .ok (.goto (-74), 3) := by decide +kernel
theorem dX6_bound_171 : decode cX6_bound 171 = .ok (.iload_n 1, 1) := by decide +kernel
theorem dX6_bound_172 : decode cX6_bound 172 = .ok (.iload_n 3, 1) := by decide +kernel
theorem dX6_bound_173 : decode cX6_bound 173 = .ok (.iadd, 1) := by decide +kernel
theorem dX6_bound_174 : decode cX6_bound 174 = .ok (.invokestatic 191, 3) := by decide +kernel
theorem dX6_bound_177 : decode cX6_bound 177 = .ok (.istore_n 1, 1) := by decide +kernel
theorem dX6_bound_178 : decode cX6_bound 178 = .ok (.iinc 4 1, 3) := by decide +kernel
theorem dX6_bound_181 : decode cX6_bound 181 = .ok (.goto (-113), 3) := by decide +kernel
theorem dX6_bound_184 : decode cX6_bound 184 = .ok (.iinc 2 1, 3) := by decide +kernel
theorem dX6_bound_187 : decode cX6_bound 187 = .ok (.goto (-183), 3) := by decide +kernel
theorem dX6_bound_190 : decode cX6_bound 190 = .ok (.iload_n 1, 1) := by decide +kernel
theorem dX6_bound_191 : decode cX6_bound 191 = .ok (.ireturn, 1) := by decide +kernel
theorem dX6_least_0 : decode cX6_least 0 = .ok (.iload_n 1, 1) := by decide +kernel
theorem dX6_least_1 : decode cX6_least 1 = .ok (.i2l, 1) := by decide +kernel
theorem dX6_least_2 : decode cX6_least 2 = .ok (.lconst 0, 1) := by decide +kernel
theorem dX6_least_3 : decode cX6_least 3 = .ok (.ldc2_w 239, 3) := by decide +kernel
theorem dX6_least_6 : decode cX6_least 6 = .ok (.invokestatic 89, 3) := by decide +kernel
theorem dX6_least_9 : decode cX6_least 9 = .ok (.ifCond .ne 5, 3) := by decide +kernel
theorem dX6_least_12 : decode cX6_least 12 = .ok (.iconst (-1), 1) := by decide +kernel
theorem dX6_least_13 : decode cX6_least 13 = .ok (.ireturn, 1) := by decide +kernel
theorem dX6_least_14 : decode cX6_least 14 = .ok (.iload_n 1, 1) := by decide +kernel
theorem dX6_least_15 : decode cX6_least 15 = .ok (.iconst 4, 1) := by decide +kernel
theorem dX6_least_16 : decode cX6_least 16 = .ok (.if_icmp .ne 8, 3) := by decide +kernel
theorem dX6_least_19 : decode cX6_least 19 = .ok (.aload_n 0, 1) := by decide +kernel
theorem dX6_least_20 : decode cX6_least 20 = .ok (.invokevirtual 241, 3) := by decide +kernel
theorem dX6_least_23 : decode cX6_least 23 = .ok (.ireturn, 1) := by decide +kernel
theorem dX6_least_24 : decode cX6_least 24 = .ok (.aload_n 0, 1) := by decide +kernel
theorem dX6_least_25 : decode cX6_least 25 = .ok (.bipush (-4), 2) := by decide +kernel
theorem dX6_least_27 : decode cX6_least 27 = .ok (.iconst 0, 1) := by decide +kernel
theorem dX6_least_28 : decode cX6_least 28 = .ok (.invokevirtual 244, 3) := by decide +kernel
theorem dX6_least_31 : decode cX6_least 31 = .ok (.aload_n 0, 1) := by decide +kernel
theorem dX6_least_32 : decode cX6_least 32 = .ok (.getfield 227, 3) := by decide +kernel
theorem dX6_least_35 : decode cX6_least 35 = .ok (.ldc 145, 2) := by decide +kernel
theorem dX6_least_37 : decode cX6_least 37 = .ok (.if_icmp .ne 7, 3) := by decide +kernel
theorem dX6_least_40 : decode cX6_least 40 = .ok (.iconst 1, 1) := by decide +kernel
theorem dX6_least_41 : decode cX6_least 41 = .ok (.goto 4, 3) := by decide +kernel
theorem dX6_least_44 : decode cX6_least 44 = .ok (.iconst 0, 1) := by decide +kernel
theorem dX6_least_45 : decode cX6_least 45 = .ok (.istore_n 2, 1) := by decide +kernel
theorem dX6_least_46 : decode cX6_least 46 = .ok (.iload_n 1, 1) := by decide +kernel
theorem dX6_least_47 : decode cX6_least 47 = .ok (.ifCond .ne 10, 3) := by decide +kernel
theorem dX6_least_50 : decode cX6_least 50 = .ok (.aload_n 0, 1) := by decide +kernel
theorem dX6_least_51 : decode cX6_least 51 = .ok (.getfield 227, 3) := by decide +kernel
theorem dX6_least_54 : decode cX6_least 54 = .ok (.goto 58, 3) := by decide +kernel
theorem dX6_least_57 : decode cX6_least 57 = .ok (.iload_n 1, 1) := by decide +kernel
theorem dX6_least_58 : decode cX6_least 58 = .ok (.iconst 1, 1) := by decide +kernel
theorem dX6_least_59 : decode cX6_least 59 = .ok (.if_icmp .ne 10, 3) := by decide +kernel
theorem dX6_least_62 : decode cX6_least 62 = .ok (.aload_n 0, 1) := by decide +kernel
theorem dX6_least_63 : decode cX6_least 63 = .ok (.getfield 230, 3) := by decide +kernel
theorem dX6_least_66 : decode cX6_least 66 = .ok (.goto 46, 3) := by decide +kernel
theorem dX6_least_69 : decode cX6_least 69 = .ok (.iload_n 1, 1) := by decide +kernel
theorem dX6_least_70 : decode cX6_least 70 = .ok (.iconst 2, 1) := by decide +kernel
theorem dX6_least_71 : decode cX6_least 71 = .ok (.if_icmp .ne 19, 3) := by decide +kernel
theorem dX6_least_74 : decode cX6_least 74 = .ok (.iload_n 2, 1) := by decide +kernel
theorem dX6_least_75 : decode cX6_least 75 = .ok (.ifCond .eq 8, 3) := by decide +kernel
theorem dX6_least_78 : decode cX6_least 78 = .ok (.bipush (-4), 2) := by decide +kernel
theorem dX6_least_80 : decode cX6_least 80 = .ok (.goto 32, 3) := by decide +kernel
theorem dX6_least_83 : decode cX6_least 83 = .ok (.aload_n 0, 1) := by decide +kernel
theorem dX6_least_84 : decode cX6_least 84 = .ok (.invokevirtual 247, 3) := by decide +kernel
theorem dX6_least_87 : decode cX6_least 87 = .ok (.goto 25, 3) := by decide +kernel
theorem dX6_least_90 : decode cX6_least 90 = .ok (.iload_n 2, 1) := by decide +kernel
theorem dX6_least_91 : decode cX6_least 91 = .ok (.ifCond .ne 12, 3) := by decide +kernel
theorem dX6_least_94 : decode cX6_least 94 = .ok (.aload_n 0, 1) := by decide +kernel
theorem dX6_least_95 : decode cX6_least 95 = .ok (.getfield 233, 3) := by decide +kernel
theorem dX6_least_98 : decode cX6_least 98 = .ok (.ldc 145, 2) := by decide +kernel
theorem dX6_least_100 : decode cX6_least 100 = .ok (.if_icmp .ne 8, 3) := by decide +kernel
theorem dX6_least_103 : decode cX6_least 103 = .ok (.bipush (-4), 2) := by decide +kernel
theorem dX6_least_105 : decode cX6_least 105 = .ok (.goto 7, 3) := by decide +kernel
theorem dX6_least_108 : decode cX6_least 108 = .ok (.aload_n 0, 1) := by decide +kernel
theorem dX6_least_109 : decode cX6_least 109 = .ok (.getfield 233, 3) := by decide +kernel
theorem dX6_least_112 : decode cX6_least 112 = .ok (.ireturn, 1) := by decide +kernel
theorem dX6_first_0 : decode cX6_first 0 = .ok (.aload_n 0, 1) := by decide +kernel
theorem dX6_first_1 : decode cX6_first 1 = .ok (.iload_n 1, 1) := by decide +kernel
theorem dX6_first_2 : decode cX6_first 2 = .ok (.invokevirtual 141, 3) := by decide +kernel
theorem dX6_first_5 : decode cX6_first 5 = .ok (.ifCond .ne 5, 3) := by decide +kernel
theorem dX6_first_8 : decode cX6_first 8 = .ok (.iconst (-1), 1) := by decide +kernel
theorem dX6_first_9 : decode cX6_first 9 = .ok (.ireturn, 1) := by decide +kernel
theorem dX6_first_10 : decode cX6_first 10 = .ok (.aload_n 0, 1) := by decide +kernel
theorem dX6_first_11 : decode cX6_first 11 = .ok (.bipush (-4), 2) := by decide +kernel
theorem dX6_first_13 : decode cX6_first 13 = .ok (.iconst 0, 1) := by decide +kernel
theorem dX6_first_14 : decode cX6_first 14 = .ok (.invokevirtual 244, 3) := by decide +kernel
theorem dX6_first_17 : decode cX6_first 17 = .ok (.aload_n 0, 1) := by decide +kernel
theorem dX6_first_18 : decode cX6_first 18 = .ok (.getfield 52, 3) := by decide +kernel
theorem dX6_first_21 : decode cX6_first 21 = .ok (.iload_n 1, 1) := by decide +kernel
theorem dX6_first_22 : decode cX6_first 22 = .ok (.iaload, 1) := by decide +kernel
theorem dX6_first_23 : decode cX6_first 23 = .ok (.ireturn, 1) := by decide +kernel
theorem dX6_with_0 : decode cX6_with 0 = .ok (.aload_n 0, 1) := by decide +kernel
theorem dX6_with_1 : decode cX6_with 1 = .ok (.iload_n 1, 1) := by decide +kernel
theorem dX6_with_2 : decode cX6_with 2 = .ok (.iload_n 2, 1) := by decide +kernel
theorem dX6_with_3 : decode cX6_with 3 = .ok (.invokevirtual 155, 3) := by decide +kernel
theorem dX6_with_6 : decode cX6_with 6 = .ok (.ifCond .ne 5, 3) := by decide +kernel
theorem dX6_with_9 : decode cX6_with 9 = .ok (.iconst (-1), 1) := by decide +kernel
theorem dX6_with_10 : decode cX6_with 10 = .ok (.ireturn, 1) := by decide +kernel
theorem dX6_with_11 : decode cX6_with 11 = .ok (.aload_n 0, 1) := by decide +kernel
theorem dX6_with_12 : decode cX6_with 12 = .ok (.iload_n 1, 1) := by decide +kernel
theorem dX6_with_13 : decode cX6_with 13 = .ok (.iload_n 2, 1) := by decide +kernel
theorem dX6_with_14 : decode cX6_with 14 = .ok (.invokevirtual 244, 3) := by decide +kernel
theorem dX6_with_17 : decode cX6_with 17 = .ok (.aload_n 0, 1) := by decide +kernel
theorem dX6_with_18 : decode cX6_with 18 = .ok (.getfield 227, 3) := by decide +kernel
theorem dX6_with_21 : decode cX6_with 21 = .ok (.ireturn, 1) := by decide +kernel
theorem dX6_without_0 : decode cX6_without 0 = .ok (.aload_n 0, 1) := by decide +kernel
theorem dX6_without_1 : decode cX6_without 1 = .ok (.iload_n 1, 1) := by decide +kernel
theorem dX6_without_2 : decode cX6_without 2 = .ok (.iload_n 2, 1) := by decide +kernel
theorem dX6_without_3 : decode cX6_without 3 = .ok (.invokevirtual 170, 3) := by decide +kernel
theorem dX6_without_6 : decode cX6_without 6 = .ok (.ifCond .ne 5, 3) := by decide +kernel
theorem dX6_without_9 : decode cX6_without 9 = .ok (.iconst (-1), 1) := by decide +kernel
theorem dX6_without_10 : decode cX6_without 10 = .ok (.ireturn, 1) := by decide +kernel
theorem dX6_without_11 : decode cX6_without 11 = .ok (.aload_n 0, 1) := by decide +kernel
theorem dX6_without_12 : decode cX6_without 12 = .ok (.iload_n 1, 1) := by decide +kernel
theorem dX6_without_13 : decode cX6_without 13 = .ok (.iload_n 2, 1) := by decide +kernel
theorem dX6_without_14 : decode cX6_without 14 = .ok (.invokevirtual 146, 3) := by decide +kernel
theorem dX6_without_17 : decode cX6_without 17 = .ok (.ifCond .ne 6, 3) := by decide +kernel
theorem dX6_without_20 : decode cX6_without 20 = .ok (.bipush (-4), 2) := by decide +kernel
theorem dX6_without_22 : decode cX6_without 22 = .ok (.ireturn, 1) := by decide +kernel
theorem dX6_without_23 : decode cX6_without 23 = .ok (.iconst 0, 1) := by decide +kernel
theorem dX6_without_24 : decode cX6_without 24 = .ok (.istore_n 3, 1) := by decide +kernel
theorem dX6_without_25 : decode cX6_without 25 = .ok (.iload_n 3, 1) := by decide +kernel
theorem dX6_without_26 : decode cX6_without 26 = .ok (.bipush 16, 2) := by decide +kernel
theorem dX6_without_28 : decode cX6_without 28 = .ok (.if_icmp .ge 31, 3) := by decide +kernel
theorem dX6_without_31 : decode cX6_without 31 = .ok (.aload_n 0, 1) := by decide +kernel
theorem dX6_without_32 : decode cX6_without 32 = .ok (.getfield 58, 3) := by decide +kernel
theorem dX6_without_35 : decode cX6_without 35 = .ok (.iload_n 3, 1) := by decide +kernel
theorem dX6_without_36 : decode cX6_without 36 = .ok (.aload_n 0, 1) := by decide +kernel
theorem dX6_without_37 : decode cX6_without 37 = .ok (.getfield 22, 3) := by decide +kernel
theorem dX6_without_40 : decode cX6_without 40 = .ok (.iload_n 1, 1) := by decide +kernel
theorem dX6_without_41 : decode cX6_without 41 = .ok (.iload_n 2, 1) := by decide +kernel
theorem dX6_without_42 : decode cX6_without 42 = .ok (.iload_n 3, 1) := by decide +kernel
theorem dX6_without_43 : decode cX6_without 43 = .ok (.iconst 4, 1) := by decide +kernel
theorem dX6_without_44 : decode cX6_without 44 = .ok (.idiv, 1) := by decide +kernel
theorem dX6_without_45 : decode cX6_without 45 = .ok (.iload_n 3, 1) := by decide +kernel
theorem dX6_without_46 : decode cX6_without 46 = .ok (.iconst 4, 1) := by decide +kernel
theorem dX6_without_47 : decode cX6_without 47 = .ok (.irem, 1) := by decide +kernel
theorem dX6_without_48 : decode cX6_without 48 = .ok (.invokestatic 81, 3) := by decide +kernel
theorem dX6_without_51 : decode cX6_without 51 = .ok (.iaload, 1) := by decide +kernel
theorem dX6_without_52 : decode cX6_without 52 = .ok (.iastore, 1) := by decide +kernel
theorem dX6_without_53 : decode cX6_without 53 = .ok (.iinc 3 1, 3) := by decide +kernel
theorem dX6_without_56 : decode cX6_without 56 = .ok (.goto (-31), 3) := by decide +kernel
theorem dX6_without_59 : decode cX6_without 59 = .ok (.aload_n 0, 1) := by decide +kernel
theorem dX6_without_60 : decode cX6_without 60 = .ok (.iload_n 1, 1) := by decide +kernel
theorem dX6_without_61 : decode cX6_without 61 = .ok (.iload_n 2, 1) := by decide +kernel
theorem dX6_without_62 : decode cX6_without 62 = .ok (.invokevirtual 173, 3) := by decide +kernel
theorem dX6_without_65 : decode cX6_without 65 = .ok (.aload_n 0, 1) := by decide +kernel
theorem dX6_without_66 : decode cX6_without 66 = .ok (.bipush (-4), 2) := by decide +kernel
theorem dX6_without_68 : decode cX6_without 68 = .ok (.iconst 0, 1) := by decide +kernel
theorem dX6_without_69 : decode cX6_without 69 = .ok (.invokevirtual 244, 3) := by decide +kernel
theorem dX6_without_72 : decode cX6_without 72 = .ok (.iconst 0, 1) := by decide +kernel
theorem dX6_without_73 : decode cX6_without 73 = .ok (.istore_n 3, 1) := by decide +kernel
theorem dX6_without_74 : decode cX6_without 74 = .ok (.iload_n 3, 1) := by decide +kernel
theorem dX6_without_75 : decode cX6_without 75 = .ok (.bipush 16, 2) := by decide +kernel
theorem dX6_without_77 : decode cX6_without 77 = .ok (.if_icmp .ge 31, 3) := by decide +kernel
theorem dX6_without_80 : decode cX6_without 80 = .ok (.aload_n 0, 1) := by decide +kernel
theorem dX6_without_81 : decode cX6_without 81 = .ok (.getfield 22, 3) := by decide +kernel
theorem dX6_without_84 : decode cX6_without 84 = .ok (.iload_n 1, 1) := by decide +kernel
theorem dX6_without_85 : decode cX6_without 85 = .ok (.iload_n 2, 1) := by decide +kernel
theorem dX6_without_86 : decode cX6_without 86 = .ok (.iload_n 3, 1) := by decide +kernel
theorem dX6_without_87 : decode cX6_without 87 = .ok (.iconst 4, 1) := by decide +kernel
theorem dX6_without_88 : decode cX6_without 88 = .ok (.idiv, 1) := by decide +kernel
theorem dX6_without_89 : decode cX6_without 89 = .ok (.iload_n 3, 1) := by decide +kernel
theorem dX6_without_90 : decode cX6_without 90 = .ok (.iconst 4, 1) := by decide +kernel
theorem dX6_without_91 : decode cX6_without 91 = .ok (.irem, 1) := by decide +kernel
theorem dX6_without_92 : decode cX6_without 92 = .ok (.invokestatic 81, 3) := by decide +kernel
theorem dX6_without_95 : decode cX6_without 95 = .ok (.aload_n 0, 1) := by decide +kernel
theorem dX6_without_96 : decode cX6_without 96 = .ok (.getfield 58, 3) := by decide +kernel
theorem dX6_without_99 : decode cX6_without 99 = .ok (.iload_n 3, 1) := by decide +kernel
theorem dX6_without_100 : decode cX6_without 100 = .ok (.iaload, 1) := by decide +kernel
theorem dX6_without_101 : decode cX6_without 101 = .ok (.iastore, 1) := by decide +kernel
theorem dX6_without_102 : decode cX6_without 102 = .ok (.iinc 3 1, 3) := by decide +kernel
theorem dX6_without_105 : decode cX6_without 105 = .ok (.goto (-31), 3) := by decide +kernel
theorem dX6_without_108 : decode cX6_without 108 = .ok (.aload_n 0, 1) := by decide +kernel
theorem dX6_without_109 : decode cX6_without 109 = .ok (.getfield 227, 3) := by decide +kernel
theorem dX6_without_112 : decode cX6_without 112 = .ok (.ireturn, 1) := by decide +kernel
theorem dX6_keep_0 : decode cX6_keep 0 = .ok (.aload_n 0, 1) := by decide +kernel
theorem dX6_keep_1 : decode cX6_keep 1 = .ok (.getfield 138, 3) := by decide +kernel
theorem dX6_keep_4 : decode cX6_keep 4 = .ok (.iconst 2, 1) := by decide +kernel
theorem dX6_keep_5 : decode cX6_keep 5 = .ok (.if_icmp .ne 6, 3) := by decide +kernel
theorem dX6_keep_8 : decode cX6_keep 8 = .ok (.bipush (-3), 2) := by decide +kernel
theorem dX6_keep_10 : decode cX6_keep 10 = .ok (.ireturn, 1) := by decide +kernel
theorem dX6_keep_11 : decode cX6_keep 11 = .ok (.iconst 0, 1) := by decide +kernel
theorem dX6_keep_12 : decode cX6_keep 12 = .ok (.istore_n 1, 1) := by decide +kernel
theorem dX6_keep_13 : decode cX6_keep 13 = .ok (.iload_n 1, 1) := by decide +kernel
theorem dX6_keep_14 : decode cX6_keep 14 = .ok (.sipush 500, 3) := by decide +kernel
theorem dX6_keep_17 : decode cX6_keep 17 = .ok (.if_icmp .ge 30, 3) := by decide +kernel
theorem dX6_keep_20 : decode cX6_keep 20 = .ok (.aload_n 0, 1) := by decide +kernel
theorem dX6_keep_21 : decode cX6_keep 21 = .ok (.getfield 28, 3) := by decide +kernel
theorem dX6_keep_24 : decode cX6_keep 24 = .ok (.sipush 500, 3) := by decide +kernel
theorem dX6_keep_27 : decode cX6_keep 27 = .ok (.aload_n 0, 1) := by decide +kernel
theorem dX6_keep_28 : decode cX6_keep 28 = .ok (.getfield 138, 3) := by decide +kernel
theorem dX6_keep_31 : decode cX6_keep 31 = .ok (.imul, 1) := by decide +kernel
theorem dX6_keep_32 : decode cX6_keep 32 = .ok (.iload_n 1, 1) := by decide +kernel
theorem dX6_keep_33 : decode cX6_keep 33 = .ok (.iadd, 1) := by decide +kernel
theorem dX6_keep_34 : decode cX6_keep 34 = .ok (.aload_n 0, 1) := by decide +kernel
theorem dX6_keep_35 : decode cX6_keep 35 = .ok (.getfield 22, 3) := by decide +kernel
theorem dX6_keep_38 : decode cX6_keep 38 = .ok (.iload_n 1, 1) := by decide +kernel
theorem dX6_keep_39 : decode cX6_keep 39 = .ok (.iaload, 1) := by decide +kernel
theorem dX6_keep_40 : decode cX6_keep 40 = .ok (.iastore, 1) := by decide +kernel
theorem dX6_keep_41 : decode cX6_keep 41 = .ok (.iinc 1 1, 3) := by decide +kernel
theorem dX6_keep_44 : decode cX6_keep 44 = .ok (.goto (-31), 3) := by decide +kernel
theorem dX6_keep_47 : decode cX6_keep 47 = .ok (.aload_n 0, 1) := by decide +kernel
theorem dX6_keep_48 : decode cX6_keep 48 = .ok (.dup, 1) := by decide +kernel
theorem dX6_keep_49 : decode cX6_keep 49 = .ok (.getfield 138, 3) := by decide +kernel
theorem dX6_keep_52 : decode cX6_keep 52 = .ok (.iconst 1, 1) := by decide +kernel
theorem dX6_keep_53 : decode cX6_keep 53 = .ok (.iadd, 1) := by decide +kernel
theorem dX6_keep_54 : decode cX6_keep 54 = .ok (.putfield 138, 3) := by decide +kernel
theorem dX6_keep_57 : decode cX6_keep 57 = .ok (.aload_n 0, 1) := by decide +kernel
theorem dX6_keep_58 : decode cX6_keep 58 = .ok (.getfield 138, 3) := by decide +kernel
theorem dX6_keep_61 : decode cX6_keep 61 = .ok (.ireturn, 1) := by decide +kernel
theorem dX6_back_0 : decode cX6_back 0 = .ok (.aload_n 0, 1) := by decide +kernel
theorem dX6_back_1 : decode cX6_back 1 = .ok (.getfield 138, 3) := by decide +kernel
theorem dX6_back_4 : decode cX6_back 4 = .ok (.ifCond .ne 6, 3) := by decide +kernel
theorem dX6_back_7 : decode cX6_back 7 = .ok (.bipush (-2), 2) := by decide +kernel
theorem dX6_back_9 : decode cX6_back 9 = .ok (.ireturn, 1) := by decide +kernel
theorem dX6_back_10 : decode cX6_back 10 = .ok (.aload_n 0, 1) := by decide +kernel
theorem dX6_back_11 : decode cX6_back 11 = .ok (.dup, 1) := by decide +kernel
theorem dX6_back_12 : decode cX6_back 12 = .ok (.getfield 138, 3) := by decide +kernel
theorem dX6_back_15 : decode cX6_back 15 = .ok (.iconst 1, 1) := by decide +kernel
theorem dX6_back_16 : decode cX6_back 16 = .ok (.isub, 1) := by decide +kernel
theorem dX6_back_17 : decode cX6_back 17 = .ok (.putfield 138, 3) := by decide +kernel
theorem dX6_back_20 : decode cX6_back 20 = .ok (.iconst 0, 1) := by decide +kernel
theorem dX6_back_21 : decode cX6_back 21 = .ok (.istore_n 1, 1) := by decide +kernel
theorem dX6_back_22 : decode cX6_back 22 = .ok (.iload_n 1, 1) := by decide +kernel
theorem dX6_back_23 : decode cX6_back 23 = .ok (.sipush 500, 3) := by decide +kernel
theorem dX6_back_26 : decode cX6_back 26 = .ok (.if_icmp .ge 30, 3) := by decide +kernel
theorem dX6_back_29 : decode cX6_back 29 = .ok (.aload_n 0, 1) := by decide +kernel
theorem dX6_back_30 : decode cX6_back 30 = .ok (.getfield 22, 3) := by decide +kernel
theorem dX6_back_33 : decode cX6_back 33 = .ok (.iload_n 1, 1) := by decide +kernel
theorem dX6_back_34 : decode cX6_back 34 = .ok (.aload_n 0, 1) := by decide +kernel
theorem dX6_back_35 : decode cX6_back 35 = .ok (.getfield 28, 3) := by decide +kernel
theorem dX6_back_38 : decode cX6_back 38 = .ok (.sipush 500, 3) := by decide +kernel
theorem dX6_back_41 : decode cX6_back 41 = .ok (.aload_n 0, 1) := by decide +kernel
theorem dX6_back_42 : decode cX6_back 42 = .ok (.getfield 138, 3) := by decide +kernel
theorem dX6_back_45 : decode cX6_back 45 = .ok (.imul, 1) := by decide +kernel
theorem dX6_back_46 : decode cX6_back 46 = .ok (.iload_n 1, 1) := by decide +kernel
theorem dX6_back_47 : decode cX6_back 47 = .ok (.iadd, 1) := by decide +kernel
theorem dX6_back_48 : decode cX6_back 48 = .ok (.iaload, 1) := by decide +kernel
theorem dX6_back_49 : decode cX6_back 49 = .ok (.iastore, 1) := by decide +kernel
theorem dX6_back_50 : decode cX6_back 50 = .ok (.iinc 1 1, 3) := by decide +kernel
theorem dX6_back_53 : decode cX6_back 53 = .ok (.goto (-31), 3) := by decide +kernel
theorem dX6_back_56 : decode cX6_back 56 = .ok (.aload_n 0, 1) := by decide +kernel
theorem dX6_back_57 : decode cX6_back 57 = .ok (.iconst 0, 1) := by decide +kernel
theorem dX6_back_58 : decode cX6_back 58 = .ok (.putfield 135, 3) := by decide +kernel
theorem dX6_back_61 : decode cX6_back 61 = .ok (.aload_n 0, 1) := by decide +kernel
theorem dX6_back_62 : decode cX6_back 62 = .ok (.getfield 138, 3) := by decide +kernel
theorem dX6_back_65 : decode cX6_back 65 = .ok (.ireturn, 1) := by decide +kernel
theorem dX6_pinned_0 : decode cX6_pinned 0 = .ok (.iconst 0, 1) := by decide +kernel
theorem dX6_pinned_1 : decode cX6_pinned 1 = .ok (.istore_n 1, 1) := by decide +kernel
theorem dX6_pinned_2 : decode cX6_pinned 2 = .ok (.iconst 0, 1) := by decide +kernel
theorem dX6_pinned_3 : decode cX6_pinned 3 = .ok (.istore_n 2, 1) := by decide +kernel
theorem dX6_pinned_4 : decode cX6_pinned 4 = .ok (.iload_n 2, 1) := by decide +kernel
theorem dX6_pinned_5 : decode cX6_pinned 5 = .ok (.aload_n 0, 1) := by decide +kernel
theorem dX6_pinned_6 : decode cX6_pinned 6 = .ok (.getfield 132, 3) := by decide +kernel
theorem dX6_pinned_9 : decode cX6_pinned 9 = .ok (.if_icmp .ge 29, 3) := by decide +kernel
theorem dX6_pinned_12 : decode cX6_pinned 12 = .ok (.iload_n 1, 1) := by decide +kernel
theorem dX6_pinned_13 : decode cX6_pinned 13 = .ok (.aload_n 0, 1) := by decide +kernel
theorem dX6_pinned_14 : decode cX6_pinned 14 = .ok (.getfield 22, 3) := by decide +kernel
theorem dX6_pinned_17 : decode cX6_pinned 17 = .ok (.bipush 40, 2) := by decide +kernel
theorem dX6_pinned_19 : decode cX6_pinned 19 = .ok (.iload_n 2, 1) := by decide +kernel
theorem dX6_pinned_20 : decode cX6_pinned 20 = .ok (.iadd, 1) := by decide +kernel
theorem dX6_pinned_21 : decode cX6_pinned 21 = .ok (.iaload, 1) := by decide +kernel
theorem dX6_pinned_22 : decode cX6_pinned 22 = .ok (.ifCond .le 7, 3) := by decide +kernel
theorem dX6_pinned_25 : decode cX6_pinned 25 = .ok (.iconst 1, 1) := by decide +kernel
theorem dX6_pinned_26 : decode cX6_pinned 26 = .ok (.goto 4, 3) := by decide +kernel
theorem dX6_pinned_29 : decode cX6_pinned 29 = .ok (.iconst 0, 1) := by decide +kernel
theorem dX6_pinned_30 : decode cX6_pinned 30 = .ok (.iadd, 1) := by decide +kernel
theorem dX6_pinned_31 : decode cX6_pinned 31 = .ok (.istore_n 1, 1) := by decide +kernel
theorem dX6_pinned_32 : decode cX6_pinned 32 = .ok (.iinc 2 1, 3) := by decide +kernel
theorem dX6_pinned_35 : decode cX6_pinned 35 = .ok (.goto (-31), 3) := by decide +kernel
theorem dX6_pinned_38 : decode cX6_pinned 38 = .ok (.iload_n 1, 1) := by decide +kernel
theorem dX6_pinned_39 : decode cX6_pinned 39 = .ok (.ireturn, 1) := by decide +kernel
theorem dX6_count_0 : decode cX6_count 0 = .ok (.iload_n 1, 1) := by decide +kernel
theorem dX6_count_1 : decode cX6_count 1 = .ok (.tableswitch 72 0 5 #[39, 44, 52, 57, 62, 67], 39) := by decide +kernel
theorem dX6_count_40 : decode cX6_count 40 = .ok (.aload_n 0, 1) := by decide +kernel
theorem dX6_count_41 : decode cX6_count 41 = .ok (.getfield 132, 3) := by decide +kernel
theorem dX6_count_44 : decode cX6_count 44 = .ok (.ireturn, 1) := by decide +kernel
theorem dX6_count_45 : decode cX6_count 45 = .ok (.aload_n 0, 1) := by decide +kernel
theorem dX6_count_46 : decode cX6_count 46 = .ok (.getfield 22, 3) := by decide +kernel
theorem dX6_count_49 : decode cX6_count 49 = .ok (.invokestatic 116, 3) := by decide +kernel
theorem dX6_count_52 : decode cX6_count 52 = .ok (.ireturn, 1) := by decide +kernel
theorem dX6_count_53 : decode cX6_count 53 = .ok (.aload_n 0, 1) := by decide +kernel
theorem dX6_count_54 : decode cX6_count 54 = .ok (.invokevirtual 250, 3) := by decide +kernel
theorem dX6_count_57 : decode cX6_count 57 = .ok (.ireturn, 1) := by decide +kernel
theorem dX6_count_58 : decode cX6_count 58 = .ok (.aload_n 0, 1) := by decide +kernel
theorem dX6_count_59 : decode cX6_count 59 = .ok (.getfield 135, 3) := by decide +kernel
theorem dX6_count_62 : decode cX6_count 62 = .ok (.ireturn, 1) := by decide +kernel
theorem dX6_count_63 : decode cX6_count 63 = .ok (.aload_n 0, 1) := by decide +kernel
theorem dX6_count_64 : decode cX6_count 64 = .ok (.getfield 138, 3) := by decide +kernel
theorem dX6_count_67 : decode cX6_count 67 = .ok (.ireturn, 1) := by decide +kernel
theorem dX6_count_68 : decode cX6_count 68 = .ok (.aload_n 0, 1) := by decide +kernel
theorem dX6_count_69 : decode cX6_count 69 = .ok (.getfield 93, 3) := by decide +kernel
theorem dX6_count_72 : decode cX6_count 72 = .ok (.ireturn, 1) := by decide +kernel
theorem dX6_count_73 : decode cX6_count 73 = .ok (.iconst (-1), 1) := by decide +kernel
theorem dX6_count_74 : decode cX6_count 74 = .ok (.ireturn, 1) := by decide +kernel
