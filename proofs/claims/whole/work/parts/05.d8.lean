theorem dX8_init_0 : decode cX8_init 0 = .ok (.aload_n 0, 1) := by decide +kernel
theorem dX8_init_1 : decode cX8_init 1 = .ok (.invokespecial 1, 3) := by decide +kernel
theorem dX8_init_4 : decode cX8_init 4 = .ok (.aload_n 0, 1) := by decide +kernel
theorem dX8_init_5 : decode cX8_init 5 = .ok (.bipush 12, 2) := by decide +kernel
theorem dX8_init_7 : decode cX8_init 7 = .ok (.newarray .int, 2) := by decide +kernel
theorem dX8_init_9 : decode cX8_init 9 = .ok (.putfield 7, 3) := by decide +kernel
theorem dX8_init_12 : decode cX8_init 12 = .ok (.aload_n 0, 1) := by decide +kernel
theorem dX8_init_13 : decode cX8_init 13 = .ok (.bipush 48, 2) := by decide +kernel
theorem dX8_init_15 : decode cX8_init 15 = .ok (.newarray .boolean, 2) := by decide +kernel
theorem dX8_init_17 : decode cX8_init 17 = .ok (.putfield 13, 3) := by decide +kernel
theorem dX8_init_20 : decode cX8_init 20 = .ok (.aload_n 0, 1) := by decide +kernel
theorem dX8_init_21 : decode cX8_init 21 = .ok (.bipush 8, 2) := by decide +kernel
theorem dX8_init_23 : decode cX8_init 23 = .ok (.newarray .int, 2) := by decide +kernel
theorem dX8_init_25 : decode cX8_init 25 = .ok (.putfield 17, 3) := by decide +kernel
theorem dX8_init_28 : decode cX8_init 28 = .ok (.aload_n 0, 1) := by decide +kernel
theorem dX8_init_29 : decode cX8_init 29 = .ok (.sipush 2000, 3) := by decide +kernel
theorem dX8_init_32 : decode cX8_init 32 = .ok (.newarray .int, 2) := by decide +kernel
theorem dX8_init_34 : decode cX8_init 34 = .ok (.putfield 20, 3) := by decide +kernel
theorem dX8_init_37 : decode cX8_init 37 = .ok (.aload_n 0, 1) := by decide +kernel
theorem dX8_init_38 : decode cX8_init 38 = .ok (.sipush 2000, 3) := by decide +kernel
theorem dX8_init_41 : decode cX8_init 41 = .ok (.newarray .int, 2) := by decide +kernel
theorem dX8_init_43 : decode cX8_init 43 = .ok (.putfield 23, 3) := by decide +kernel
theorem dX8_init_46 : decode cX8_init 46 = .ok (.aload_n 0, 1) := by decide +kernel
theorem dX8_init_47 : decode cX8_init 47 = .ok (.sipush 2000, 3) := by decide +kernel
theorem dX8_init_50 : decode cX8_init 50 = .ok (.newarray .int, 2) := by decide +kernel
theorem dX8_init_52 : decode cX8_init 52 = .ok (.putfield 26, 3) := by decide +kernel
theorem dX8_init_55 : decode cX8_init 55 = .ok (.aload_n 0, 1) := by decide +kernel
theorem dX8_init_56 : decode cX8_init 56 = .ok (.sipush 2000, 3) := by decide +kernel
theorem dX8_init_59 : decode cX8_init 59 = .ok (.newarray .int, 2) := by decide +kernel
theorem dX8_init_61 : decode cX8_init 61 = .ok (.putfield 29, 3) := by decide +kernel
theorem dX8_init_64 : decode cX8_init 64 = .ok (.aload_n 0, 1) := by decide +kernel
theorem dX8_init_65 : decode cX8_init 65 = .ok (.sipush 2000, 3) := by decide +kernel
theorem dX8_init_68 : decode cX8_init 68 = .ok (.newarray .int, 2) := by decide +kernel
theorem dX8_init_70 : decode cX8_init 70 = .ok (.putfield 32, 3) := by decide +kernel
theorem dX8_init_73 : decode cX8_init 73 = .ok (.aload_n 0, 1) := by decide +kernel
theorem dX8_init_74 : decode cX8_init 74 = .ok (.sipush 2000, 3) := by decide +kernel
theorem dX8_init_77 : decode cX8_init 77 = .ok (.newarray .int, 2) := by decide +kernel
theorem dX8_init_79 : decode cX8_init 79 = .ok (.putfield 35, 3) := by decide +kernel
theorem dX8_init_82 : decode cX8_init 82 = .ok (.aload_n 0, 1) := by decide +kernel
theorem dX8_init_83 : decode cX8_init 83 = .ok (.sipush 2000, 3) := by decide +kernel
theorem dX8_init_86 : decode cX8_init 86 = .ok (.newarray .int, 2) := by decide +kernel
theorem dX8_init_88 : decode cX8_init 88 = .ok (.putfield 38, 3) := by decide +kernel
theorem dX8_init_91 : decode cX8_init 91 = .ok (.aload_n 0, 1) := by decide +kernel
theorem dX8_init_92 : decode cX8_init 92 = .ok (.sipush 2000, 3) := by decide +kernel
theorem dX8_init_95 : decode cX8_init 95 = .ok (.newarray .int, 2) := by decide +kernel
theorem dX8_init_97 : decode cX8_init 97 = .ok (.putfield 41, 3) := by decide +kernel
theorem dX8_init_100 : decode cX8_init 100 = .ok (.aload_n 0, 1) := by decide +kernel
theorem dX8_init_101 : decode cX8_init 101 = .ok (.sipush 2000, 3) := by decide +kernel
theorem dX8_init_104 : decode cX8_init 104 = .ok (.newarray .int, 2) := by decide +kernel
theorem dX8_init_106 : decode cX8_init 106 = .ok (.putfield 44, 3) := by decide +kernel
theorem dX8_init_109 : decode cX8_init 109 = .ok (.aload_n 0, 1) := by decide +kernel
theorem dX8_init_110 : decode cX8_init 110 = .ok (.sipush 2000, 3) := by decide +kernel
theorem dX8_init_113 : decode cX8_init 113 = .ok (.newarray .int, 2) := by decide +kernel
theorem dX8_init_115 : decode cX8_init 115 = .ok (.putfield 47, 3) := by decide +kernel
theorem dX8_init_118 : decode cX8_init 118 = .ok (.aload_n 0, 1) := by decide +kernel
theorem dX8_init_119 : decode cX8_init 119 = .ok (.sipush 2000, 3) := by decide +kernel
theorem dX8_init_122 : decode cX8_init 122 = .ok (.newarray .int, 2) := by decide +kernel
theorem dX8_init_124 : decode cX8_init 124 = .ok (.putfield 50, 3) := by decide +kernel
theorem dX8_init_127 : decode cX8_init 127 = .ok (.aload_n 0, 1) := by decide +kernel
theorem dX8_init_128 : decode cX8_init 128 = .ok (.sipush 2000, 3) := by decide +kernel
theorem dX8_init_131 : decode cX8_init 131 = .ok (.newarray .int, 2) := by decide +kernel
theorem dX8_init_133 : decode cX8_init 133 = .ok (.putfield 53, 3) := by decide +kernel
theorem dX8_init_136 : decode cX8_init 136 = .ok (.aload_n 0, 1) := by decide +kernel
theorem dX8_init_137 : decode cX8_init 137 = .ok (.sipush 2000, 3) := by decide +kernel
theorem dX8_init_140 : decode cX8_init 140 = .ok (.newarray .int, 2) := by decide +kernel
theorem dX8_init_142 : decode cX8_init 142 = .ok (.putfield 56, 3) := by decide +kernel
theorem dX8_init_145 : decode cX8_init 145 = .ok (.aload_n 0, 1) := by decide +kernel
theorem dX8_init_146 : decode cX8_init 146 = .ok (.sipush 2000, 3) := by decide +kernel
theorem dX8_init_149 : decode cX8_init 149 = .ok (.newarray .boolean, 2) := by decide +kernel
theorem dX8_init_151 : decode cX8_init 151 = .ok (.putfield 59, 3) := by decide +kernel
theorem dX8_init_154 : decode cX8_init 154 = .ok (.aload_n 0, 1) := by decide +kernel
theorem dX8_init_155 : decode cX8_init 155 = .ok (.sipush 2000, 3) := by decide +kernel
theorem dX8_init_158 : decode cX8_init 158 = .ok (.newarray .int, 2) := by decide +kernel
theorem dX8_init_160 : decode cX8_init 160 = .ok (.putfield 62, 3) := by decide +kernel
theorem dX8_init_163 : decode cX8_init 163 = .ok (.aload_n 0, 1) := by decide +kernel
theorem dX8_init_164 : decode cX8_init 164 = .ok (.sipush 2000, 3) := by decide +kernel
theorem dX8_init_167 : decode cX8_init 167 = .ok (.newarray .int, 2) := by decide +kernel
theorem dX8_init_169 : decode cX8_init 169 = .ok (.putfield 65, 3) := by decide +kernel
theorem dX8_init_172 : decode cX8_init 172 = .ok (.aload_n 0, 1) := by decide +kernel
theorem dX8_init_173 : decode cX8_init 173 = .ok (.sipush 2000, 3) := by decide +kernel
theorem dX8_init_176 : decode cX8_init 176 = .ok (.newarray .boolean, 2) := by decide +kernel
theorem dX8_init_178 : decode cX8_init 178 = .ok (.putfield 68, 3) := by decide +kernel
theorem dX8_init_181 : decode cX8_init 181 = .ok (.aload_n 0, 1) := by decide +kernel
theorem dX8_init_182 : decode cX8_init 182 = .ok (.sipush 2000, 3) := by decide +kernel
theorem dX8_init_185 : decode cX8_init 185 = .ok (.newarray .int, 2) := by decide +kernel
theorem dX8_init_187 : decode cX8_init 187 = .ok (.putfield 71, 3) := by decide +kernel
theorem dX8_init_190 : decode cX8_init 190 = .ok (.aload_n 0, 1) := by decide +kernel
theorem dX8_init_191 : decode cX8_init 191 = .ok (.sipush 2000, 3) := by decide +kernel
theorem dX8_init_194 : decode cX8_init 194 = .ok (.newarray .int, 2) := by decide +kernel
theorem dX8_init_196 : decode cX8_init 196 = .ok (.putfield 74, 3) := by decide +kernel
theorem dX8_init_199 : decode cX8_init 199 = .ok (.aload_n 0, 1) := by decide +kernel
theorem dX8_init_200 : decode cX8_init 200 = .ok (.sipush 2000, 3) := by decide +kernel
theorem dX8_init_203 : decode cX8_init 203 = .ok (.newarray .int, 2) := by decide +kernel
theorem dX8_init_205 : decode cX8_init 205 = .ok (.putfield 77, 3) := by decide +kernel
theorem dX8_init_208 : decode cX8_init 208 = .ok (.aload_n 0, 1) := by decide +kernel
theorem dX8_init_209 : decode cX8_init 209 = .ok (.sipush 8000, 3) := by decide +kernel
theorem dX8_init_212 : decode cX8_init 212 = .ok (.newarray .int, 2) := by decide +kernel
theorem dX8_init_214 : decode cX8_init 214 = .ok (.putfield 80, 3) := by decide +kernel
theorem dX8_init_217 : decode cX8_init 217 = .ok (.aload_n 0, 1) := by decide +kernel
theorem dX8_init_218 : decode cX8_init 218 = .ok (.sipush 8000, 3) := by decide +kernel
theorem dX8_init_221 : decode cX8_init 221 = .ok (.newarray .int, 2) := by decide +kernel
theorem dX8_init_223 : decode cX8_init 223 = .ok (.putfield 83, 3) := by decide +kernel
theorem dX8_init_226 : decode cX8_init 226 = .ok (.return_, 1) := by decide +kernel
theorem dX8_thrown_0 : decode cX8_thrown 0 = .ok (.aload_n 0, 1) := by decide +kernel
theorem dX8_thrown_1 : decode cX8_thrown 1 = .ok (.getfield 86, 3) := by decide +kernel
theorem dX8_thrown_4 : decode cX8_thrown 4 = .ok (.ireturn, 1) := by decide +kernel
theorem dX8_in_0 : decode cX8_in 0 = .ok (.iload_n 0, 1) := by decide +kernel
theorem dX8_in_1 : decode cX8_in 1 = .ok (.iload_n 1, 1) := by decide +kernel
theorem dX8_in_2 : decode cX8_in 2 = .ok (.if_icmp .lt 12, 3) := by decide +kernel
theorem dX8_in_5 : decode cX8_in 5 = .ok (.iload_n 0, 1) := by decide +kernel
theorem dX8_in_6 : decode cX8_in 6 = .ok (.iload_n 2, 1) := by decide +kernel
theorem dX8_in_7 : decode cX8_in 7 = .ok (.if_icmp .gt 7, 3) := by decide +kernel
theorem dX8_in_10 : decode cX8_in 10 = .ok (.iconst 1, 1) := by decide +kernel
theorem dX8_in_11 : decode cX8_in 11 = .ok (.goto 4, 3) := by decide +kernel
theorem dX8_in_14 : decode cX8_in 14 = .ok (.iconst 0, 1) := by decide +kernel
theorem dX8_in_15 : decode cX8_in 15 = .ok (.ireturn, 1) := by decide +kernel
theorem dX8_goes_0 : decode cX8_goes 0 = .ok (.aload_n 0, 1) := by decide +kernel
theorem dX8_goes_1 : decode cX8_goes 1 = .ok (.iload_n 1, 1) := by decide +kernel
theorem dX8_goes_2 : decode cX8_goes 2 = .ok (.ifCond .ne 7, 3) := by decide +kernel
theorem dX8_goes_5 : decode cX8_goes 5 = .ok (.iconst 1, 1) := by decide +kernel
theorem dX8_goes_6 : decode cX8_goes 6 = .ok (.goto 20, 3) := by decide +kernel
theorem dX8_goes_9 : decode cX8_goes 9 = .ok (.iload_n 2, 1) := by decide +kernel
theorem dX8_goes_10 : decode cX8_goes 10 = .ok (.ifCond .ne 7, 3) := by decide +kernel
theorem dX8_goes_13 : decode cX8_goes 13 = .ok (.iconst 2, 1) := by decide +kernel
theorem dX8_goes_14 : decode cX8_goes 14 = .ok (.goto 12, 3) := by decide +kernel
theorem dX8_goes_17 : decode cX8_goes 17 = .ok (.iload_n 3, 1) := by decide +kernel
theorem dX8_goes_18 : decode cX8_goes 18 = .ok (.ifCond .eq 7, 3) := by decide +kernel
theorem dX8_goes_21 : decode cX8_goes 21 = .ok (.iconst 0, 1) := by decide +kernel
theorem dX8_goes_22 : decode cX8_goes 22 = .ok (.goto 4, 3) := by decide +kernel
theorem dX8_goes_25 : decode cX8_goes 25 = .ok (.iconst 3, 1) := by decide +kernel
theorem dX8_goes_26 : decode cX8_goes 26 = .ok (.putfield 86, 3) := by decide +kernel
theorem dX8_goes_29 : decode cX8_goes 29 = .ok (.aload_n 0, 1) := by decide +kernel
theorem dX8_goes_30 : decode cX8_goes 30 = .ok (.getfield 86, 3) := by decide +kernel
theorem dX8_goes_33 : decode cX8_goes 33 = .ok (.ifCond .ne 7, 3) := by decide +kernel
theorem dX8_goes_36 : decode cX8_goes 36 = .ok (.iconst 1, 1) := by decide +kernel
theorem dX8_goes_37 : decode cX8_goes 37 = .ok (.goto 4, 3) := by decide +kernel
theorem dX8_goes_40 : decode cX8_goes 40 = .ok (.iconst 0, 1) := by decide +kernel
theorem dX8_goes_41 : decode cX8_goes 41 = .ok (.ireturn, 1) := by decide +kernel
theorem dX8_isPerson_0 : decode cX8_isPerson 0 = .ok (.iload_n 1, 1) := by decide +kernel
theorem dX8_isPerson_1 : decode cX8_isPerson 1 = .ok (.iconst 0, 1) := by decide +kernel
theorem dX8_isPerson_2 : decode cX8_isPerson 2 = .ok (.aload_n 0, 1) := by decide +kernel
theorem dX8_isPerson_3 : decode cX8_isPerson 3 = .ok (.getfield 90, 3) := by decide +kernel
theorem dX8_isPerson_6 : decode cX8_isPerson 6 = .ok (.iconst 1, 1) := by decide +kernel
theorem dX8_isPerson_7 : decode cX8_isPerson 7 = .ok (.isub, 1) := by decide +kernel
theorem dX8_isPerson_8 : decode cX8_isPerson 8 = .ok (.invokestatic 93, 3) := by decide +kernel
theorem dX8_isPerson_11 : decode cX8_isPerson 11 = .ok (.ireturn, 1) := by decide +kernel
theorem dX8_isMachine_0 : decode cX8_isMachine 0 = .ok (.iload_n 1, 1) := by decide +kernel
theorem dX8_isMachine_1 : decode cX8_isMachine 1 = .ok (.iconst 0, 1) := by decide +kernel
theorem dX8_isMachine_2 : decode cX8_isMachine 2 = .ok (.aload_n 0, 1) := by decide +kernel
theorem dX8_isMachine_3 : decode cX8_isMachine 3 = .ok (.getfield 97, 3) := by decide +kernel
theorem dX8_isMachine_6 : decode cX8_isMachine 6 = .ok (.iconst 1, 1) := by decide +kernel
theorem dX8_isMachine_7 : decode cX8_isMachine 7 = .ok (.isub, 1) := by decide +kernel
theorem dX8_isMachine_8 : decode cX8_isMachine 8 = .ok (.invokestatic 93, 3) := by decide +kernel
theorem dX8_isMachine_11 : decode cX8_isMachine 11 = .ok (.ireturn, 1) := by decide +kernel
theorem dX8_areBoth_0 : decode cX8_areBoth 0 = .ok (.aload_n 0, 1) := by decide +kernel
theorem dX8_areBoth_1 : decode cX8_areBoth 1 = .ok (.iload_n 1, 1) := by decide +kernel
theorem dX8_areBoth_2 : decode cX8_areBoth 2 = .ok (.invokevirtual 100, 3) := by decide +kernel
theorem dX8_areBoth_5 : decode cX8_areBoth 5 = .ok (.ifCond .eq 15, 3) := by decide +kernel
theorem dX8_areBoth_8 : decode cX8_areBoth 8 = .ok (.aload_n 0, 1) := by decide +kernel
theorem dX8_areBoth_9 : decode cX8_areBoth 9 = .ok (.iload_n 2, 1) := by decide +kernel
theorem dX8_areBoth_10 : decode cX8_areBoth 10 = .ok (.invokevirtual 104, 3) := by decide +kernel
theorem dX8_areBoth_13 : decode cX8_areBoth 13 = .ok (.ifCond .eq 7, 3) := by decide +kernel
theorem dX8_areBoth_16 : decode cX8_areBoth 16 = .ok (.iconst 1, 1) := by decide +kernel
theorem dX8_areBoth_17 : decode cX8_areBoth 17 = .ok (.goto 4, 3) := by decide +kernel
theorem dX8_areBoth_20 : decode cX8_areBoth 20 = .ok (.iconst 0, 1) := by decide +kernel
theorem dX8_areBoth_21 : decode cX8_areBoth 21 = .ok (.ireturn, 1) := by decide +kernel
theorem dX8_isAsk_0 : decode cX8_isAsk 0 = .ok (.iload_n 1, 1) := by decide +kernel
theorem dX8_isAsk_1 : decode cX8_isAsk 1 = .ok (.iconst 0, 1) := by decide +kernel
theorem dX8_isAsk_2 : decode cX8_isAsk 2 = .ok (.aload_n 0, 1) := by decide +kernel
theorem dX8_isAsk_3 : decode cX8_isAsk 3 = .ok (.getfield 107, 3) := by decide +kernel
theorem dX8_isAsk_6 : decode cX8_isAsk 6 = .ok (.iconst 1, 1) := by decide +kernel
theorem dX8_isAsk_7 : decode cX8_isAsk 7 = .ok (.isub, 1) := by decide +kernel
theorem dX8_isAsk_8 : decode cX8_isAsk 8 = .ok (.invokestatic 93, 3) := by decide +kernel
theorem dX8_isAsk_11 : decode cX8_isAsk 11 = .ok (.ireturn, 1) := by decide +kernel
theorem dX8_isEntry_0 : decode cX8_isEntry 0 = .ok (.iload_n 1, 1) := by decide +kernel
theorem dX8_isEntry_1 : decode cX8_isEntry 1 = .ok (.iconst 0, 1) := by decide +kernel
theorem dX8_isEntry_2 : decode cX8_isEntry 2 = .ok (.aload_n 0, 1) := by decide +kernel
theorem dX8_isEntry_3 : decode cX8_isEntry 3 = .ok (.getfield 110, 3) := by decide +kernel
theorem dX8_isEntry_6 : decode cX8_isEntry 6 = .ok (.iconst 1, 1) := by decide +kernel
theorem dX8_isEntry_7 : decode cX8_isEntry 7 = .ok (.isub, 1) := by decide +kernel
theorem dX8_isEntry_8 : decode cX8_isEntry 8 = .ok (.invokestatic 93, 3) := by decide +kernel
theorem dX8_isEntry_11 : decode cX8_isEntry 11 = .ok (.ireturn, 1) := by decide +kernel
theorem dX8_isSession_0 : decode cX8_isSession 0 = .ok (.iload_n 1, 1) := by decide +kernel
theorem dX8_isSession_1 : decode cX8_isSession 1 = .ok (.iconst 0, 1) := by decide +kernel
theorem dX8_isSession_2 : decode cX8_isSession 2 = .ok (.aload_n 0, 1) := by decide +kernel
theorem dX8_isSession_3 : decode cX8_isSession 3 = .ok (.getfield 113, 3) := by decide +kernel
theorem dX8_isSession_6 : decode cX8_isSession 6 = .ok (.iconst 1, 1) := by decide +kernel
theorem dX8_isSession_7 : decode cX8_isSession 7 = .ok (.isub, 1) := by decide +kernel
theorem dX8_isSession_8 : decode cX8_isSession 8 = .ok (.invokestatic 93, 3) := by decide +kernel
theorem dX8_isSession_11 : decode cX8_isSession 11 = .ok (.ireturn, 1) := by decide +kernel
theorem dX8_writes_0 : decode cX8_writes 0 = .ok (.aload_n 0, 1) := by decide +kernel
theorem dX8_writes_1 : decode cX8_writes 1 = .ok (.getfield 116, 3) := by decide +kernel
theorem dX8_writes_4 : decode cX8_writes 4 = .ok (.ifCond .ne 7, 3) := by decide +kernel
theorem dX8_writes_7 : decode cX8_writes 7 = .ok (.iconst 1, 1) := by decide +kernel
theorem dX8_writes_8 : decode cX8_writes 8 = .ok (.goto 14, 3) := by decide +kernel
theorem dX8_writes_11 : decode cX8_writes 11 = .ok (.aload_n 0, 1) := by decide +kernel
theorem dX8_writes_12 : decode cX8_writes 12 = .ok (.getfield 83, 3) := by decide +kernel
theorem dX8_writes_15 : decode cX8_writes 15 = .ok (.aload_n 0, 1) := by decide +kernel
theorem dX8_writes_16 : decode cX8_writes 16 = .ok (.getfield 116, 3) := by decide +kernel
theorem dX8_writes_19 : decode cX8_writes 19 = .ok (.iconst 1, 1) := by decide +kernel
theorem dX8_writes_20 : decode cX8_writes 20 = .ok (.isub, 1) := by decide +kernel
theorem dX8_writes_21 : decode cX8_writes 21 = .ok (.iaload, 1) := by decide +kernel
theorem dX8_writes_22 : decode cX8_writes 22 = .ok (.istore 4, 2) := by decide +kernel
theorem dX8_writes_24 : decode cX8_writes 24 = .ok (.aload_n 0, 1) := by decide +kernel
theorem dX8_writes_25 : decode cX8_writes 25 = .ok (.getfield 80, 3) := by decide +kernel
theorem dX8_writes_28 : decode cX8_writes 28 = .ok (.aload_n 0, 1) := by decide +kernel
theorem dX8_writes_29 : decode cX8_writes 29 = .ok (.getfield 116, 3) := by decide +kernel
theorem dX8_writes_32 : decode cX8_writes 32 = .ok (.iload_n 1, 1) := by decide +kernel
theorem dX8_writes_33 : decode cX8_writes 33 = .ok (.iastore, 1) := by decide +kernel
theorem dX8_writes_34 : decode cX8_writes 34 = .ok (.aload_n 0, 1) := by decide +kernel
theorem dX8_writes_35 : decode cX8_writes 35 = .ok (.getfield 83, 3) := by decide +kernel
theorem dX8_writes_38 : decode cX8_writes 38 = .ok (.aload_n 0, 1) := by decide +kernel
theorem dX8_writes_39 : decode cX8_writes 39 = .ok (.getfield 116, 3) := by decide +kernel
theorem dX8_writes_42 : decode cX8_writes 42 = .ok (.bipush 31, 2) := by decide +kernel
theorem dX8_writes_44 : decode cX8_writes 44 = .ok (.iload 4, 2) := by decide +kernel
theorem dX8_writes_46 : decode cX8_writes 46 = .ok (.imul, 1) := by decide +kernel
theorem dX8_writes_47 : decode cX8_writes 47 = .ok (.iload_n 1, 1) := by decide +kernel
theorem dX8_writes_48 : decode cX8_writes 48 = .ok (.iadd, 1) := by decide +kernel
theorem dX8_writes_49 : decode cX8_writes 49 = .ok (.bipush 10, 2) := by decide +kernel
theorem dX8_writes_51 : decode cX8_writes 51 = .ok (.iload_n 2, 1) := by decide +kernel
theorem dX8_writes_52 : decode cX8_writes 52 = .ok (.imul, 1) := by decide +kernel
theorem dX8_writes_53 : decode cX8_writes 53 = .ok (.iadd, 1) := by decide +kernel
theorem dX8_writes_54 : decode cX8_writes 54 = .ok (.sipush 200, 3) := by decide +kernel
theorem dX8_writes_57 : decode cX8_writes 57 = .ok (.iload_n 3, 1) := by decide +kernel
theorem dX8_writes_58 : decode cX8_writes 58 = .ok (.imul, 1) := by decide +kernel
theorem dX8_writes_59 : decode cX8_writes 59 = .ok (.iadd, 1) := by decide +kernel
theorem dX8_writes_60 : decode cX8_writes 60 = .ok (.sipush 2000, 3) := by decide +kernel
theorem dX8_writes_63 : decode cX8_writes 63 = .ok (.aload_n 0, 1) := by decide +kernel
theorem dX8_writes_64 : decode cX8_writes 64 = .ok (.getfield 119, 3) := by decide +kernel
theorem dX8_writes_67 : decode cX8_writes 67 = .ok (.imul, 1) := by decide +kernel
theorem dX8_writes_68 : decode cX8_writes 68 = .ok (.iadd, 1) := by decide +kernel
theorem dX8_writes_69 : decode cX8_writes 69 = .ok (.ldc 122, 2) := by decide +kernel
theorem dX8_writes_71 : decode cX8_writes 71 = .ok (.irem, 1) := by decide +kernel
theorem dX8_writes_72 : decode cX8_writes 72 = .ok (.iastore, 1) := by decide +kernel
theorem dX8_writes_73 : decode cX8_writes 73 = .ok (.aload_n 0, 1) := by decide +kernel
theorem dX8_writes_74 : decode cX8_writes 74 = .ok (.dup, 1) := by decide +kernel
theorem dX8_writes_75 : decode cX8_writes 75 = .ok (.getfield 116, 3) := by decide +kernel
theorem dX8_writes_78 : decode cX8_writes 78 = .ok (.iconst 1, 1) := by decide +kernel
theorem dX8_writes_79 : decode cX8_writes 79 = .ok (.iadd, 1) := by decide +kernel
theorem dX8_writes_80 : decode cX8_writes 80 = .ok (.putfield 116, 3) := by decide +kernel
theorem dX8_writes_83 : decode cX8_writes 83 = .ok (.return_, 1) := by decide +kernel
theorem dX8_addPerson_0 : decode cX8_addPerson 0 = .ok (.aload_n 0, 1) := by decide +kernel
theorem dX8_addPerson_1 : decode cX8_addPerson 1 = .ok (.iload_n 1, 1) := by decide +kernel
theorem dX8_addPerson_2 : decode cX8_addPerson 2 = .ok (.iconst 0, 1) := by decide +kernel
theorem dX8_addPerson_3 : decode cX8_addPerson 3 = .ok (.iconst 3, 1) := by decide +kernel
theorem dX8_addPerson_4 : decode cX8_addPerson 4 = .ok (.invokestatic 93, 3) := by decide +kernel
theorem dX8_addPerson_7 : decode cX8_addPerson 7 = .ok (.aload_n 0, 1) := by decide +kernel
theorem dX8_addPerson_8 : decode cX8_addPerson 8 = .ok (.getfield 90, 3) := by decide +kernel
theorem dX8_addPerson_11 : decode cX8_addPerson 11 = .ok (.bipush 12, 2) := by decide +kernel
theorem dX8_addPerson_13 : decode cX8_addPerson 13 = .ok (.if_icmp .ge 7, 3) := by decide +kernel
theorem dX8_addPerson_16 : decode cX8_addPerson 16 = .ok (.iconst 1, 1) := by decide +kernel
theorem dX8_addPerson_17 : decode cX8_addPerson 17 = .ok (.goto 4, 3) := by decide +kernel
theorem dX8_addPerson_20 : decode cX8_addPerson 20 = .ok (.iconst 0, 1) := by decide +kernel
theorem dX8_addPerson_21 : decode cX8_addPerson 21 = .ok (.iconst 1, 1) := by decide +kernel
theorem dX8_addPerson_22 : decode cX8_addPerson 22 = .ok (.invokevirtual 123, 3) := by decide +kernel
theorem dX8_addPerson_25 : decode cX8_addPerson 25 = .ok (.ifCond .ne 5, 3) := by decide +kernel
theorem dX8_addPerson_28 : decode cX8_addPerson 28 = .ok (.iconst 0, 1) := by decide +kernel
theorem dX8_addPerson_29 : decode cX8_addPerson 29 = .ok (.ireturn, 1) := by decide +kernel
theorem dX8_addPerson_30 : decode cX8_addPerson 30 = .ok (.aload_n 0, 1) := by decide +kernel
theorem dX8_addPerson_31 : decode cX8_addPerson 31 = .ok (.getfield 7, 3) := by decide +kernel
theorem dX8_addPerson_34 : decode cX8_addPerson 34 = .ok (.aload_n 0, 1) := by decide +kernel
theorem dX8_addPerson_35 : decode cX8_addPerson 35 = .ok (.getfield 90, 3) := by decide +kernel
theorem dX8_addPerson_38 : decode cX8_addPerson 38 = .ok (.iload_n 1, 1) := by decide +kernel
theorem dX8_addPerson_39 : decode cX8_addPerson 39 = .ok (.iastore, 1) := by decide +kernel
theorem dX8_addPerson_40 : decode cX8_addPerson 40 = .ok (.aload_n 0, 1) := by decide +kernel
theorem dX8_addPerson_41 : decode cX8_addPerson 41 = .ok (.dup, 1) := by decide +kernel
theorem dX8_addPerson_42 : decode cX8_addPerson 42 = .ok (.getfield 90, 3) := by decide +kernel
theorem dX8_addPerson_45 : decode cX8_addPerson 45 = .ok (.iconst 1, 1) := by decide +kernel
theorem dX8_addPerson_46 : decode cX8_addPerson 46 = .ok (.iadd, 1) := by decide +kernel
theorem dX8_addPerson_47 : decode cX8_addPerson 47 = .ok (.putfield 90, 3) := by decide +kernel
theorem dX8_addPerson_50 : decode cX8_addPerson 50 = .ok (.aload_n 0, 1) := by decide +kernel
theorem dX8_addPerson_51 : decode cX8_addPerson 51 = .ok (.getfield 90, 3) := by decide +kernel
theorem dX8_addPerson_54 : decode cX8_addPerson 54 = .ok (.iconst 1, 1) := by decide +kernel
theorem dX8_addPerson_55 : decode cX8_addPerson 55 = .ok (.isub, 1) := by decide +kernel
theorem dX8_addPerson_56 : decode cX8_addPerson 56 = .ok (.ireturn, 1) := by decide +kernel
theorem dX8_addMachine_0 : decode cX8_addMachine 0 = .ok (.aload_n 0, 1) := by decide +kernel
theorem dX8_addMachine_1 : decode cX8_addMachine 1 = .ok (.iload_n 1, 1) := by decide +kernel
theorem dX8_addMachine_2 : decode cX8_addMachine 2 = .ok (.iconst 0, 1) := by decide +kernel
theorem dX8_addMachine_3 : decode cX8_addMachine 3 = .ok (.iconst 3, 1) := by decide +kernel
theorem dX8_addMachine_4 : decode cX8_addMachine 4 = .ok (.invokestatic 93, 3) := by decide +kernel
theorem dX8_addMachine_7 : decode cX8_addMachine 7 = .ok (.aload_n 0, 1) := by decide +kernel
theorem dX8_addMachine_8 : decode cX8_addMachine 8 = .ok (.getfield 97, 3) := by decide +kernel
theorem dX8_addMachine_11 : decode cX8_addMachine 11 = .ok (.bipush 8, 2) := by decide +kernel
theorem dX8_addMachine_13 : decode cX8_addMachine 13 = .ok (.if_icmp .ge 7, 3) := by decide +kernel
theorem dX8_addMachine_16 : decode cX8_addMachine 16 = .ok (.iconst 1, 1) := by decide +kernel
theorem dX8_addMachine_17 : decode cX8_addMachine 17 = .ok (.goto 4, 3) := by decide +kernel
theorem dX8_addMachine_20 : decode cX8_addMachine 20 = .ok (.iconst 0, 1) := by decide +kernel
theorem dX8_addMachine_21 : decode cX8_addMachine 21 = .ok (.iconst 1, 1) := by decide +kernel
theorem dX8_addMachine_22 : decode cX8_addMachine 22 = .ok (.invokevirtual 123, 3) := by decide +kernel
theorem dX8_addMachine_25 : decode cX8_addMachine 25 = .ok (.ifCond .ne 5, 3) := by decide +kernel
theorem dX8_addMachine_28 : decode cX8_addMachine 28 = .ok (.iconst 0, 1) := by decide +kernel
theorem dX8_addMachine_29 : decode cX8_addMachine 29 = .ok (.ireturn, 1) := by decide +kernel
theorem dX8_addMachine_30 : decode cX8_addMachine 30 = .ok (.aload_n 0, 1) := by decide +kernel
theorem dX8_addMachine_31 : decode cX8_addMachine 31 = .ok (.getfield 17, 3) := by decide +kernel
theorem dX8_addMachine_34 : decode cX8_addMachine 34 = .ok (.aload_n 0, 1) := by decide +kernel
theorem dX8_addMachine_35 : decode cX8_addMachine 35 = .ok (.getfield 97, 3) := by decide +kernel
theorem dX8_addMachine_38 : decode cX8_addMachine 38 = .ok (.iload_n 1, 1) := by decide +kernel
theorem dX8_addMachine_39 : decode cX8_addMachine 39 = .ok (.iastore, 1) := by decide +kernel
theorem dX8_addMachine_40 : decode cX8_addMachine 40 = .ok (.aload_n 0, 1) := by decide +kernel
theorem dX8_addMachine_41 : decode cX8_addMachine 41 = .ok (.dup, 1) := by decide +kernel
theorem dX8_addMachine_42 : decode cX8_addMachine 42 = .ok (.getfield 97, 3) := by decide +kernel
theorem dX8_addMachine_45 : decode cX8_addMachine 45 = .ok (.iconst 1, 1) := by decide +kernel
theorem dX8_addMachine_46 : decode cX8_addMachine 46 = .ok (.iadd, 1) := by decide +kernel
theorem dX8_addMachine_47 : decode cX8_addMachine 47 = .ok (.putfield 97, 3) := by decide +kernel
theorem dX8_addMachine_50 : decode cX8_addMachine 50 = .ok (.aload_n 0, 1) := by decide +kernel
theorem dX8_addMachine_51 : decode cX8_addMachine 51 = .ok (.getfield 97, 3) := by decide +kernel
theorem dX8_addMachine_54 : decode cX8_addMachine 54 = .ok (.iconst 1, 1) := by decide +kernel
theorem dX8_addMachine_55 : decode cX8_addMachine 55 = .ok (.isub, 1) := by decide +kernel
theorem dX8_addMachine_56 : decode cX8_addMachine 56 = .ok (.ireturn, 1) := by decide +kernel
theorem dX8_hasLabel_0 : decode cX8_hasLabel 0 = .ok (.aload_n 0, 1) := by decide +kernel
theorem dX8_hasLabel_1 : decode cX8_hasLabel 1 = .ok (.getfield 13, 3) := by decide +kernel
theorem dX8_hasLabel_4 : decode cX8_hasLabel 4 = .ok (.iconst 4, 1) := by decide +kernel
theorem dX8_hasLabel_5 : decode cX8_hasLabel 5 = .ok (.iload_n 1, 1) := by decide +kernel
theorem dX8_hasLabel_6 : decode cX8_hasLabel 6 = .ok (.imul, 1) := by decide +kernel
theorem dX8_hasLabel_7 : decode cX8_hasLabel 7 = .ok (.aload_n 0, 1) := by decide +kernel
theorem dX8_hasLabel_8 : decode cX8_hasLabel 8 = .ok (.getfield 17, 3) := by decide +kernel
theorem dX8_hasLabel_11 : decode cX8_hasLabel 11 = .ok (.iload_n 2, 1) := by decide +kernel
theorem dX8_hasLabel_12 : decode cX8_hasLabel 12 = .ok (.iaload, 1) := by decide +kernel
theorem dX8_hasLabel_13 : decode cX8_hasLabel 13 = .ok (.iadd, 1) := by decide +kernel
theorem dX8_hasLabel_14 : decode cX8_hasLabel 14 = .ok (.baload, 1) := by decide +kernel
theorem dX8_hasLabel_15 : decode cX8_hasLabel 15 = .ok (.ireturn, 1) := by decide +kernel
theorem dX8_holdsAt_0 : decode cX8_holdsAt 0 = .ok (.iconst 0, 1) := by decide +kernel
theorem dX8_holdsAt_1 : decode cX8_holdsAt 1 = .ok (.istore 4, 2) := by decide +kernel
theorem dX8_holdsAt_3 : decode cX8_holdsAt 3 = .ok (.iconst 0, 1) := by decide +kernel
theorem dX8_holdsAt_4 : decode cX8_holdsAt 4 = .ok (.istore 5, 2) := by decide +kernel
theorem dX8_holdsAt_6 : decode cX8_holdsAt 6 = .ok (.iload 5, 2) := by decide +kernel
theorem dX8_holdsAt_8 : decode cX8_holdsAt 8 = .ok (.aload_n 0, 1) := by decide +kernel
theorem dX8_holdsAt_9 : decode cX8_holdsAt 9 = .ok (.getfield 127, 3) := by decide +kernel
theorem dX8_holdsAt_12 : decode cX8_holdsAt 12 = .ok (.if_icmp .ge 65, 3) := by decide +kernel
theorem dX8_holdsAt_15 : decode cX8_holdsAt 15 = .ok (.iload 4, 2) := by decide +kernel
theorem dX8_holdsAt_17 : decode cX8_holdsAt 17 = .ok (.ifCond .ne 47, 3) := by decide +kernel
theorem dX8_holdsAt_20 : decode cX8_holdsAt 20 = .ok (.aload_n 0, 1) := by decide +kernel
theorem dX8_holdsAt_21 : decode cX8_holdsAt 21 = .ok (.getfield 20, 3) := by decide +kernel
theorem dX8_holdsAt_24 : decode cX8_holdsAt 24 = .ok (.iload 5, 2) := by decide +kernel
theorem dX8_holdsAt_26 : decode cX8_holdsAt 26 = .ok (.iaload, 1) := by decide +kernel
theorem dX8_holdsAt_27 : decode cX8_holdsAt 27 = .ok (.iload_n 1, 1) := by decide +kernel
theorem dX8_holdsAt_28 : decode cX8_holdsAt 28 = .ok (.if_icmp .ne 40, 3) := by decide +kernel
theorem dX8_holdsAt_31 : decode cX8_holdsAt 31 = .ok (.aload_n 0, 1) := by decide +kernel
theorem dX8_holdsAt_32 : decode cX8_holdsAt 32 = .ok (.getfield 23, 3) := by decide +kernel
theorem dX8_holdsAt_35 : decode cX8_holdsAt 35 = .ok (.iload 5, 2) := by decide +kernel
theorem dX8_holdsAt_37 : decode cX8_holdsAt 37 = .ok (.iaload, 1) := by decide +kernel
theorem dX8_holdsAt_38 : decode cX8_holdsAt 38 = .ok (.iload_n 2, 1) := by decide +kernel
theorem dX8_holdsAt_39 : decode cX8_holdsAt 39 = .ok (.if_icmp .ne 29, 3) := by decide +kernel
theorem dX8_holdsAt_42 : decode cX8_holdsAt 42 = .ok (.aload_n 0, 1) := by decide +kernel
theorem dX8_holdsAt_43 : decode cX8_holdsAt 43 = .ok (.getfield 26, 3) := by decide +kernel
theorem dX8_holdsAt_46 : decode cX8_holdsAt 46 = .ok (.iload 5, 2) := by decide +kernel
theorem dX8_holdsAt_48 : decode cX8_holdsAt 48 = .ok (.iaload, 1) := by decide +kernel
theorem dX8_holdsAt_49 : decode cX8_holdsAt 49 = .ok (.iload_n 3, 1) := by decide +kernel
theorem dX8_holdsAt_50 : decode cX8_holdsAt 50 = .ok (.if_icmp .gt 18, 3) := by decide +kernel
theorem dX8_holdsAt_53 : decode cX8_holdsAt 53 = .ok (.iload_n 3, 1) := by decide +kernel
theorem dX8_holdsAt_54 : decode cX8_holdsAt 54 = .ok (.aload_n 0, 1) := by decide +kernel
theorem dX8_holdsAt_55 : decode cX8_holdsAt 55 = .ok (.getfield 29, 3) := by decide +kernel
theorem dX8_holdsAt_58 : decode cX8_holdsAt 58 = .ok (.iload 5, 2) := by decide +kernel
theorem dX8_holdsAt_60 : decode cX8_holdsAt 60 = .ok (.iaload, 1) := by decide +kernel
theorem dX8_holdsAt_61 : decode cX8_holdsAt 61 = .ok (.if_icmp .ge 7, 3) := by decide +kernel
theorem dX8_holdsAt_64 : decode cX8_holdsAt 64 = .ok (.iconst 1, 1) := by decide +kernel
theorem dX8_holdsAt_65 : decode cX8_holdsAt 65 = .ok (.goto 4, 3) := by decide +kernel
theorem dX8_holdsAt_68 : decode cX8_holdsAt 68 = .ok (.iconst 0, 1) := by decide +kernel
theorem dX8_holdsAt_69 : decode cX8_holdsAt 69 = .ok (.istore 4, 2) := by decide +kernel
theorem dX8_holdsAt_71 : decode cX8_holdsAt 71 = .ok (.iinc 5 1, 3) := by decide +kernel
theorem dX8_holdsAt_74 : decode cX8_holdsAt 74 = .ok (.goto (-68), 3) := by decide +kernel
theorem dX8_holdsAt_77 : decode cX8_holdsAt 77 = .ok (.iload 4, 2) := by decide +kernel
theorem dX8_holdsAt_79 : decode cX8_holdsAt 79 = .ok (.ireturn, 1) := by decide +kernel
theorem dX8_grants_0 : decode cX8_grants 0 = .ok (.aload_n 0, 1) := by decide +kernel
theorem dX8_grants_1 : decode cX8_grants 1 = .ok (.getfield 20, 3) := by decide +kernel
theorem dX8_grants_4 : decode cX8_grants 4 = .ok (.aload_n 0, 1) := by decide +kernel
theorem dX8_grants_5 : decode cX8_grants 5 = .ok (.getfield 127, 3) := by decide +kernel
theorem dX8_grants_8 : decode cX8_grants 8 = .ok (.iload_n 1, 1) := by decide +kernel
theorem dX8_grants_9 : decode cX8_grants 9 = .ok (.iastore, 1) := by decide +kernel
theorem dX8_grants_10 : decode cX8_grants 10 = .ok (.aload_n 0, 1) := by decide +kernel
theorem dX8_grants_11 : decode cX8_grants 11 = .ok (.getfield 23, 3) := by decide +kernel
theorem dX8_grants_14 : decode cX8_grants 14 = .ok (.aload_n 0, 1) := by decide +kernel
theorem dX8_grants_15 : decode cX8_grants 15 = .ok (.getfield 127, 3) := by decide +kernel
theorem dX8_grants_18 : decode cX8_grants 18 = .ok (.iload_n 2, 1) := by decide +kernel
theorem dX8_grants_19 : decode cX8_grants 19 = .ok (.iastore, 1) := by decide +kernel
theorem dX8_grants_20 : decode cX8_grants 20 = .ok (.aload_n 0, 1) := by decide +kernel
theorem dX8_grants_21 : decode cX8_grants 21 = .ok (.getfield 26, 3) := by decide +kernel
theorem dX8_grants_24 : decode cX8_grants 24 = .ok (.aload_n 0, 1) := by decide +kernel
theorem dX8_grants_25 : decode cX8_grants 25 = .ok (.getfield 127, 3) := by decide +kernel
theorem dX8_grants_28 : decode cX8_grants 28 = .ok (.aload_n 0, 1) := by decide +kernel
theorem dX8_grants_29 : decode cX8_grants 29 = .ok (.getfield 119, 3) := by decide +kernel
theorem dX8_grants_32 : decode cX8_grants 32 = .ok (.iastore, 1) := by decide +kernel
theorem dX8_grants_33 : decode cX8_grants 33 = .ok (.aload_n 0, 1) := by decide +kernel
theorem dX8_grants_34 : decode cX8_grants 34 = .ok (.getfield 29, 3) := by decide +kernel
theorem dX8_grants_37 : decode cX8_grants 37 = .ok (.aload_n 0, 1) := by decide +kernel
theorem dX8_grants_38 : decode cX8_grants 38 = .ok (.getfield 127, 3) := by decide +kernel
theorem dX8_grants_41 : decode cX8_grants 41 = .ok (.aload_n 0, 1) := by decide +kernel
theorem dX8_grants_42 : decode cX8_grants 42 = .ok (.getfield 119, 3) := by decide +kernel
theorem dX8_grants_45 : decode cX8_grants 45 = .ok (.iload_n 3, 1) := by decide +kernel
theorem dX8_grants_46 : decode cX8_grants 46 = .ok (.iadd, 1) := by decide +kernel
theorem dX8_grants_47 : decode cX8_grants 47 = .ok (.iastore, 1) := by decide +kernel
theorem dX8_grants_48 : decode cX8_grants 48 = .ok (.aload_n 0, 1) := by decide +kernel
theorem dX8_grants_49 : decode cX8_grants 49 = .ok (.dup, 1) := by decide +kernel
theorem dX8_grants_50 : decode cX8_grants 50 = .ok (.getfield 127, 3) := by decide +kernel
theorem dX8_grants_53 : decode cX8_grants 53 = .ok (.iconst 1, 1) := by decide +kernel
theorem dX8_grants_54 : decode cX8_grants 54 = .ok (.iadd, 1) := by decide +kernel
theorem dX8_grants_55 : decode cX8_grants 55 = .ok (.putfield 127, 3) := by decide +kernel
theorem dX8_grants_58 : decode cX8_grants 58 = .ok (.return_, 1) := by decide +kernel
theorem dX8_endsRights_0 : decode cX8_endsRights 0 = .ok (.iconst 0, 1) := by decide +kernel
theorem dX8_endsRights_1 : decode cX8_endsRights 1 = .ok (.istore_n 3, 1) := by decide +kernel
theorem dX8_endsRights_2 : decode cX8_endsRights 2 = .ok (.iload_n 3, 1) := by decide +kernel
theorem dX8_endsRights_3 : decode cX8_endsRights 3 = .ok (.aload_n 0, 1) := by decide +kernel
theorem dX8_endsRights_4 : decode cX8_endsRights 4 = .ok (.getfield 127, 3) := by decide +kernel
theorem dX8_endsRights_7 : decode cX8_endsRights 7 = .ok (.if_icmp .ge 86, 3) := by decide +kernel
theorem dX8_endsRights_10 : decode cX8_endsRights 10 = .ok (.aload_n 0, 1) := by decide +kernel
theorem dX8_endsRights_11 : decode cX8_endsRights 11 = .ok (.getfield 20, 3) := by decide +kernel
theorem dX8_endsRights_14 : decode cX8_endsRights 14 = .ok (.iload_n 3, 1) := by decide +kernel
theorem dX8_endsRights_15 : decode cX8_endsRights 15 = .ok (.iaload, 1) := by decide +kernel
theorem dX8_endsRights_16 : decode cX8_endsRights 16 = .ok (.iload_n 1, 1) := by decide +kernel
theorem dX8_endsRights_17 : decode cX8_endsRights 17 = .ok (.if_icmp .ne 17, 3) := by decide +kernel
theorem dX8_endsRights_20 : decode cX8_endsRights 20 = .ok (.aload_n 0, 1) := by decide +kernel
theorem dX8_endsRights_21 : decode cX8_endsRights 21 = .ok (.getfield 23, 3) := by decide +kernel
theorem dX8_endsRights_24 : decode cX8_endsRights 24 = .ok (.iload_n 3, 1) := by decide +kernel
theorem dX8_endsRights_25 : decode cX8_endsRights 25 = .ok (.iaload, 1) := by decide +kernel
theorem dX8_endsRights_26 : decode cX8_endsRights 26 = .ok (.iload_n 2, 1) := by decide +kernel
theorem dX8_endsRights_27 : decode cX8_endsRights 27 = .ok (.if_icmp .ne 7, 3) := by decide +kernel
theorem dX8_endsRights_30 : decode cX8_endsRights 30 = .ok (.iconst 1, 1) := by decide +kernel
theorem dX8_endsRights_31 : decode cX8_endsRights 31 = .ok (.goto 4, 3) := by decide +kernel
theorem dX8_endsRights_34 : decode cX8_endsRights 34 = .ok (.iconst 0, 1) := by decide +kernel
theorem dX8_endsRights_35 : decode cX8_endsRights 35 = .ok (.istore 4, 2) := by decide +kernel
theorem dX8_endsRights_37 : decode cX8_endsRights 37 = .ok (.aload_n 0, 1) := by decide +kernel
theorem dX8_endsRights_38 : decode cX8_endsRights 38 = .ok (.getfield 29, 3) := by decide +kernel
theorem dX8_endsRights_41 : decode cX8_endsRights 41 = .ok (.iload_n 3, 1) := by decide +kernel
theorem dX8_endsRights_42 : decode cX8_endsRights 42 = .ok (.iload 4, 2) := by decide +kernel
theorem dX8_endsRights_44 : decode cX8_endsRights 44 = .ok (.ifCond .eq 36, 3) := by decide +kernel
theorem dX8_endsRights_47 : decode cX8_endsRights 47 = .ok (.aload_n 0, 1) := by decide +kernel
theorem dX8_endsRights_48 : decode cX8_endsRights 48 = .ok (.getfield 26, 3) := by decide +kernel
theorem dX8_endsRights_51 : decode cX8_endsRights 51 = .ok (.iload_n 3, 1) := by decide +kernel
theorem dX8_endsRights_52 : decode cX8_endsRights 52 = .ok (.iaload, 1) := by decide +kernel
theorem dX8_endsRights_53 : decode cX8_endsRights 53 = .ok (.aload_n 0, 1) := by decide +kernel
theorem dX8_endsRights_54 : decode cX8_endsRights 54 = .ok (.getfield 119, 3) := by decide +kernel
theorem dX8_endsRights_57 : decode cX8_endsRights 57 = .ok (.if_icmp .gt 23, 3) := by decide +kernel
theorem dX8_endsRights_60 : decode cX8_endsRights 60 = .ok (.aload_n 0, 1) := by decide +kernel
theorem dX8_endsRights_61 : decode cX8_endsRights 61 = .ok (.getfield 119, 3) := by decide +kernel
theorem dX8_endsRights_64 : decode cX8_endsRights 64 = .ok (.aload_n 0, 1) := by decide +kernel
theorem dX8_endsRights_65 : decode cX8_endsRights 65 = .ok (.getfield 29, 3) := by decide +kernel
theorem dX8_endsRights_68 : decode cX8_endsRights 68 = .ok (.iload_n 3, 1) := by decide +kernel
theorem dX8_endsRights_69 : decode cX8_endsRights 69 = .ok (.iaload, 1) := by decide +kernel
theorem dX8_endsRights_70 : decode cX8_endsRights 70 = .ok (.if_icmp .ge 10, 3) := by decide +kernel
theorem dX8_endsRights_73 : decode cX8_endsRights 73 = .ok (.aload_n 0, 1) := by decide +kernel
theorem dX8_endsRights_74 : decode cX8_endsRights 74 = .ok (.getfield 119, 3) := by decide +kernel
theorem dX8_endsRights_77 : decode cX8_endsRights 77 = .ok (.goto 9, 3) := by decide +kernel
theorem dX8_endsRights_80 : decode cX8_endsRights 80 = .ok (.aload_n 0, 1) := by decide +kernel
theorem dX8_endsRights_81 : decode cX8_endsRights 81 = .ok (.getfield 29, 3) := by decide +kernel
theorem dX8_endsRights_84 : decode cX8_endsRights 84 = .ok (.iload_n 3, 1) := by decide +kernel
theorem dX8_endsRights_85 : decode cX8_endsRights 85 = .ok (.iaload, 1) := by decide +kernel
theorem dX8_endsRights_86 : decode cX8_endsRights 86 = .ok (.iastore, 1) := by decide +kernel
theorem dX8_endsRights_87 : decode cX8_endsRights 87 = .ok (.iinc 3 1, 3) := by decide +kernel
theorem dX8_endsRights_90 : decode cX8_endsRights 90 = .ok (.goto (-88), 3) := by decide +kernel
theorem dX8_endsRights_93 : decode cX8_endsRights 93 = .ok (.return_, 1) := by decide +kernel
theorem dX8_deniesAsks_0 : decode cX8_deniesAsks 0 = .ok (.iconst 0, 1) := by decide +kernel
theorem dX8_deniesAsks_1 : decode cX8_deniesAsks 1 = .ok (.istore_n 3, 1) := by decide +kernel
theorem dX8_deniesAsks_2 : decode cX8_deniesAsks 2 = .ok (.iload_n 3, 1) := by decide +kernel
theorem dX8_deniesAsks_3 : decode cX8_deniesAsks 3 = .ok (.aload_n 0, 1) := by decide +kernel
theorem dX8_deniesAsks_4 : decode cX8_deniesAsks 4 = .ok (.getfield 107, 3) := by decide +kernel
theorem dX8_deniesAsks_7 : decode cX8_deniesAsks 7 = .ok (.if_icmp .ge 66, 3) := by decide +kernel
theorem dX8_deniesAsks_10 : decode cX8_deniesAsks 10 = .ok (.aload_n 0, 1) := by decide +kernel
theorem dX8_deniesAsks_11 : decode cX8_deniesAsks 11 = .ok (.getfield 32, 3) := by decide +kernel
theorem dX8_deniesAsks_14 : decode cX8_deniesAsks 14 = .ok (.iload_n 3, 1) := by decide +kernel
theorem dX8_deniesAsks_15 : decode cX8_deniesAsks 15 = .ok (.iaload, 1) := by decide +kernel
theorem dX8_deniesAsks_16 : decode cX8_deniesAsks 16 = .ok (.iload_n 1, 1) := by decide +kernel
theorem dX8_deniesAsks_17 : decode cX8_deniesAsks 17 = .ok (.if_icmp .ne 26, 3) := by decide +kernel
theorem dX8_deniesAsks_20 : decode cX8_deniesAsks 20 = .ok (.aload_n 0, 1) := by decide +kernel
theorem dX8_deniesAsks_21 : decode cX8_deniesAsks 21 = .ok (.getfield 35, 3) := by decide +kernel
theorem dX8_deniesAsks_24 : decode cX8_deniesAsks 24 = .ok (.iload_n 3, 1) := by decide +kernel
theorem dX8_deniesAsks_25 : decode cX8_deniesAsks 25 = .ok (.iaload, 1) := by decide +kernel
theorem dX8_deniesAsks_26 : decode cX8_deniesAsks 26 = .ok (.iload_n 2, 1) := by decide +kernel
theorem dX8_deniesAsks_27 : decode cX8_deniesAsks 27 = .ok (.if_icmp .ne 16, 3) := by decide +kernel
theorem dX8_deniesAsks_30 : decode cX8_deniesAsks 30 = .ok (.aload_n 0, 1) := by decide +kernel
theorem dX8_deniesAsks_31 : decode cX8_deniesAsks 31 = .ok (.getfield 44, 3) := by decide +kernel
theorem dX8_deniesAsks_34 : decode cX8_deniesAsks 34 = .ok (.iload_n 3, 1) := by decide +kernel
theorem dX8_deniesAsks_35 : decode cX8_deniesAsks 35 = .ok (.iaload, 1) := by decide +kernel
theorem dX8_deniesAsks_36 : decode cX8_deniesAsks 36 = .ok (.ifCond .ne 7, 3) := by decide +kernel
theorem dX8_deniesAsks_39 : decode cX8_deniesAsks 39 = .ok (.iconst 1, 1) := by decide +kernel
theorem dX8_deniesAsks_40 : decode cX8_deniesAsks 40 = .ok (.goto 4, 3) := by decide +kernel
theorem dX8_deniesAsks_43 : decode cX8_deniesAsks 43 = .ok (.iconst 0, 1) := by decide +kernel
theorem dX8_deniesAsks_44 : decode cX8_deniesAsks 44 = .ok (.istore 4, 2) := by decide +kernel
theorem dX8_deniesAsks_46 : decode cX8_deniesAsks 46 = .ok (.aload_n 0, 1) := by decide +kernel
theorem dX8_deniesAsks_47 : decode cX8_deniesAsks 47 = .ok (.getfield 44, 3) := by decide +kernel
theorem dX8_deniesAsks_50 : decode cX8_deniesAsks 50 = .ok (.iload_n 3, 1) := by decide +kernel
theorem dX8_deniesAsks_51 : decode cX8_deniesAsks 51 = .ok (.iload 4, 2) := by decide +kernel
theorem dX8_deniesAsks_53 : decode cX8_deniesAsks 53 = .ok (.ifCond .eq 7, 3) := by decide +kernel
theorem dX8_deniesAsks_56 : decode cX8_deniesAsks 56 = .ok (.iconst 2, 1) := by decide +kernel
theorem dX8_deniesAsks_57 : decode cX8_deniesAsks 57 = .ok (.goto 9, 3) := by decide +kernel
theorem dX8_deniesAsks_60 : decode cX8_deniesAsks 60 = .ok (.aload_n 0, 1) := by decide +kernel
theorem dX8_deniesAsks_61 : decode cX8_deniesAsks 61 = .ok (.getfield 44, 3) := by decide +kernel
theorem dX8_deniesAsks_64 : decode cX8_deniesAsks 64 = .ok (.iload_n 3, 1) := by decide +kernel
theorem dX8_deniesAsks_65 : decode cX8_deniesAsks 65 = .ok (.iaload, 1) := by decide +kernel
theorem dX8_deniesAsks_66 : decode cX8_deniesAsks 66 = .ok (.iastore, 1) := by decide +kernel
theorem dX8_deniesAsks_67 : decode cX8_deniesAsks 67 = .ok (.iinc 3 1, 3) := by decide +kernel
theorem dX8_deniesAsks_70 : decode cX8_deniesAsks 70 = .ok (.goto (-68), 3) := by decide +kernel
theorem dX8_deniesAsks_73 : decode cX8_deniesAsks 73 = .ok (.return_, 1) := by decide +kernel
theorem dX8_shuts_0 : decode cX8_shuts 0 = .ok (.aload_n 0, 1) := by decide +kernel
theorem dX8_shuts_1 : decode cX8_shuts 1 = .ok (.getfield 68, 3) := by decide +kernel
theorem dX8_shuts_4 : decode cX8_shuts 4 = .ok (.iload_n 1, 1) := by decide +kernel
theorem dX8_shuts_5 : decode cX8_shuts 5 = .ok (.iconst 0, 1) := by decide +kernel
theorem dX8_shuts_6 : decode cX8_shuts 6 = .ok (.bastore, 1) := by decide +kernel
theorem dX8_shuts_7 : decode cX8_shuts 7 = .ok (.aload_n 0, 1) := by decide +kernel
theorem dX8_shuts_8 : decode cX8_shuts 8 = .ok (.getfield 74, 3) := by decide +kernel
theorem dX8_shuts_11 : decode cX8_shuts 11 = .ok (.iload_n 1, 1) := by decide +kernel
theorem dX8_shuts_12 : decode cX8_shuts 12 = .ok (.iconst (-1), 1) := by decide +kernel
theorem dX8_shuts_13 : decode cX8_shuts 13 = .ok (.iastore, 1) := by decide +kernel
theorem dX8_shuts_14 : decode cX8_shuts 14 = .ok (.aload_n 0, 1) := by decide +kernel
theorem dX8_shuts_15 : decode cX8_shuts 15 = .ok (.bipush 6, 2) := by decide +kernel
theorem dX8_shuts_17 : decode cX8_shuts 17 = .ok (.aload_n 0, 1) := by decide +kernel
theorem dX8_shuts_18 : decode cX8_shuts 18 = .ok (.getfield 62, 3) := by decide +kernel
theorem dX8_shuts_21 : decode cX8_shuts 21 = .ok (.iload_n 1, 1) := by decide +kernel
theorem dX8_shuts_22 : decode cX8_shuts 22 = .ok (.iaload, 1) := by decide +kernel
theorem dX8_shuts_23 : decode cX8_shuts 23 = .ok (.aload_n 0, 1) := by decide +kernel
theorem dX8_shuts_24 : decode cX8_shuts 24 = .ok (.getfield 65, 3) := by decide +kernel
theorem dX8_shuts_27 : decode cX8_shuts 27 = .ok (.iload_n 1, 1) := by decide +kernel
theorem dX8_shuts_28 : decode cX8_shuts 28 = .ok (.iaload, 1) := by decide +kernel
theorem dX8_shuts_29 : decode cX8_shuts 29 = .ok (.invokevirtual 130, 3) := by decide +kernel
theorem dX8_shuts_32 : decode cX8_shuts 32 = .ok (.return_, 1) := by decide +kernel
theorem dX8_closes_0 : decode cX8_closes 0 = .ok (.iconst 0, 1) := by decide +kernel
theorem dX8_closes_1 : decode cX8_closes 1 = .ok (.istore_n 2, 1) := by decide +kernel
theorem dX8_closes_2 : decode cX8_closes 2 = .ok (.iconst 0, 1) := by decide +kernel
theorem dX8_closes_3 : decode cX8_closes 3 = .ok (.istore_n 3, 1) := by decide +kernel
theorem dX8_closes_4 : decode cX8_closes 4 = .ok (.iload_n 3, 1) := by decide +kernel
theorem dX8_closes_5 : decode cX8_closes 5 = .ok (.aload_n 0, 1) := by decide +kernel
theorem dX8_closes_6 : decode cX8_closes 6 = .ok (.getfield 113, 3) := by decide +kernel
theorem dX8_closes_9 : decode cX8_closes 9 = .ok (.if_icmp .ge 70, 3) := by decide +kernel
theorem dX8_closes_12 : decode cX8_closes 12 = .ok (.aload_n 0, 1) := by decide +kernel
theorem dX8_closes_13 : decode cX8_closes 13 = .ok (.getfield 68, 3) := by decide +kernel
theorem dX8_closes_16 : decode cX8_closes 16 = .ok (.iload_n 3, 1) := by decide +kernel
theorem dX8_closes_17 : decode cX8_closes 17 = .ok (.baload, 1) := by decide +kernel
theorem dX8_closes_18 : decode cX8_closes 18 = .ok (.ifCond .eq 55, 3) := by decide +kernel
theorem dX8_closes_21 : decode cX8_closes 21 = .ok (.iload_n 3, 1) := by decide +kernel
theorem dX8_closes_22 : decode cX8_closes 22 = .ok (.iload_n 1, 1) := by decide +kernel
theorem dX8_closes_23 : decode cX8_closes 23 = .ok (.if_icmp .eq 42, 3) := by decide +kernel
theorem dX8_closes_26 : decode cX8_closes 26 = .ok (.aload_n 0, 1) := by decide +kernel
theorem dX8_closes_27 : decode cX8_closes 27 = .ok (.getfield 119, 3) := by decide +kernel
theorem dX8_closes_30 : decode cX8_closes 30 = .ok (.aload_n 0, 1) := by decide +kernel
theorem dX8_closes_31 : decode cX8_closes 31 = .ok (.getfield 71, 3) := by decide +kernel
theorem dX8_closes_34 : decode cX8_closes 34 = .ok (.iload_n 3, 1) := by decide +kernel
theorem dX8_closes_35 : decode cX8_closes 35 = .ok (.iaload, 1) := by decide +kernel
theorem dX8_closes_36 : decode cX8_closes 36 = .ok (.isub, 1) := by decide +kernel
theorem dX8_closes_37 : decode cX8_closes 37 = .ok (.bipush 15, 2) := by decide +kernel
theorem dX8_closes_39 : decode cX8_closes 39 = .ok (.if_icmp .ge 26, 3) := by decide +kernel
theorem dX8_closes_42 : decode cX8_closes 42 = .ok (.aload_n 0, 1) := by decide +kernel
theorem dX8_closes_43 : decode cX8_closes 43 = .ok (.aload_n 0, 1) := by decide +kernel
theorem dX8_closes_44 : decode cX8_closes 44 = .ok (.getfield 62, 3) := by decide +kernel
theorem dX8_closes_47 : decode cX8_closes 47 = .ok (.iload_n 3, 1) := by decide +kernel
theorem dX8_closes_48 : decode cX8_closes 48 = .ok (.iaload, 1) := by decide +kernel
theorem dX8_closes_49 : decode cX8_closes 49 = .ok (.aload_n 0, 1) := by decide +kernel
theorem dX8_closes_50 : decode cX8_closes 50 = .ok (.getfield 65, 3) := by decide +kernel
theorem dX8_closes_53 : decode cX8_closes 53 = .ok (.iload_n 3, 1) := by decide +kernel
theorem dX8_closes_54 : decode cX8_closes 54 = .ok (.iaload, 1) := by decide +kernel
theorem dX8_closes_55 : decode cX8_closes 55 = .ok (.aload_n 0, 1) := by decide +kernel
theorem dX8_closes_56 : decode cX8_closes 56 = .ok (.getfield 119, 3) := by decide +kernel
theorem dX8_closes_59 : decode cX8_closes 59 = .ok (.invokevirtual 134, 3) := by decide +kernel
theorem dX8_closes_62 : decode cX8_closes 62 = .ok (.ifCond .ne 11, 3) := by decide +kernel
theorem dX8_closes_65 : decode cX8_closes 65 = .ok (.aload_n 0, 1) := by decide +kernel
theorem dX8_closes_66 : decode cX8_closes 66 = .ok (.iload_n 3, 1) := by decide +kernel
theorem dX8_closes_67 : decode cX8_closes 67 = .ok (.invokevirtual 137, 3) := by decide +kernel
theorem dX8_closes_70 : decode cX8_closes 70 = .ok (.iinc 2 1, 3) := by decide +kernel
theorem dX8_closes_73 : decode cX8_closes 73 = .ok (.iinc 3 1, 3) := by decide +kernel
theorem dX8_closes_76 : decode cX8_closes 76 = .ok (.goto (-72), 3) := by decide +kernel
theorem dX8_closes_79 : decode cX8_closes 79 = .ok (.iload_n 2, 1) := by decide +kernel
theorem dX8_closes_80 : decode cX8_closes 80 = .ok (.ireturn, 1) := by decide +kernel
theorem dX8_setLabel_0 : decode cX8_setLabel 0 = .ok (.aload_n 0, 1) := by decide +kernel
theorem dX8_setLabel_1 : decode cX8_setLabel 1 = .ok (.aload_n 0, 1) := by decide +kernel
theorem dX8_setLabel_2 : decode cX8_setLabel 2 = .ok (.iload_n 1, 1) := by decide +kernel
theorem dX8_setLabel_3 : decode cX8_setLabel 3 = .ok (.invokevirtual 100, 3) := by decide +kernel
theorem dX8_setLabel_6 : decode cX8_setLabel 6 = .ok (.iload_n 2, 1) := by decide +kernel
theorem dX8_setLabel_7 : decode cX8_setLabel 7 = .ok (.iconst 0, 1) := by decide +kernel
theorem dX8_setLabel_8 : decode cX8_setLabel 8 = .ok (.iconst 3, 1) := by decide +kernel
theorem dX8_setLabel_9 : decode cX8_setLabel 9 = .ok (.invokestatic 93, 3) := by decide +kernel
theorem dX8_setLabel_12 : decode cX8_setLabel 12 = .ok (.iconst 1, 1) := by decide +kernel
theorem dX8_setLabel_13 : decode cX8_setLabel 13 = .ok (.invokevirtual 123, 3) := by decide +kernel
theorem dX8_setLabel_16 : decode cX8_setLabel 16 = .ok (.ifCond .ne 5, 3) := by decide +kernel
theorem dX8_setLabel_19 : decode cX8_setLabel 19 = .ok (.iconst 0, 1) := by decide +kernel
theorem dX8_setLabel_20 : decode cX8_setLabel 20 = .ok (.ireturn, 1) := by decide +kernel
theorem dX8_setLabel_21 : decode cX8_setLabel 21 = .ok (.aload_n 0, 1) := by decide +kernel
theorem dX8_setLabel_22 : decode cX8_setLabel 22 = .ok (.getfield 13, 3) := by decide +kernel
theorem dX8_setLabel_25 : decode cX8_setLabel 25 = .ok (.iconst 4, 1) := by decide +kernel
theorem dX8_setLabel_26 : decode cX8_setLabel 26 = .ok (.iload_n 1, 1) := by decide +kernel
theorem dX8_setLabel_27 : decode cX8_setLabel 27 = .ok (.imul, 1) := by decide +kernel
theorem dX8_setLabel_28 : decode cX8_setLabel 28 = .ok (.iload_n 2, 1) := by decide +kernel
theorem dX8_setLabel_29 : decode cX8_setLabel 29 = .ok (.iadd, 1) := by decide +kernel
theorem dX8_setLabel_30 : decode cX8_setLabel 30 = .ok (.iload_n 3, 1) := by decide +kernel
theorem dX8_setLabel_31 : decode cX8_setLabel 31 = .ok (.bastore, 1) := by decide +kernel
theorem dX8_setLabel_32 : decode cX8_setLabel 32 = .ok (.iconst 0, 1) := by decide +kernel
theorem dX8_setLabel_33 : decode cX8_setLabel 33 = .ok (.istore 4, 2) := by decide +kernel
theorem dX8_setLabel_35 : decode cX8_setLabel 35 = .ok (.iload 4, 2) := by decide +kernel
theorem dX8_setLabel_37 : decode cX8_setLabel 37 = .ok (.aload_n 0, 1) := by decide +kernel
theorem dX8_setLabel_38 : decode cX8_setLabel 38 = .ok (.getfield 97, 3) := by decide +kernel
theorem dX8_setLabel_41 : decode cX8_setLabel 41 = .ok (.if_icmp .ge 38, 3) := by decide +kernel
theorem dX8_setLabel_44 : decode cX8_setLabel 44 = .ok (.iload_n 3, 1) := by decide +kernel
theorem dX8_setLabel_45 : decode cX8_setLabel 45 = .ok (.ifCond .ne 34, 3) := by decide +kernel
theorem dX8_setLabel_48 : decode cX8_setLabel 48 = .ok (.aload_n 0, 1) := by decide +kernel
theorem dX8_setLabel_49 : decode cX8_setLabel 49 = .ok (.getfield 17, 3) := by decide +kernel
theorem dX8_setLabel_52 : decode cX8_setLabel 52 = .ok (.iload 4, 2) := by decide +kernel
theorem dX8_setLabel_54 : decode cX8_setLabel 54 = .ok (.iaload, 1) := by decide +kernel
theorem dX8_setLabel_55 : decode cX8_setLabel 55 = .ok (.iload_n 2, 1) := by decide +kernel
theorem dX8_setLabel_56 : decode cX8_setLabel 56 = .ok (.if_icmp .ne 17, 3) := by decide +kernel
theorem dX8_setLabel_59 : decode cX8_setLabel 59 = .ok (.aload_n 0, 1) := by decide +kernel
theorem dX8_setLabel_60 : decode cX8_setLabel 60 = .ok (.iload_n 1, 1) := by decide +kernel
theorem dX8_setLabel_61 : decode cX8_setLabel 61 = .ok (.iload 4, 2) := by decide +kernel
theorem dX8_setLabel_63 : decode cX8_setLabel 63 = .ok (.invokevirtual 141, 3) := by decide +kernel
theorem dX8_setLabel_66 : decode cX8_setLabel 66 = .ok (.aload_n 0, 1) := by decide +kernel
theorem dX8_setLabel_67 : decode cX8_setLabel 67 = .ok (.iload_n 1, 1) := by decide +kernel
theorem dX8_setLabel_68 : decode cX8_setLabel 68 = .ok (.iload 4, 2) := by decide +kernel
theorem dX8_setLabel_70 : decode cX8_setLabel 70 = .ok (.invokevirtual 145, 3) := by decide +kernel
theorem dX8_setLabel_73 : decode cX8_setLabel 73 = .ok (.iinc 4 1, 3) := by decide +kernel
theorem dX8_setLabel_76 : decode cX8_setLabel 76 = .ok (.goto (-41), 3) := by decide +kernel
theorem dX8_setLabel_79 : decode cX8_setLabel 79 = .ok (.iload_n 3, 1) := by decide +kernel
theorem dX8_setLabel_80 : decode cX8_setLabel 80 = .ok (.ifCond .eq 7, 3) := by decide +kernel
theorem dX8_setLabel_83 : decode cX8_setLabel 83 = .ok (.iconst 0, 1) := by decide +kernel
theorem dX8_setLabel_84 : decode cX8_setLabel 84 = .ok (.goto 8, 3) := by decide +kernel
theorem dX8_setLabel_87 : decode cX8_setLabel 87 = .ok (.aload_n 0, 1) := by decide +kernel
theorem dX8_setLabel_88 : decode cX8_setLabel 88 = .ok (.iconst (-1), 1) := by decide +kernel
theorem dX8_setLabel_89 : decode cX8_setLabel 89 = .ok (.invokevirtual 148, 3) := by decide +kernel
theorem dX8_setLabel_92 : decode cX8_setLabel 92 = .ok (.ireturn, 1) := by decide +kernel
theorem dX8_takeAway_0 : decode cX8_takeAway 0 = .ok (.aload_n 0, 1) := by decide +kernel
theorem dX8_takeAway_1 : decode cX8_takeAway 1 = .ok (.aload_n 0, 1) := by decide +kernel
theorem dX8_takeAway_2 : decode cX8_takeAway 2 = .ok (.iload_n 1, 1) := by decide +kernel
theorem dX8_takeAway_3 : decode cX8_takeAway 3 = .ok (.iload_n 2, 1) := by decide +kernel
theorem dX8_takeAway_4 : decode cX8_takeAway 4 = .ok (.invokevirtual 152, 3) := by decide +kernel
theorem dX8_takeAway_7 : decode cX8_takeAway 7 = .ok (.iconst 1, 1) := by decide +kernel
theorem dX8_takeAway_8 : decode cX8_takeAway 8 = .ok (.iconst 1, 1) := by decide +kernel
theorem dX8_takeAway_9 : decode cX8_takeAway 9 = .ok (.invokevirtual 123, 3) := by decide +kernel
theorem dX8_takeAway_12 : decode cX8_takeAway 12 = .ok (.ifCond .ne 5, 3) := by decide +kernel
theorem dX8_takeAway_15 : decode cX8_takeAway 15 = .ok (.iconst 0, 1) := by decide +kernel
theorem dX8_takeAway_16 : decode cX8_takeAway 16 = .ok (.ireturn, 1) := by decide +kernel
theorem dX8_takeAway_17 : decode cX8_takeAway 17 = .ok (.aload_n 0, 1) := by decide +kernel
theorem dX8_takeAway_18 : decode cX8_takeAway 18 = .ok (.iload_n 1, 1) := by decide +kernel
theorem dX8_takeAway_19 : decode cX8_takeAway 19 = .ok (.iload_n 2, 1) := by decide +kernel
theorem dX8_takeAway_20 : decode cX8_takeAway 20 = .ok (.invokevirtual 141, 3) := by decide +kernel
theorem dX8_takeAway_23 : decode cX8_takeAway 23 = .ok (.aload_n 0, 1) := by decide +kernel
theorem dX8_takeAway_24 : decode cX8_takeAway 24 = .ok (.iload_n 1, 1) := by decide +kernel
theorem dX8_takeAway_25 : decode cX8_takeAway 25 = .ok (.iload_n 2, 1) := by decide +kernel
theorem dX8_takeAway_26 : decode cX8_takeAway 26 = .ok (.invokevirtual 145, 3) := by decide +kernel
theorem dX8_takeAway_29 : decode cX8_takeAway 29 = .ok (.aload_n 0, 1) := by decide +kernel
theorem dX8_takeAway_30 : decode cX8_takeAway 30 = .ok (.iconst (-1), 1) := by decide +kernel
theorem dX8_takeAway_31 : decode cX8_takeAway 31 = .ok (.invokevirtual 148, 3) := by decide +kernel
theorem dX8_takeAway_34 : decode cX8_takeAway 34 = .ok (.ireturn, 1) := by decide +kernel
theorem dX8_overdues_0 : decode cX8_overdues 0 = .ok (.iconst 0, 1) := by decide +kernel
theorem dX8_overdues_1 : decode cX8_overdues 1 = .ok (.istore_n 2, 1) := by decide +kernel
theorem dX8_overdues_2 : decode cX8_overdues 2 = .ok (.iconst 0, 1) := by decide +kernel
theorem dX8_overdues_3 : decode cX8_overdues 3 = .ok (.istore_n 3, 1) := by decide +kernel
theorem dX8_overdues_4 : decode cX8_overdues 4 = .ok (.iload_n 3, 1) := by decide +kernel
theorem dX8_overdues_5 : decode cX8_overdues 5 = .ok (.aload_n 0, 1) := by decide +kernel
theorem dX8_overdues_6 : decode cX8_overdues 6 = .ok (.getfield 110, 3) := by decide +kernel
theorem dX8_overdues_9 : decode cX8_overdues 9 = .ok (.if_icmp .ge 53, 3) := by decide +kernel
theorem dX8_overdues_12 : decode cX8_overdues 12 = .ok (.iload_n 2, 1) := by decide +kernel
theorem dX8_overdues_13 : decode cX8_overdues 13 = .ok (.aload_n 0, 1) := by decide +kernel
theorem dX8_overdues_14 : decode cX8_overdues 14 = .ok (.getfield 50, 3) := by decide +kernel
theorem dX8_overdues_17 : decode cX8_overdues 17 = .ok (.iload_n 3, 1) := by decide +kernel
theorem dX8_overdues_18 : decode cX8_overdues 18 = .ok (.iaload, 1) := by decide +kernel
theorem dX8_overdues_19 : decode cX8_overdues 19 = .ok (.iload_n 1, 1) := by decide +kernel
theorem dX8_overdues_20 : decode cX8_overdues 20 = .ok (.if_icmp .ne 33, 3) := by decide +kernel
theorem dX8_overdues_23 : decode cX8_overdues 23 = .ok (.aload_n 0, 1) := by decide +kernel
theorem dX8_overdues_24 : decode cX8_overdues 24 = .ok (.getfield 59, 3) := by decide +kernel
theorem dX8_overdues_27 : decode cX8_overdues 27 = .ok (.iload_n 3, 1) := by decide +kernel
theorem dX8_overdues_28 : decode cX8_overdues 28 = .ok (.baload, 1) := by decide +kernel
theorem dX8_overdues_29 : decode cX8_overdues 29 = .ok (.ifCond .ne 24, 3) := by decide +kernel
theorem dX8_overdues_32 : decode cX8_overdues 32 = .ok (.aload_n 0, 1) := by decide +kernel
theorem dX8_overdues_33 : decode cX8_overdues 33 = .ok (.getfield 119, 3) := by decide +kernel
theorem dX8_overdues_36 : decode cX8_overdues 36 = .ok (.aload_n 0, 1) := by decide +kernel
theorem dX8_overdues_37 : decode cX8_overdues 37 = .ok (.getfield 56, 3) := by decide +kernel
theorem dX8_overdues_40 : decode cX8_overdues 40 = .ok (.iload_n 3, 1) := by decide +kernel
theorem dX8_overdues_41 : decode cX8_overdues 41 = .ok (.iaload, 1) := by decide +kernel
theorem dX8_overdues_42 : decode cX8_overdues 42 = .ok (.isub, 1) := by decide +kernel
theorem dX8_overdues_43 : decode cX8_overdues 43 = .ok (.sipush 1440, 3) := by decide +kernel
theorem dX8_overdues_46 : decode cX8_overdues 46 = .ok (.if_icmp .lt 7, 3) := by decide +kernel
theorem dX8_overdues_49 : decode cX8_overdues 49 = .ok (.iconst 1, 1) := by decide +kernel
theorem dX8_overdues_50 : decode cX8_overdues 50 = .ok (.goto 4, 3) := by decide +kernel
theorem dX8_overdues_53 : decode cX8_overdues 53 = .ok (.iconst 0, 1) := by decide +kernel
theorem dX8_overdues_54 : decode cX8_overdues 54 = .ok (.iadd, 1) := by decide +kernel
theorem dX8_overdues_55 : decode cX8_overdues 55 = .ok (.istore_n 2, 1) := by decide +kernel
theorem dX8_overdues_56 : decode cX8_overdues 56 = .ok (.iinc 3 1, 3) := by decide +kernel
theorem dX8_overdues_59 : decode cX8_overdues 59 = .ok (.goto (-55), 3) := by decide +kernel
theorem dX8_overdues_62 : decode cX8_overdues 62 = .ok (.iload_n 2, 1) := by decide +kernel
theorem dX8_overdues_63 : decode cX8_overdues 63 = .ok (.ireturn, 1) := by decide +kernel
theorem dX8_canAsk_0 : decode cX8_canAsk 0 = .ok (.aload_n 0, 1) := by decide +kernel
theorem dX8_canAsk_1 : decode cX8_canAsk 1 = .ok (.iload_n 1, 1) := by decide +kernel
theorem dX8_canAsk_2 : decode cX8_canAsk 2 = .ok (.iload_n 2, 1) := by decide +kernel
theorem dX8_canAsk_3 : decode cX8_canAsk 3 = .ok (.invokevirtual 152, 3) := by decide +kernel
theorem dX8_canAsk_6 : decode cX8_canAsk 6 = .ok (.ifCond .eq 24, 3) := by decide +kernel
theorem dX8_canAsk_9 : decode cX8_canAsk 9 = .ok (.aload_n 0, 1) := by decide +kernel
theorem dX8_canAsk_10 : decode cX8_canAsk 10 = .ok (.iload_n 1, 1) := by decide +kernel
theorem dX8_canAsk_11 : decode cX8_canAsk 11 = .ok (.iload_n 2, 1) := by decide +kernel
theorem dX8_canAsk_12 : decode cX8_canAsk 12 = .ok (.invokevirtual 156, 3) := by decide +kernel
theorem dX8_canAsk_15 : decode cX8_canAsk 15 = .ok (.ifCond .eq 15, 3) := by decide +kernel
theorem dX8_canAsk_18 : decode cX8_canAsk 18 = .ok (.aload_n 0, 1) := by decide +kernel
theorem dX8_canAsk_19 : decode cX8_canAsk 19 = .ok (.iload_n 1, 1) := by decide +kernel
theorem dX8_canAsk_20 : decode cX8_canAsk 20 = .ok (.invokevirtual 159, 3) := by decide +kernel
theorem dX8_canAsk_23 : decode cX8_canAsk 23 = .ok (.ifCond .ne 7, 3) := by decide +kernel
theorem dX8_canAsk_26 : decode cX8_canAsk 26 = .ok (.iconst 1, 1) := by decide +kernel
theorem dX8_canAsk_27 : decode cX8_canAsk 27 = .ok (.goto 4, 3) := by decide +kernel
theorem dX8_canAsk_30 : decode cX8_canAsk 30 = .ok (.iconst 0, 1) := by decide +kernel
theorem dX8_canAsk_31 : decode cX8_canAsk 31 = .ok (.ireturn, 1) := by decide +kernel
theorem dX8_ask_0 : decode cX8_ask 0 = .ok (.aload_n 0, 1) := by decide +kernel
theorem dX8_ask_1 : decode cX8_ask 1 = .ok (.aload_n 0, 1) := by decide +kernel
theorem dX8_ask_2 : decode cX8_ask 2 = .ok (.iload_n 1, 1) := by decide +kernel
theorem dX8_ask_3 : decode cX8_ask 3 = .ok (.iload_n 2, 1) := by decide +kernel
theorem dX8_ask_4 : decode cX8_ask 4 = .ok (.invokevirtual 152, 3) := by decide +kernel
theorem dX8_ask_7 : decode cX8_ask 7 = .ok (.iload_n 3, 1) := by decide +kernel
theorem dX8_ask_8 : decode cX8_ask 8 = .ok (.iconst 1, 1) := by decide +kernel
theorem dX8_ask_9 : decode cX8_ask 9 = .ok (.sipush 600, 3) := by decide +kernel
theorem dX8_ask_12 : decode cX8_ask 12 = .ok (.invokestatic 93, 3) := by decide +kernel
theorem dX8_ask_15 : decode cX8_ask 15 = .ok (.aload_n 0, 1) := by decide +kernel
theorem dX8_ask_16 : decode cX8_ask 16 = .ok (.iload_n 1, 1) := by decide +kernel
theorem dX8_ask_17 : decode cX8_ask 17 = .ok (.iload_n 2, 1) := by decide +kernel
theorem dX8_ask_18 : decode cX8_ask 18 = .ok (.invokevirtual 162, 3) := by decide +kernel
theorem dX8_ask_21 : decode cX8_ask 21 = .ok (.invokevirtual 123, 3) := by decide +kernel
theorem dX8_ask_24 : decode cX8_ask 24 = .ok (.ifCond .ne 5, 3) := by decide +kernel
theorem dX8_ask_27 : decode cX8_ask 27 = .ok (.iconst 0, 1) := by decide +kernel
theorem dX8_ask_28 : decode cX8_ask 28 = .ok (.ireturn, 1) := by decide +kernel
theorem dX8_ask_29 : decode cX8_ask 29 = .ok (.aload_n 0, 1) := by decide +kernel
theorem dX8_ask_30 : decode cX8_ask 30 = .ok (.getfield 32, 3) := by decide +kernel
theorem dX8_ask_33 : decode cX8_ask 33 = .ok (.aload_n 0, 1) := by decide +kernel
theorem dX8_ask_34 : decode cX8_ask 34 = .ok (.getfield 107, 3) := by decide +kernel
theorem dX8_ask_37 : decode cX8_ask 37 = .ok (.iload_n 1, 1) := by decide +kernel
theorem dX8_ask_38 : decode cX8_ask 38 = .ok (.iastore, 1) := by decide +kernel
theorem dX8_ask_39 : decode cX8_ask 39 = .ok (.aload_n 0, 1) := by decide +kernel
theorem dX8_ask_40 : decode cX8_ask 40 = .ok (.getfield 35, 3) := by decide +kernel
theorem dX8_ask_43 : decode cX8_ask 43 = .ok (.aload_n 0, 1) := by decide +kernel
theorem dX8_ask_44 : decode cX8_ask 44 = .ok (.getfield 107, 3) := by decide +kernel
theorem dX8_ask_47 : decode cX8_ask 47 = .ok (.iload_n 2, 1) := by decide +kernel
theorem dX8_ask_48 : decode cX8_ask 48 = .ok (.iastore, 1) := by decide +kernel
theorem dX8_ask_49 : decode cX8_ask 49 = .ok (.aload_n 0, 1) := by decide +kernel
theorem dX8_ask_50 : decode cX8_ask 50 = .ok (.getfield 38, 3) := by decide +kernel
theorem dX8_ask_53 : decode cX8_ask 53 = .ok (.aload_n 0, 1) := by decide +kernel
theorem dX8_ask_54 : decode cX8_ask 54 = .ok (.getfield 107, 3) := by decide +kernel
theorem dX8_ask_57 : decode cX8_ask 57 = .ok (.iload_n 3, 1) := by decide +kernel
theorem dX8_ask_58 : decode cX8_ask 58 = .ok (.iastore, 1) := by decide +kernel
theorem dX8_ask_59 : decode cX8_ask 59 = .ok (.aload_n 0, 1) := by decide +kernel
theorem dX8_ask_60 : decode cX8_ask 60 = .ok (.getfield 41, 3) := by decide +kernel
theorem dX8_ask_63 : decode cX8_ask 63 = .ok (.aload_n 0, 1) := by decide +kernel
theorem dX8_ask_64 : decode cX8_ask 64 = .ok (.getfield 107, 3) := by decide +kernel
theorem dX8_ask_67 : decode cX8_ask 67 = .ok (.aload_n 0, 1) := by decide +kernel
theorem dX8_ask_68 : decode cX8_ask 68 = .ok (.getfield 119, 3) := by decide +kernel
theorem dX8_ask_71 : decode cX8_ask 71 = .ok (.iastore, 1) := by decide +kernel
theorem dX8_ask_72 : decode cX8_ask 72 = .ok (.aload_n 0, 1) := by decide +kernel
theorem dX8_ask_73 : decode cX8_ask 73 = .ok (.getfield 44, 3) := by decide +kernel
theorem dX8_ask_76 : decode cX8_ask 76 = .ok (.aload_n 0, 1) := by decide +kernel
theorem dX8_ask_77 : decode cX8_ask 77 = .ok (.getfield 107, 3) := by decide +kernel
theorem dX8_ask_80 : decode cX8_ask 80 = .ok (.iconst 0, 1) := by decide +kernel
theorem dX8_ask_81 : decode cX8_ask 81 = .ok (.iastore, 1) := by decide +kernel
theorem dX8_ask_82 : decode cX8_ask 82 = .ok (.aload_n 0, 1) := by decide +kernel
theorem dX8_ask_83 : decode cX8_ask 83 = .ok (.getfield 47, 3) := by decide +kernel
theorem dX8_ask_86 : decode cX8_ask 86 = .ok (.aload_n 0, 1) := by decide +kernel
theorem dX8_ask_87 : decode cX8_ask 87 = .ok (.getfield 107, 3) := by decide +kernel
theorem dX8_ask_90 : decode cX8_ask 90 = .ok (.iconst (-1), 1) := by decide +kernel
theorem dX8_ask_91 : decode cX8_ask 91 = .ok (.iastore, 1) := by decide +kernel
theorem dX8_ask_92 : decode cX8_ask 92 = .ok (.aload_n 0, 1) := by decide +kernel
theorem dX8_ask_93 : decode cX8_ask 93 = .ok (.dup, 1) := by decide +kernel
theorem dX8_ask_94 : decode cX8_ask 94 = .ok (.getfield 107, 3) := by decide +kernel
theorem dX8_ask_97 : decode cX8_ask 97 = .ok (.iconst 1, 1) := by decide +kernel
theorem dX8_ask_98 : decode cX8_ask 98 = .ok (.iadd, 1) := by decide +kernel
theorem dX8_ask_99 : decode cX8_ask 99 = .ok (.putfield 107, 3) := by decide +kernel
theorem dX8_ask_102 : decode cX8_ask 102 = .ok (.aload_n 0, 1) := by decide +kernel
theorem dX8_ask_103 : decode cX8_ask 103 = .ok (.iconst 0, 1) := by decide +kernel
theorem dX8_ask_104 : decode cX8_ask 104 = .ok (.iload_n 1, 1) := by decide +kernel
theorem dX8_ask_105 : decode cX8_ask 105 = .ok (.iload_n 2, 1) := by decide +kernel
theorem dX8_ask_106 : decode cX8_ask 106 = .ok (.invokevirtual 130, 3) := by decide +kernel
theorem dX8_ask_109 : decode cX8_ask 109 = .ok (.aload_n 0, 1) := by decide +kernel
theorem dX8_ask_110 : decode cX8_ask 110 = .ok (.getfield 107, 3) := by decide +kernel
theorem dX8_ask_113 : decode cX8_ask 113 = .ok (.iconst 1, 1) := by decide +kernel
theorem dX8_ask_114 : decode cX8_ask 114 = .ok (.isub, 1) := by decide +kernel
theorem dX8_ask_115 : decode cX8_ask 115 = .ok (.ireturn, 1) := by decide +kernel
theorem dX8_canJudge_0 : decode cX8_canJudge 0 = .ok (.aload_n 0, 1) := by decide +kernel
theorem dX8_canJudge_1 : decode cX8_canJudge 1 = .ok (.iload_n 1, 1) := by decide +kernel
theorem dX8_canJudge_2 : decode cX8_canJudge 2 = .ok (.invokevirtual 165, 3) := by decide +kernel
theorem dX8_canJudge_5 : decode cX8_canJudge 5 = .ok (.ifCond .eq 58, 3) := by decide +kernel
theorem dX8_canJudge_8 : decode cX8_canJudge 8 = .ok (.aload_n 0, 1) := by decide +kernel
theorem dX8_canJudge_9 : decode cX8_canJudge 9 = .ok (.iload_n 2, 1) := by decide +kernel
theorem dX8_canJudge_10 : decode cX8_canJudge 10 = .ok (.invokevirtual 100, 3) := by decide +kernel
theorem dX8_canJudge_13 : decode cX8_canJudge 13 = .ok (.ifCond .eq 50, 3) := by decide +kernel
theorem dX8_canJudge_16 : decode cX8_canJudge 16 = .ok (.aload_n 0, 1) := by decide +kernel
theorem dX8_canJudge_17 : decode cX8_canJudge 17 = .ok (.getfield 44, 3) := by decide +kernel
theorem dX8_canJudge_20 : decode cX8_canJudge 20 = .ok (.iload_n 1, 1) := by decide +kernel
theorem dX8_canJudge_21 : decode cX8_canJudge 21 = .ok (.iaload, 1) := by decide +kernel
theorem dX8_canJudge_22 : decode cX8_canJudge 22 = .ok (.ifCond .ne 41, 3) := by decide +kernel
theorem dX8_canJudge_25 : decode cX8_canJudge 25 = .ok (.aload_n 0, 1) := by decide +kernel
theorem dX8_canJudge_26 : decode cX8_canJudge 26 = .ok (.getfield 7, 3) := by decide +kernel
theorem dX8_canJudge_29 : decode cX8_canJudge 29 = .ok (.iload_n 2, 1) := by decide +kernel
theorem dX8_canJudge_30 : decode cX8_canJudge 30 = .ok (.iaload, 1) := by decide +kernel
theorem dX8_canJudge_31 : decode cX8_canJudge 31 = .ok (.aload_n 0, 1) := by decide +kernel
theorem dX8_canJudge_32 : decode cX8_canJudge 32 = .ok (.getfield 7, 3) := by decide +kernel
theorem dX8_canJudge_35 : decode cX8_canJudge 35 = .ok (.aload_n 0, 1) := by decide +kernel
theorem dX8_canJudge_36 : decode cX8_canJudge 36 = .ok (.getfield 32, 3) := by decide +kernel
theorem dX8_canJudge_39 : decode cX8_canJudge 39 = .ok (.iload_n 1, 1) := by decide +kernel
theorem dX8_canJudge_40 : decode cX8_canJudge 40 = .ok (.iaload, 1) := by decide +kernel
theorem dX8_canJudge_41 : decode cX8_canJudge 41 = .ok (.iaload, 1) := by decide +kernel
theorem dX8_canJudge_42 : decode cX8_canJudge 42 = .ok (.if_icmp .eq 21, 3) := by decide +kernel
theorem dX8_canJudge_45 : decode cX8_canJudge 45 = .ok (.aload_n 0, 1) := by decide +kernel
theorem dX8_canJudge_46 : decode cX8_canJudge 46 = .ok (.iload_n 2, 1) := by decide +kernel
theorem dX8_canJudge_47 : decode cX8_canJudge 47 = .ok (.aload_n 0, 1) := by decide +kernel
theorem dX8_canJudge_48 : decode cX8_canJudge 48 = .ok (.getfield 35, 3) := by decide +kernel
theorem dX8_canJudge_51 : decode cX8_canJudge 51 = .ok (.iload_n 1, 1) := by decide +kernel
theorem dX8_canJudge_52 : decode cX8_canJudge 52 = .ok (.iaload, 1) := by decide +kernel
theorem dX8_canJudge_53 : decode cX8_canJudge 53 = .ok (.invokevirtual 156, 3) := by decide +kernel
theorem dX8_canJudge_56 : decode cX8_canJudge 56 = .ok (.ifCond .eq 7, 3) := by decide +kernel
theorem dX8_canJudge_59 : decode cX8_canJudge 59 = .ok (.iconst 1, 1) := by decide +kernel
theorem dX8_canJudge_60 : decode cX8_canJudge 60 = .ok (.goto 4, 3) := by decide +kernel
theorem dX8_canJudge_63 : decode cX8_canJudge 63 = .ok (.iconst 0, 1) := by decide +kernel
theorem dX8_canJudge_64 : decode cX8_canJudge 64 = .ok (.ireturn, 1) := by decide +kernel
theorem dX8_approve_0 : decode cX8_approve 0 = .ok (.aload_n 0, 1) := by decide +kernel
theorem dX8_approve_1 : decode cX8_approve 1 = .ok (.iload_n 1, 1) := by decide +kernel
theorem dX8_approve_2 : decode cX8_approve 2 = .ok (.iload_n 2, 1) := by decide +kernel
theorem dX8_approve_3 : decode cX8_approve 3 = .ok (.invokevirtual 168, 3) := by decide +kernel
theorem dX8_approve_6 : decode cX8_approve 6 = .ok (.istore_n 3, 1) := by decide +kernel
theorem dX8_approve_7 : decode cX8_approve 7 = .ok (.aload_n 0, 1) := by decide +kernel
theorem dX8_approve_8 : decode cX8_approve 8 = .ok (.aload_n 0, 1) := by decide +kernel
theorem dX8_approve_9 : decode cX8_approve 9 = .ok (.iload_n 1, 1) := by decide +kernel
theorem dX8_approve_10 : decode cX8_approve 10 = .ok (.invokevirtual 165, 3) := by decide +kernel
theorem dX8_approve_13 : decode cX8_approve 13 = .ok (.ifCond .eq 15, 3) := by decide +kernel
theorem dX8_approve_16 : decode cX8_approve 16 = .ok (.aload_n 0, 1) := by decide +kernel
theorem dX8_approve_17 : decode cX8_approve 17 = .ok (.iload_n 2, 1) := by decide +kernel
theorem dX8_approve_18 : decode cX8_approve 18 = .ok (.invokevirtual 100, 3) := by decide +kernel
theorem dX8_approve_21 : decode cX8_approve 21 = .ok (.ifCond .eq 7, 3) := by decide +kernel
theorem dX8_approve_24 : decode cX8_approve 24 = .ok (.iconst 1, 1) := by decide +kernel
theorem dX8_approve_25 : decode cX8_approve 25 = .ok (.goto 4, 3) := by decide +kernel
theorem dX8_approve_28 : decode cX8_approve 28 = .ok (.iconst 0, 1) := by decide +kernel
theorem dX8_approve_29 : decode cX8_approve 29 = .ok (.iload_n 3, 1) := by decide +kernel
theorem dX8_approve_30 : decode cX8_approve 30 = .ok (.ifCond .eq 17, 3) := by decide +kernel
theorem dX8_approve_33 : decode cX8_approve 33 = .ok (.aload_n 0, 1) := by decide +kernel
theorem dX8_approve_34 : decode cX8_approve 34 = .ok (.getfield 47, 3) := by decide +kernel
theorem dX8_approve_37 : decode cX8_approve 37 = .ok (.iload_n 1, 1) := by decide +kernel
theorem dX8_approve_38 : decode cX8_approve 38 = .ok (.iaload, 1) := by decide +kernel
theorem dX8_approve_39 : decode cX8_approve 39 = .ok (.iload_n 2, 1) := by decide +kernel
theorem dX8_approve_40 : decode cX8_approve 40 = .ok (.if_icmp .eq 7, 3) := by decide +kernel
theorem dX8_approve_43 : decode cX8_approve 43 = .ok (.iconst 1, 1) := by decide +kernel
theorem dX8_approve_44 : decode cX8_approve 44 = .ok (.goto 4, 3) := by decide +kernel
theorem dX8_approve_47 : decode cX8_approve 47 = .ok (.iconst 0, 1) := by decide +kernel
theorem dX8_approve_48 : decode cX8_approve 48 = .ok (.iconst 1, 1) := by decide +kernel
theorem dX8_approve_49 : decode cX8_approve 49 = .ok (.invokevirtual 123, 3) := by decide +kernel
theorem dX8_approve_52 : decode cX8_approve 52 = .ok (.ifCond .ne 5, 3) := by decide +kernel
theorem dX8_approve_55 : decode cX8_approve 55 = .ok (.iconst 0, 1) := by decide +kernel
theorem dX8_approve_56 : decode cX8_approve 56 = .ok (.ireturn, 1) := by decide +kernel
theorem dX8_approve_57 : decode cX8_approve 57 = .ok (.aload_n 0, 1) := by decide +kernel
theorem dX8_approve_58 : decode cX8_approve 58 = .ok (.iconst 1, 1) := by decide +kernel
theorem dX8_approve_59 : decode cX8_approve 59 = .ok (.iload_n 2, 1) := by decide +kernel
theorem dX8_approve_60 : decode cX8_approve 60 = .ok (.aload_n 0, 1) := by decide +kernel
theorem dX8_approve_61 : decode cX8_approve 61 = .ok (.getfield 35, 3) := by decide +kernel
theorem dX8_approve_64 : decode cX8_approve 64 = .ok (.iload_n 1, 1) := by decide +kernel
theorem dX8_approve_65 : decode cX8_approve 65 = .ok (.iaload, 1) := by decide +kernel
theorem dX8_approve_66 : decode cX8_approve 66 = .ok (.invokevirtual 130, 3) := by decide +kernel
theorem dX8_approve_69 : decode cX8_approve 69 = .ok (.aload_n 0, 1) := by decide +kernel
theorem dX8_approve_70 : decode cX8_approve 70 = .ok (.getfield 47, 3) := by decide +kernel
theorem dX8_approve_73 : decode cX8_approve 73 = .ok (.iload_n 1, 1) := by decide +kernel
theorem dX8_approve_74 : decode cX8_approve 74 = .ok (.iaload, 1) := by decide +kernel
theorem dX8_approve_75 : decode cX8_approve 75 = .ok (.iconst (-1), 1) := by decide +kernel
theorem dX8_approve_76 : decode cX8_approve 76 = .ok (.if_icmp .ne 12, 3) := by decide +kernel
theorem dX8_approve_79 : decode cX8_approve 79 = .ok (.aload_n 0, 1) := by decide +kernel
theorem dX8_approve_80 : decode cX8_approve 80 = .ok (.getfield 47, 3) := by decide +kernel
theorem dX8_approve_83 : decode cX8_approve 83 = .ok (.iload_n 1, 1) := by decide +kernel
theorem dX8_approve_84 : decode cX8_approve 84 = .ok (.iload_n 2, 1) := by decide +kernel
theorem dX8_approve_85 : decode cX8_approve 85 = .ok (.iastore, 1) := by decide +kernel
theorem dX8_approve_86 : decode cX8_approve 86 = .ok (.iconst 0, 1) := by decide +kernel
theorem dX8_approve_87 : decode cX8_approve 87 = .ok (.ireturn, 1) := by decide +kernel
theorem dX8_approve_88 : decode cX8_approve 88 = .ok (.aload_n 0, 1) := by decide +kernel
theorem dX8_approve_89 : decode cX8_approve 89 = .ok (.getfield 44, 3) := by decide +kernel
theorem dX8_approve_92 : decode cX8_approve 92 = .ok (.iload_n 1, 1) := by decide +kernel
theorem dX8_approve_93 : decode cX8_approve 93 = .ok (.iconst 1, 1) := by decide +kernel
theorem dX8_approve_94 : decode cX8_approve 94 = .ok (.iastore, 1) := by decide +kernel
theorem dX8_approve_95 : decode cX8_approve 95 = .ok (.aload_n 0, 1) := by decide +kernel
theorem dX8_approve_96 : decode cX8_approve 96 = .ok (.aload_n 0, 1) := by decide +kernel
theorem dX8_approve_97 : decode cX8_approve 97 = .ok (.getfield 32, 3) := by decide +kernel
theorem dX8_approve_100 : decode cX8_approve 100 = .ok (.iload_n 1, 1) := by decide +kernel
theorem dX8_approve_101 : decode cX8_approve 101 = .ok (.iaload, 1) := by decide +kernel
theorem dX8_approve_102 : decode cX8_approve 102 = .ok (.aload_n 0, 1) := by decide +kernel
theorem dX8_approve_103 : decode cX8_approve 103 = .ok (.getfield 35, 3) := by decide +kernel
theorem dX8_approve_106 : decode cX8_approve 106 = .ok (.iload_n 1, 1) := by decide +kernel
theorem dX8_approve_107 : decode cX8_approve 107 = .ok (.iaload, 1) := by decide +kernel
theorem dX8_approve_108 : decode cX8_approve 108 = .ok (.aload_n 0, 1) := by decide +kernel
theorem dX8_approve_109 : decode cX8_approve 109 = .ok (.getfield 38, 3) := by decide +kernel
theorem dX8_approve_112 : decode cX8_approve 112 = .ok (.iload_n 1, 1) := by decide +kernel
theorem dX8_approve_113 : decode cX8_approve 113 = .ok (.iaload, 1) := by decide +kernel
theorem dX8_approve_114 : decode cX8_approve 114 = .ok (.invokevirtual 171, 3) := by decide +kernel
theorem dX8_approve_117 : decode cX8_approve 117 = .ok (.iconst 1, 1) := by decide +kernel
theorem dX8_approve_118 : decode cX8_approve 118 = .ok (.ireturn, 1) := by decide +kernel
theorem dX8_deny_0 : decode cX8_deny 0 = .ok (.aload_n 0, 1) := by decide +kernel
theorem dX8_deny_1 : decode cX8_deny 1 = .ok (.aload_n 0, 1) := by decide +kernel
theorem dX8_deny_2 : decode cX8_deny 2 = .ok (.iload_n 1, 1) := by decide +kernel
theorem dX8_deny_3 : decode cX8_deny 3 = .ok (.invokevirtual 165, 3) := by decide +kernel
theorem dX8_deny_6 : decode cX8_deny 6 = .ok (.ifCond .eq 15, 3) := by decide +kernel
theorem dX8_deny_9 : decode cX8_deny 9 = .ok (.aload_n 0, 1) := by decide +kernel
theorem dX8_deny_10 : decode cX8_deny 10 = .ok (.iload_n 2, 1) := by decide +kernel
theorem dX8_deny_11 : decode cX8_deny 11 = .ok (.invokevirtual 100, 3) := by decide +kernel
theorem dX8_deny_14 : decode cX8_deny 14 = .ok (.ifCond .eq 7, 3) := by decide +kernel
theorem dX8_deny_17 : decode cX8_deny 17 = .ok (.iconst 1, 1) := by decide +kernel
theorem dX8_deny_18 : decode cX8_deny 18 = .ok (.goto 4, 3) := by decide +kernel
theorem dX8_deny_21 : decode cX8_deny 21 = .ok (.iconst 0, 1) := by decide +kernel
theorem dX8_deny_22 : decode cX8_deny 22 = .ok (.aload_n 0, 1) := by decide +kernel
theorem dX8_deny_23 : decode cX8_deny 23 = .ok (.iload_n 1, 1) := by decide +kernel
theorem dX8_deny_24 : decode cX8_deny 24 = .ok (.iload_n 2, 1) := by decide +kernel
theorem dX8_deny_25 : decode cX8_deny 25 = .ok (.invokevirtual 168, 3) := by decide +kernel
theorem dX8_deny_28 : decode cX8_deny 28 = .ok (.iconst 1, 1) := by decide +kernel
theorem dX8_deny_29 : decode cX8_deny 29 = .ok (.invokevirtual 123, 3) := by decide +kernel
theorem dX8_deny_32 : decode cX8_deny 32 = .ok (.ifCond .eq 22, 3) := by decide +kernel
theorem dX8_deny_35 : decode cX8_deny 35 = .ok (.aload_n 0, 1) := by decide +kernel
theorem dX8_deny_36 : decode cX8_deny 36 = .ok (.getfield 44, 3) := by decide +kernel
theorem dX8_deny_39 : decode cX8_deny 39 = .ok (.iload_n 1, 1) := by decide +kernel
theorem dX8_deny_40 : decode cX8_deny 40 = .ok (.iconst 2, 1) := by decide +kernel
theorem dX8_deny_41 : decode cX8_deny 41 = .ok (.iastore, 1) := by decide +kernel
theorem dX8_deny_42 : decode cX8_deny 42 = .ok (.aload_n 0, 1) := by decide +kernel
theorem dX8_deny_43 : decode cX8_deny 43 = .ok (.iconst 2, 1) := by decide +kernel
theorem dX8_deny_44 : decode cX8_deny 44 = .ok (.iload_n 2, 1) := by decide +kernel
theorem dX8_deny_45 : decode cX8_deny 45 = .ok (.aload_n 0, 1) := by decide +kernel
theorem dX8_deny_46 : decode cX8_deny 46 = .ok (.getfield 35, 3) := by decide +kernel
theorem dX8_deny_49 : decode cX8_deny 49 = .ok (.iload_n 1, 1) := by decide +kernel
theorem dX8_deny_50 : decode cX8_deny 50 = .ok (.iaload, 1) := by decide +kernel
theorem dX8_deny_51 : decode cX8_deny 51 = .ok (.invokevirtual 130, 3) := by decide +kernel
theorem dX8_deny_54 : decode cX8_deny 54 = .ok (.return_, 1) := by decide +kernel
theorem dX8_askState_0 : decode cX8_askState 0 = .ok (.aload_n 0, 1) := by decide +kernel
theorem dX8_askState_1 : decode cX8_askState 1 = .ok (.aload_n 0, 1) := by decide +kernel
theorem dX8_askState_2 : decode cX8_askState 2 = .ok (.iload_n 1, 1) := by decide +kernel
theorem dX8_askState_3 : decode cX8_askState 3 = .ok (.invokevirtual 165, 3) := by decide +kernel
theorem dX8_askState_6 : decode cX8_askState 6 = .ok (.iconst 1, 1) := by decide +kernel
theorem dX8_askState_7 : decode cX8_askState 7 = .ok (.iconst 1, 1) := by decide +kernel
theorem dX8_askState_8 : decode cX8_askState 8 = .ok (.invokevirtual 123, 3) := by decide +kernel
theorem dX8_askState_11 : decode cX8_askState 11 = .ok (.ifCond .eq 12, 3) := by decide +kernel
theorem dX8_askState_14 : decode cX8_askState 14 = .ok (.aload_n 0, 1) := by decide +kernel
theorem dX8_askState_15 : decode cX8_askState 15 = .ok (.getfield 44, 3) := by decide +kernel
theorem dX8_askState_18 : decode cX8_askState 18 = .ok (.iload_n 1, 1) := by decide +kernel
theorem dX8_askState_19 : decode cX8_askState 19 = .ok (.iaload, 1) := by decide +kernel
theorem dX8_askState_20 : decode cX8_askState 20 = .ok (.goto 4, 3) := by decide +kernel
theorem dX8_askState_23 : decode cX8_askState 23 = .ok (.iconst 0, 1) := by decide +kernel
theorem dX8_askState_24 : decode cX8_askState 24 = .ok (.ireturn, 1) := by decide +kernel
theorem dX8_enter_0 : decode cX8_enter 0 = .ok (.aload_n 0, 1) := by decide +kernel
theorem dX8_enter_1 : decode cX8_enter 1 = .ok (.aload_n 0, 1) := by decide +kernel
theorem dX8_enter_2 : decode cX8_enter 2 = .ok (.iload_n 1, 1) := by decide +kernel
theorem dX8_enter_3 : decode cX8_enter 3 = .ok (.iload_n 2, 1) := by decide +kernel
theorem dX8_enter_4 : decode cX8_enter 4 = .ok (.invokevirtual 152, 3) := by decide +kernel
theorem dX8_enter_7 : decode cX8_enter 7 = .ok (.aload_n 0, 1) := by decide +kernel
theorem dX8_enter_8 : decode cX8_enter 8 = .ok (.iload_n 1, 1) := by decide +kernel
theorem dX8_enter_9 : decode cX8_enter 9 = .ok (.iload_n 2, 1) := by decide +kernel
theorem dX8_enter_10 : decode cX8_enter 10 = .ok (.invokevirtual 162, 3) := by decide +kernel
theorem dX8_enter_13 : decode cX8_enter 13 = .ok (.iconst 1, 1) := by decide +kernel
theorem dX8_enter_14 : decode cX8_enter 14 = .ok (.invokevirtual 123, 3) := by decide +kernel
theorem dX8_enter_17 : decode cX8_enter 17 = .ok (.ifCond .ne 5, 3) := by decide +kernel
theorem dX8_enter_20 : decode cX8_enter 20 = .ok (.iconst 0, 1) := by decide +kernel
theorem dX8_enter_21 : decode cX8_enter 21 = .ok (.ireturn, 1) := by decide +kernel
theorem dX8_enter_22 : decode cX8_enter 22 = .ok (.aload_n 0, 1) := by decide +kernel
theorem dX8_enter_23 : decode cX8_enter 23 = .ok (.getfield 50, 3) := by decide +kernel
theorem dX8_enter_26 : decode cX8_enter 26 = .ok (.aload_n 0, 1) := by decide +kernel
theorem dX8_enter_27 : decode cX8_enter 27 = .ok (.getfield 110, 3) := by decide +kernel
theorem dX8_enter_30 : decode cX8_enter 30 = .ok (.iload_n 1, 1) := by decide +kernel
theorem dX8_enter_31 : decode cX8_enter 31 = .ok (.iastore, 1) := by decide +kernel
theorem dX8_enter_32 : decode cX8_enter 32 = .ok (.aload_n 0, 1) := by decide +kernel
theorem dX8_enter_33 : decode cX8_enter 33 = .ok (.getfield 53, 3) := by decide +kernel
theorem dX8_enter_36 : decode cX8_enter 36 = .ok (.aload_n 0, 1) := by decide +kernel
theorem dX8_enter_37 : decode cX8_enter 37 = .ok (.getfield 110, 3) := by decide +kernel
theorem dX8_enter_40 : decode cX8_enter 40 = .ok (.iload_n 2, 1) := by decide +kernel
theorem dX8_enter_41 : decode cX8_enter 41 = .ok (.iastore, 1) := by decide +kernel
theorem dX8_enter_42 : decode cX8_enter 42 = .ok (.aload_n 0, 1) := by decide +kernel
theorem dX8_enter_43 : decode cX8_enter 43 = .ok (.getfield 56, 3) := by decide +kernel
theorem dX8_enter_46 : decode cX8_enter 46 = .ok (.aload_n 0, 1) := by decide +kernel
theorem dX8_enter_47 : decode cX8_enter 47 = .ok (.getfield 110, 3) := by decide +kernel
theorem dX8_enter_50 : decode cX8_enter 50 = .ok (.aload_n 0, 1) := by decide +kernel
theorem dX8_enter_51 : decode cX8_enter 51 = .ok (.getfield 119, 3) := by decide +kernel
theorem dX8_enter_54 : decode cX8_enter 54 = .ok (.iastore, 1) := by decide +kernel
theorem dX8_enter_55 : decode cX8_enter 55 = .ok (.aload_n 0, 1) := by decide +kernel
theorem dX8_enter_56 : decode cX8_enter 56 = .ok (.dup, 1) := by decide +kernel
theorem dX8_enter_57 : decode cX8_enter 57 = .ok (.getfield 110, 3) := by decide +kernel
theorem dX8_enter_60 : decode cX8_enter 60 = .ok (.iconst 1, 1) := by decide +kernel
theorem dX8_enter_61 : decode cX8_enter 61 = .ok (.iadd, 1) := by decide +kernel
theorem dX8_enter_62 : decode cX8_enter 62 = .ok (.putfield 110, 3) := by decide +kernel
theorem dX8_enter_65 : decode cX8_enter 65 = .ok (.aload_n 0, 1) := by decide +kernel
theorem dX8_enter_66 : decode cX8_enter 66 = .ok (.iload_n 1, 1) := by decide +kernel
theorem dX8_enter_67 : decode cX8_enter 67 = .ok (.iload_n 2, 1) := by decide +kernel
theorem dX8_enter_68 : decode cX8_enter 68 = .ok (.bipush 30, 2) := by decide +kernel
theorem dX8_enter_70 : decode cX8_enter 70 = .ok (.invokevirtual 171, 3) := by decide +kernel
theorem dX8_enter_73 : decode cX8_enter 73 = .ok (.aload_n 0, 1) := by decide +kernel
theorem dX8_enter_74 : decode cX8_enter 74 = .ok (.iconst 3, 1) := by decide +kernel
theorem dX8_enter_75 : decode cX8_enter 75 = .ok (.iload_n 1, 1) := by decide +kernel
theorem dX8_enter_76 : decode cX8_enter 76 = .ok (.iload_n 2, 1) := by decide +kernel
theorem dX8_enter_77 : decode cX8_enter 77 = .ok (.invokevirtual 130, 3) := by decide +kernel
theorem dX8_enter_80 : decode cX8_enter 80 = .ok (.aload_n 0, 1) := by decide +kernel
theorem dX8_enter_81 : decode cX8_enter 81 = .ok (.getfield 110, 3) := by decide +kernel
theorem dX8_enter_84 : decode cX8_enter 84 = .ok (.iconst 1, 1) := by decide +kernel
theorem dX8_enter_85 : decode cX8_enter 85 = .ok (.isub, 1) := by decide +kernel
theorem dX8_enter_86 : decode cX8_enter 86 = .ok (.ireturn, 1) := by decide +kernel
theorem dX8_lookAt_0 : decode cX8_lookAt 0 = .ok (.aload_n 0, 1) := by decide +kernel
theorem dX8_lookAt_1 : decode cX8_lookAt 1 = .ok (.iload_n 1, 1) := by decide +kernel
theorem dX8_lookAt_2 : decode cX8_lookAt 2 = .ok (.invokevirtual 174, 3) := by decide +kernel
theorem dX8_lookAt_5 : decode cX8_lookAt 5 = .ok (.ifCond .eq 15, 3) := by decide +kernel
theorem dX8_lookAt_8 : decode cX8_lookAt 8 = .ok (.aload_n 0, 1) := by decide +kernel
theorem dX8_lookAt_9 : decode cX8_lookAt 9 = .ok (.iload_n 2, 1) := by decide +kernel
theorem dX8_lookAt_10 : decode cX8_lookAt 10 = .ok (.invokevirtual 100, 3) := by decide +kernel
theorem dX8_lookAt_13 : decode cX8_lookAt 13 = .ok (.ifCond .eq 7, 3) := by decide +kernel
theorem dX8_lookAt_16 : decode cX8_lookAt 16 = .ok (.iconst 1, 1) := by decide +kernel
theorem dX8_lookAt_17 : decode cX8_lookAt 17 = .ok (.goto 4, 3) := by decide +kernel
theorem dX8_lookAt_20 : decode cX8_lookAt 20 = .ok (.iconst 0, 1) := by decide +kernel
theorem dX8_lookAt_21 : decode cX8_lookAt 21 = .ok (.istore_n 3, 1) := by decide +kernel
theorem dX8_lookAt_22 : decode cX8_lookAt 22 = .ok (.aload_n 0, 1) := by decide +kernel
theorem dX8_lookAt_23 : decode cX8_lookAt 23 = .ok (.iload_n 3, 1) := by decide +kernel
theorem dX8_lookAt_24 : decode cX8_lookAt 24 = .ok (.iload_n 3, 1) := by decide +kernel
theorem dX8_lookAt_25 : decode cX8_lookAt 25 = .ok (.ifCond .eq 36, 3) := by decide +kernel
theorem dX8_lookAt_28 : decode cX8_lookAt 28 = .ok (.aload_n 0, 1) := by decide +kernel
theorem dX8_lookAt_29 : decode cX8_lookAt 29 = .ok (.getfield 59, 3) := by decide +kernel
theorem dX8_lookAt_32 : decode cX8_lookAt 32 = .ok (.iload_n 1, 1) := by decide +kernel
theorem dX8_lookAt_33 : decode cX8_lookAt 33 = .ok (.baload, 1) := by decide +kernel
theorem dX8_lookAt_34 : decode cX8_lookAt 34 = .ok (.ifCond .ne 27, 3) := by decide +kernel
theorem dX8_lookAt_37 : decode cX8_lookAt 37 = .ok (.aload_n 0, 1) := by decide +kernel
theorem dX8_lookAt_38 : decode cX8_lookAt 38 = .ok (.getfield 7, 3) := by decide +kernel
theorem dX8_lookAt_41 : decode cX8_lookAt 41 = .ok (.iload_n 2, 1) := by decide +kernel
theorem dX8_lookAt_42 : decode cX8_lookAt 42 = .ok (.iaload, 1) := by decide +kernel
theorem dX8_lookAt_43 : decode cX8_lookAt 43 = .ok (.aload_n 0, 1) := by decide +kernel
theorem dX8_lookAt_44 : decode cX8_lookAt 44 = .ok (.getfield 7, 3) := by decide +kernel
theorem dX8_lookAt_47 : decode cX8_lookAt 47 = .ok (.aload_n 0, 1) := by decide +kernel
theorem dX8_lookAt_48 : decode cX8_lookAt 48 = .ok (.getfield 50, 3) := by decide +kernel
theorem dX8_lookAt_51 : decode cX8_lookAt 51 = .ok (.iload_n 1, 1) := by decide +kernel
theorem dX8_lookAt_52 : decode cX8_lookAt 52 = .ok (.iaload, 1) := by decide +kernel
theorem dX8_lookAt_53 : decode cX8_lookAt 53 = .ok (.iaload, 1) := by decide +kernel
theorem dX8_lookAt_54 : decode cX8_lookAt 54 = .ok (.if_icmp .eq 7, 3) := by decide +kernel
theorem dX8_lookAt_57 : decode cX8_lookAt 57 = .ok (.iconst 1, 1) := by decide +kernel
theorem dX8_lookAt_58 : decode cX8_lookAt 58 = .ok (.goto 4, 3) := by decide +kernel
theorem dX8_lookAt_61 : decode cX8_lookAt 61 = .ok (.iconst 0, 1) := by decide +kernel
theorem dX8_lookAt_62 : decode cX8_lookAt 62 = .ok (.iconst 1, 1) := by decide +kernel
theorem dX8_lookAt_63 : decode cX8_lookAt 63 = .ok (.invokevirtual 123, 3) := by decide +kernel
theorem dX8_lookAt_66 : decode cX8_lookAt 66 = .ok (.ifCond .ne 5, 3) := by decide +kernel
theorem dX8_lookAt_69 : decode cX8_lookAt 69 = .ok (.iconst 0, 1) := by decide +kernel
theorem dX8_lookAt_70 : decode cX8_lookAt 70 = .ok (.ireturn, 1) := by decide +kernel
theorem dX8_lookAt_71 : decode cX8_lookAt 71 = .ok (.aload_n 0, 1) := by decide +kernel
theorem dX8_lookAt_72 : decode cX8_lookAt 72 = .ok (.getfield 59, 3) := by decide +kernel
theorem dX8_lookAt_75 : decode cX8_lookAt 75 = .ok (.iload_n 1, 1) := by decide +kernel
theorem dX8_lookAt_76 : decode cX8_lookAt 76 = .ok (.iconst 1, 1) := by decide +kernel
theorem dX8_lookAt_77 : decode cX8_lookAt 77 = .ok (.bastore, 1) := by decide +kernel
theorem dX8_lookAt_78 : decode cX8_lookAt 78 = .ok (.aload_n 0, 1) := by decide +kernel
theorem dX8_lookAt_79 : decode cX8_lookAt 79 = .ok (.iconst 4, 1) := by decide +kernel
theorem dX8_lookAt_80 : decode cX8_lookAt 80 = .ok (.iload_n 2, 1) := by decide +kernel
theorem dX8_lookAt_81 : decode cX8_lookAt 81 = .ok (.aload_n 0, 1) := by decide +kernel
theorem dX8_lookAt_82 : decode cX8_lookAt 82 = .ok (.getfield 53, 3) := by decide +kernel
theorem dX8_lookAt_85 : decode cX8_lookAt 85 = .ok (.iload_n 1, 1) := by decide +kernel
theorem dX8_lookAt_86 : decode cX8_lookAt 86 = .ok (.iaload, 1) := by decide +kernel
theorem dX8_lookAt_87 : decode cX8_lookAt 87 = .ok (.invokevirtual 130, 3) := by decide +kernel
theorem dX8_lookAt_90 : decode cX8_lookAt 90 = .ok (.aload_n 0, 1) := by decide +kernel
theorem dX8_lookAt_91 : decode cX8_lookAt 91 = .ok (.getfield 119, 3) := by decide +kernel
theorem dX8_lookAt_94 : decode cX8_lookAt 94 = .ok (.aload_n 0, 1) := by decide +kernel
theorem dX8_lookAt_95 : decode cX8_lookAt 95 = .ok (.getfield 56, 3) := by decide +kernel
theorem dX8_lookAt_98 : decode cX8_lookAt 98 = .ok (.iload_n 1, 1) := by decide +kernel
theorem dX8_lookAt_99 : decode cX8_lookAt 99 = .ok (.iaload, 1) := by decide +kernel
theorem dX8_lookAt_100 : decode cX8_lookAt 100 = .ok (.isub, 1) := by decide +kernel
theorem dX8_lookAt_101 : decode cX8_lookAt 101 = .ok (.ireturn, 1) := by decide +kernel
theorem dX8_overdue_0 : decode cX8_overdue 0 = .ok (.aload_n 0, 1) := by decide +kernel
theorem dX8_overdue_1 : decode cX8_overdue 1 = .ok (.aload_n 0, 1) := by decide +kernel
theorem dX8_overdue_2 : decode cX8_overdue 2 = .ok (.iload_n 1, 1) := by decide +kernel
theorem dX8_overdue_3 : decode cX8_overdue 3 = .ok (.invokevirtual 100, 3) := by decide +kernel
theorem dX8_overdue_6 : decode cX8_overdue 6 = .ok (.iconst 1, 1) := by decide +kernel
theorem dX8_overdue_7 : decode cX8_overdue 7 = .ok (.iconst 1, 1) := by decide +kernel
theorem dX8_overdue_8 : decode cX8_overdue 8 = .ok (.invokevirtual 123, 3) := by decide +kernel
theorem dX8_overdue_11 : decode cX8_overdue 11 = .ok (.ifCond .eq 11, 3) := by decide +kernel
theorem dX8_overdue_14 : decode cX8_overdue 14 = .ok (.aload_n 0, 1) := by decide +kernel
theorem dX8_overdue_15 : decode cX8_overdue 15 = .ok (.iload_n 1, 1) := by decide +kernel
theorem dX8_overdue_16 : decode cX8_overdue 16 = .ok (.invokevirtual 159, 3) := by decide +kernel
theorem dX8_overdue_19 : decode cX8_overdue 19 = .ok (.goto 4, 3) := by decide +kernel
theorem dX8_overdue_22 : decode cX8_overdue 22 = .ok (.iconst 0, 1) := by decide +kernel
theorem dX8_overdue_23 : decode cX8_overdue 23 = .ok (.ireturn, 1) := by decide +kernel
theorem dX8_couldEnter_0 : decode cX8_couldEnter 0 = .ok (.aload_n 0, 1) := by decide +kernel
theorem dX8_couldEnter_1 : decode cX8_couldEnter 1 = .ok (.aload_n 0, 1) := by decide +kernel
theorem dX8_couldEnter_2 : decode cX8_couldEnter 2 = .ok (.iload_n 1, 1) := by decide +kernel
theorem dX8_couldEnter_3 : decode cX8_couldEnter 3 = .ok (.iload_n 2, 1) := by decide +kernel
theorem dX8_couldEnter_4 : decode cX8_couldEnter 4 = .ok (.invokevirtual 152, 3) := by decide +kernel
theorem dX8_couldEnter_7 : decode cX8_couldEnter 7 = .ok (.iload_n 3, 1) := by decide +kernel
theorem dX8_couldEnter_8 : decode cX8_couldEnter 8 = .ok (.iconst 0, 1) := by decide +kernel
theorem dX8_couldEnter_9 : decode cX8_couldEnter 9 = .ok (.ldc 177, 2) := by decide +kernel
theorem dX8_couldEnter_11 : decode cX8_couldEnter 11 = .ok (.invokestatic 93, 3) := by decide +kernel
theorem dX8_couldEnter_14 : decode cX8_couldEnter 14 = .ok (.iconst 1, 1) := by decide +kernel
theorem dX8_couldEnter_15 : decode cX8_couldEnter 15 = .ok (.invokevirtual 123, 3) := by decide +kernel
theorem dX8_couldEnter_18 : decode cX8_couldEnter 18 = .ok (.ifCond .eq 17, 3) := by decide +kernel
theorem dX8_couldEnter_21 : decode cX8_couldEnter 21 = .ok (.aload_n 0, 1) := by decide +kernel
theorem dX8_couldEnter_22 : decode cX8_couldEnter 22 = .ok (.iload_n 1, 1) := by decide +kernel
theorem dX8_couldEnter_23 : decode cX8_couldEnter 23 = .ok (.iload_n 2, 1) := by decide +kernel
theorem dX8_couldEnter_24 : decode cX8_couldEnter 24 = .ok (.iload_n 3, 1) := by decide +kernel
theorem dX8_couldEnter_25 : decode cX8_couldEnter 25 = .ok (.invokevirtual 134, 3) := by decide +kernel
theorem dX8_couldEnter_28 : decode cX8_couldEnter 28 = .ok (.ifCond .eq 7, 3) := by decide +kernel
theorem dX8_couldEnter_31 : decode cX8_couldEnter 31 = .ok (.iconst 1, 1) := by decide +kernel
theorem dX8_couldEnter_32 : decode cX8_couldEnter 32 = .ok (.goto 4, 3) := by decide +kernel
theorem dX8_couldEnter_35 : decode cX8_couldEnter 35 = .ok (.iconst 0, 1) := by decide +kernel
theorem dX8_couldEnter_36 : decode cX8_couldEnter 36 = .ok (.ireturn, 1) := by decide +kernel
theorem dX8_open_0 : decode cX8_open 0 = .ok (.aload_n 0, 1) := by decide +kernel
theorem dX8_open_1 : decode cX8_open 1 = .ok (.iload_n 1, 1) := by decide +kernel
theorem dX8_open_2 : decode cX8_open 2 = .ok (.iload_n 2, 1) := by decide +kernel
theorem dX8_open_3 : decode cX8_open 3 = .ok (.invokevirtual 152, 3) := by decide +kernel
theorem dX8_open_6 : decode cX8_open 6 = .ok (.istore_n 3, 1) := by decide +kernel
theorem dX8_open_7 : decode cX8_open 7 = .ok (.aload_n 0, 1) := by decide +kernel
theorem dX8_open_8 : decode cX8_open 8 = .ok (.iload_n 3, 1) := by decide +kernel
theorem dX8_open_9 : decode cX8_open 9 = .ok (.iload_n 3, 1) := by decide +kernel
theorem dX8_open_10 : decode cX8_open 10 = .ok (.ifCond .eq 20, 3) := by decide +kernel
theorem dX8_open_13 : decode cX8_open 13 = .ok (.aload_n 0, 1) := by decide +kernel
theorem dX8_open_14 : decode cX8_open 14 = .ok (.iload_n 1, 1) := by decide +kernel
theorem dX8_open_15 : decode cX8_open 15 = .ok (.iload_n 2, 1) := by decide +kernel
theorem dX8_open_16 : decode cX8_open 16 = .ok (.aload_n 0, 1) := by decide +kernel
theorem dX8_open_17 : decode cX8_open 17 = .ok (.getfield 119, 3) := by decide +kernel
theorem dX8_open_20 : decode cX8_open 20 = .ok (.invokevirtual 134, 3) := by decide +kernel
theorem dX8_open_23 : decode cX8_open 23 = .ok (.ifCond .eq 7, 3) := by decide +kernel
theorem dX8_open_26 : decode cX8_open 26 = .ok (.iconst 1, 1) := by decide +kernel
theorem dX8_open_27 : decode cX8_open 27 = .ok (.goto 4, 3) := by decide +kernel
theorem dX8_open_30 : decode cX8_open 30 = .ok (.iconst 0, 1) := by decide +kernel
theorem dX8_open_31 : decode cX8_open 31 = .ok (.iconst 1, 1) := by decide +kernel
theorem dX8_open_32 : decode cX8_open 32 = .ok (.invokevirtual 123, 3) := by decide +kernel
theorem dX8_open_35 : decode cX8_open 35 = .ok (.ifCond .ne 5, 3) := by decide +kernel
theorem dX8_open_38 : decode cX8_open 38 = .ok (.iconst 0, 1) := by decide +kernel
theorem dX8_open_39 : decode cX8_open 39 = .ok (.ireturn, 1) := by decide +kernel
theorem dX8_open_40 : decode cX8_open 40 = .ok (.aload_n 0, 1) := by decide +kernel
theorem dX8_open_41 : decode cX8_open 41 = .ok (.getfield 62, 3) := by decide +kernel
theorem dX8_open_44 : decode cX8_open 44 = .ok (.aload_n 0, 1) := by decide +kernel
theorem dX8_open_45 : decode cX8_open 45 = .ok (.getfield 113, 3) := by decide +kernel
theorem dX8_open_48 : decode cX8_open 48 = .ok (.iload_n 1, 1) := by decide +kernel
theorem dX8_open_49 : decode cX8_open 49 = .ok (.iastore, 1) := by decide +kernel
theorem dX8_open_50 : decode cX8_open 50 = .ok (.aload_n 0, 1) := by decide +kernel
theorem dX8_open_51 : decode cX8_open 51 = .ok (.getfield 65, 3) := by decide +kernel
theorem dX8_open_54 : decode cX8_open 54 = .ok (.aload_n 0, 1) := by decide +kernel
theorem dX8_open_55 : decode cX8_open 55 = .ok (.getfield 113, 3) := by decide +kernel
theorem dX8_open_58 : decode cX8_open 58 = .ok (.iload_n 2, 1) := by decide +kernel
theorem dX8_open_59 : decode cX8_open 59 = .ok (.iastore, 1) := by decide +kernel
theorem dX8_open_60 : decode cX8_open 60 = .ok (.aload_n 0, 1) := by decide +kernel
theorem dX8_open_61 : decode cX8_open 61 = .ok (.getfield 68, 3) := by decide +kernel
theorem dX8_open_64 : decode cX8_open 64 = .ok (.aload_n 0, 1) := by decide +kernel
theorem dX8_open_65 : decode cX8_open 65 = .ok (.getfield 113, 3) := by decide +kernel
theorem dX8_open_68 : decode cX8_open 68 = .ok (.iconst 1, 1) := by decide +kernel
theorem dX8_open_69 : decode cX8_open 69 = .ok (.bastore, 1) := by decide +kernel
theorem dX8_open_70 : decode cX8_open 70 = .ok (.aload_n 0, 1) := by decide +kernel
theorem dX8_open_71 : decode cX8_open 71 = .ok (.getfield 71, 3) := by decide +kernel
theorem dX8_open_74 : decode cX8_open 74 = .ok (.aload_n 0, 1) := by decide +kernel
theorem dX8_open_75 : decode cX8_open 75 = .ok (.getfield 113, 3) := by decide +kernel
theorem dX8_open_78 : decode cX8_open 78 = .ok (.aload_n 0, 1) := by decide +kernel
theorem dX8_open_79 : decode cX8_open 79 = .ok (.getfield 119, 3) := by decide +kernel
theorem dX8_open_82 : decode cX8_open 82 = .ok (.iastore, 1) := by decide +kernel
theorem dX8_open_83 : decode cX8_open 83 = .ok (.aload_n 0, 1) := by decide +kernel
theorem dX8_open_84 : decode cX8_open 84 = .ok (.getfield 74, 3) := by decide +kernel
theorem dX8_open_87 : decode cX8_open 87 = .ok (.aload_n 0, 1) := by decide +kernel
theorem dX8_open_88 : decode cX8_open 88 = .ok (.getfield 113, 3) := by decide +kernel
theorem dX8_open_91 : decode cX8_open 91 = .ok (.iconst (-1), 1) := by decide +kernel
theorem dX8_open_92 : decode cX8_open 92 = .ok (.iastore, 1) := by decide +kernel
theorem dX8_open_93 : decode cX8_open 93 = .ok (.aload_n 0, 1) := by decide +kernel
theorem dX8_open_94 : decode cX8_open 94 = .ok (.dup, 1) := by decide +kernel
theorem dX8_open_95 : decode cX8_open 95 = .ok (.getfield 113, 3) := by decide +kernel
theorem dX8_open_98 : decode cX8_open 98 = .ok (.iconst 1, 1) := by decide +kernel
theorem dX8_open_99 : decode cX8_open 99 = .ok (.iadd, 1) := by decide +kernel
theorem dX8_open_100 : decode cX8_open 100 = .ok (.putfield 113, 3) := by decide +kernel
theorem dX8_open_103 : decode cX8_open 103 = .ok (.aload_n 0, 1) := by decide +kernel
theorem dX8_open_104 : decode cX8_open 104 = .ok (.iconst 5, 1) := by decide +kernel
theorem dX8_open_105 : decode cX8_open 105 = .ok (.iload_n 1, 1) := by decide +kernel
theorem dX8_open_106 : decode cX8_open 106 = .ok (.iload_n 2, 1) := by decide +kernel
theorem dX8_open_107 : decode cX8_open 107 = .ok (.invokevirtual 130, 3) := by decide +kernel
theorem dX8_open_110 : decode cX8_open 110 = .ok (.aload_n 0, 1) := by decide +kernel
theorem dX8_open_111 : decode cX8_open 111 = .ok (.getfield 113, 3) := by decide +kernel
theorem dX8_open_114 : decode cX8_open 114 = .ok (.iconst 1, 1) := by decide +kernel
theorem dX8_open_115 : decode cX8_open 115 = .ok (.isub, 1) := by decide +kernel
theorem dX8_open_116 : decode cX8_open 116 = .ok (.ireturn, 1) := by decide +kernel
theorem dX8_type_0 : decode cX8_type 0 = .ok (.aload_n 0, 1) := by decide +kernel
theorem dX8_type_1 : decode cX8_type 1 = .ok (.iload_n 1, 1) := by decide +kernel
theorem dX8_type_2 : decode cX8_type 2 = .ok (.invokevirtual 178, 3) := by decide +kernel
theorem dX8_type_5 : decode cX8_type 5 = .ok (.istore_n 3, 1) := by decide +kernel
theorem dX8_type_6 : decode cX8_type 6 = .ok (.aload_n 0, 1) := by decide +kernel
theorem dX8_type_7 : decode cX8_type 7 = .ok (.iload_n 3, 1) := by decide +kernel
theorem dX8_type_8 : decode cX8_type 8 = .ok (.iload_n 2, 1) := by decide +kernel
theorem dX8_type_9 : decode cX8_type 9 = .ok (.iconst 0, 1) := by decide +kernel
theorem dX8_type_10 : decode cX8_type 10 = .ok (.iconst 2, 1) := by decide +kernel
theorem dX8_type_11 : decode cX8_type 11 = .ok (.invokestatic 93, 3) := by decide +kernel
theorem dX8_type_14 : decode cX8_type 14 = .ok (.iload_n 3, 1) := by decide +kernel
theorem dX8_type_15 : decode cX8_type 15 = .ok (.ifCond .eq 26, 3) := by decide +kernel
theorem dX8_type_18 : decode cX8_type 18 = .ok (.aload_n 0, 1) := by decide +kernel
theorem dX8_type_19 : decode cX8_type 19 = .ok (.getfield 68, 3) := by decide +kernel
theorem dX8_type_22 : decode cX8_type 22 = .ok (.iload_n 1, 1) := by decide +kernel
theorem dX8_type_23 : decode cX8_type 23 = .ok (.baload, 1) := by decide +kernel
theorem dX8_type_24 : decode cX8_type 24 = .ok (.ifCond .eq 17, 3) := by decide +kernel
theorem dX8_type_27 : decode cX8_type 27 = .ok (.aload_n 0, 1) := by decide +kernel
theorem dX8_type_28 : decode cX8_type 28 = .ok (.getfield 74, 3) := by decide +kernel
theorem dX8_type_31 : decode cX8_type 31 = .ok (.iload_n 1, 1) := by decide +kernel
theorem dX8_type_32 : decode cX8_type 32 = .ok (.iaload, 1) := by decide +kernel
theorem dX8_type_33 : decode cX8_type 33 = .ok (.iconst (-1), 1) := by decide +kernel
theorem dX8_type_34 : decode cX8_type 34 = .ok (.if_icmp .ne 7, 3) := by decide +kernel
theorem dX8_type_37 : decode cX8_type 37 = .ok (.iconst 1, 1) := by decide +kernel
theorem dX8_type_38 : decode cX8_type 38 = .ok (.goto 4, 3) := by decide +kernel
theorem dX8_type_41 : decode cX8_type 41 = .ok (.iconst 0, 1) := by decide +kernel
theorem dX8_type_42 : decode cX8_type 42 = .ok (.invokevirtual 123, 3) := by decide +kernel
theorem dX8_type_45 : decode cX8_type 45 = .ok (.ifCond .ne 5, 3) := by decide +kernel
theorem dX8_type_48 : decode cX8_type 48 = .ok (.iconst 0, 1) := by decide +kernel
theorem dX8_type_49 : decode cX8_type 49 = .ok (.ireturn, 1) := by decide +kernel
theorem dX8_type_50 : decode cX8_type 50 = .ok (.aload_n 0, 1) := by decide +kernel
theorem dX8_type_51 : decode cX8_type 51 = .ok (.getfield 71, 3) := by decide +kernel
theorem dX8_type_54 : decode cX8_type 54 = .ok (.iload_n 1, 1) := by decide +kernel
theorem dX8_type_55 : decode cX8_type 55 = .ok (.aload_n 0, 1) := by decide +kernel
theorem dX8_type_56 : decode cX8_type 56 = .ok (.getfield 119, 3) := by decide +kernel
theorem dX8_type_59 : decode cX8_type 59 = .ok (.iastore, 1) := by decide +kernel
theorem dX8_type_60 : decode cX8_type 60 = .ok (.aload_n 0, 1) := by decide +kernel
theorem dX8_type_61 : decode cX8_type 61 = .ok (.bipush 7, 2) := by decide +kernel
theorem dX8_type_63 : decode cX8_type 63 = .ok (.aload_n 0, 1) := by decide +kernel
theorem dX8_type_64 : decode cX8_type 64 = .ok (.getfield 62, 3) := by decide +kernel
theorem dX8_type_67 : decode cX8_type 67 = .ok (.iload_n 1, 1) := by decide +kernel
theorem dX8_type_68 : decode cX8_type 68 = .ok (.iaload, 1) := by decide +kernel
theorem dX8_type_69 : decode cX8_type 69 = .ok (.aload_n 0, 1) := by decide +kernel
theorem dX8_type_70 : decode cX8_type 70 = .ok (.getfield 65, 3) := by decide +kernel
theorem dX8_type_73 : decode cX8_type 73 = .ok (.iload_n 1, 1) := by decide +kernel
theorem dX8_type_74 : decode cX8_type 74 = .ok (.iaload, 1) := by decide +kernel
theorem dX8_type_75 : decode cX8_type 75 = .ok (.invokevirtual 130, 3) := by decide +kernel
theorem dX8_type_78 : decode cX8_type 78 = .ok (.iload_n 2, 1) := by decide +kernel
theorem dX8_type_79 : decode cX8_type 79 = .ok (.ifCond .ne 16, 3) := by decide +kernel
theorem dX8_type_82 : decode cX8_type 82 = .ok (.aload_n 0, 1) := by decide +kernel
theorem dX8_type_83 : decode cX8_type 83 = .ok (.getfield 77, 3) := by decide +kernel
theorem dX8_type_86 : decode cX8_type 86 = .ok (.iload_n 1, 1) := by decide +kernel
theorem dX8_type_87 : decode cX8_type 87 = .ok (.dup2, 1) := by decide +kernel
theorem dX8_type_88 : decode cX8_type 88 = .ok (.iaload, 1) := by decide +kernel
theorem dX8_type_89 : decode cX8_type 89 = .ok (.iconst 1, 1) := by decide +kernel
theorem dX8_type_90 : decode cX8_type 90 = .ok (.iadd, 1) := by decide +kernel
theorem dX8_type_91 : decode cX8_type 91 = .ok (.iastore, 1) := by decide +kernel
theorem dX8_type_92 : decode cX8_type 92 = .ok (.goto 43, 3) := by decide +kernel
theorem dX8_type_95 : decode cX8_type 95 = .ok (.iload_n 2, 1) := by decide +kernel
theorem dX8_type_96 : decode cX8_type 96 = .ok (.iconst 1, 1) := by decide +kernel
theorem dX8_type_97 : decode cX8_type 97 = .ok (.if_icmp .ne 16, 3) := by decide +kernel
theorem dX8_type_100 : decode cX8_type 100 = .ok (.aload_n 0, 1) := by decide +kernel
theorem dX8_type_101 : decode cX8_type 101 = .ok (.getfield 74, 3) := by decide +kernel
theorem dX8_type_104 : decode cX8_type 104 = .ok (.iload_n 1, 1) := by decide +kernel
theorem dX8_type_105 : decode cX8_type 105 = .ok (.aload_n 0, 1) := by decide +kernel
theorem dX8_type_106 : decode cX8_type 106 = .ok (.getfield 119, 3) := by decide +kernel
theorem dX8_type_109 : decode cX8_type 109 = .ok (.iastore, 1) := by decide +kernel
theorem dX8_type_110 : decode cX8_type 110 = .ok (.goto 25, 3) := by decide +kernel
theorem dX8_type_113 : decode cX8_type 113 = .ok (.aload_n 0, 1) := by decide +kernel
theorem dX8_type_114 : decode cX8_type 114 = .ok (.aload_n 0, 1) := by decide +kernel
theorem dX8_type_115 : decode cX8_type 115 = .ok (.getfield 62, 3) := by decide +kernel
theorem dX8_type_118 : decode cX8_type 118 = .ok (.iload_n 1, 1) := by decide +kernel
theorem dX8_type_119 : decode cX8_type 119 = .ok (.iaload, 1) := by decide +kernel
theorem dX8_type_120 : decode cX8_type 120 = .ok (.aload_n 0, 1) := by decide +kernel
theorem dX8_type_121 : decode cX8_type 121 = .ok (.getfield 65, 3) := by decide +kernel
theorem dX8_type_124 : decode cX8_type 124 = .ok (.iload_n 1, 1) := by decide +kernel
theorem dX8_type_125 : decode cX8_type 125 = .ok (.iaload, 1) := by decide +kernel
theorem dX8_type_126 : decode cX8_type 126 = .ok (.invokevirtual 141, 3) := by decide +kernel
theorem dX8_type_129 : decode cX8_type 129 = .ok (.aload_n 0, 1) := by decide +kernel
theorem dX8_type_130 : decode cX8_type 130 = .ok (.iload_n 1, 1) := by decide +kernel
theorem dX8_type_131 : decode cX8_type 131 = .ok (.invokevirtual 148, 3) := by decide +kernel
theorem dX8_type_134 : decode cX8_type 134 = .ok (.pop, 1) := by decide +kernel
theorem dX8_type_135 : decode cX8_type 135 = .ok (.iload_n 2, 1) := by decide +kernel
theorem dX8_type_136 : decode cX8_type 136 = .ok (.ifCond .ne 7, 3) := by decide +kernel
theorem dX8_type_139 : decode cX8_type 139 = .ok (.iconst 1, 1) := by decide +kernel
theorem dX8_type_140 : decode cX8_type 140 = .ok (.goto 4, 3) := by decide +kernel
theorem dX8_type_143 : decode cX8_type 143 = .ok (.iconst 0, 1) := by decide +kernel
theorem dX8_type_144 : decode cX8_type 144 = .ok (.ireturn, 1) := by decide +kernel
theorem dX8_letThrough_0 : decode cX8_letThrough 0 = .ok (.aload_n 0, 1) := by decide +kernel
theorem dX8_letThrough_1 : decode cX8_letThrough 1 = .ok (.iload_n 1, 1) := by decide +kernel
theorem dX8_letThrough_2 : decode cX8_letThrough 2 = .ok (.invokevirtual 178, 3) := by decide +kernel
theorem dX8_letThrough_5 : decode cX8_letThrough 5 = .ok (.ifCond .eq 15, 3) := by decide +kernel
theorem dX8_letThrough_8 : decode cX8_letThrough 8 = .ok (.aload_n 0, 1) := by decide +kernel
theorem dX8_letThrough_9 : decode cX8_letThrough 9 = .ok (.iload_n 2, 1) := by decide +kernel
theorem dX8_letThrough_10 : decode cX8_letThrough 10 = .ok (.invokevirtual 100, 3) := by decide +kernel
theorem dX8_letThrough_13 : decode cX8_letThrough 13 = .ok (.ifCond .eq 7, 3) := by decide +kernel
theorem dX8_letThrough_16 : decode cX8_letThrough 16 = .ok (.iconst 1, 1) := by decide +kernel
theorem dX8_letThrough_17 : decode cX8_letThrough 17 = .ok (.goto 4, 3) := by decide +kernel
theorem dX8_letThrough_20 : decode cX8_letThrough 20 = .ok (.iconst 0, 1) := by decide +kernel
theorem dX8_letThrough_21 : decode cX8_letThrough 21 = .ok (.istore_n 3, 1) := by decide +kernel
theorem dX8_letThrough_22 : decode cX8_letThrough 22 = .ok (.iload_n 3, 1) := by decide +kernel
theorem dX8_letThrough_23 : decode cX8_letThrough 23 = .ok (.ifCond .eq 26, 3) := by decide +kernel
theorem dX8_letThrough_26 : decode cX8_letThrough 26 = .ok (.aload_n 0, 1) := by decide +kernel
theorem dX8_letThrough_27 : decode cX8_letThrough 27 = .ok (.getfield 68, 3) := by decide +kernel
theorem dX8_letThrough_30 : decode cX8_letThrough 30 = .ok (.iload_n 1, 1) := by decide +kernel
theorem dX8_letThrough_31 : decode cX8_letThrough 31 = .ok (.baload, 1) := by decide +kernel
theorem dX8_letThrough_32 : decode cX8_letThrough 32 = .ok (.ifCond .eq 17, 3) := by decide +kernel
theorem dX8_letThrough_35 : decode cX8_letThrough 35 = .ok (.aload_n 0, 1) := by decide +kernel
theorem dX8_letThrough_36 : decode cX8_letThrough 36 = .ok (.getfield 74, 3) := by decide +kernel
theorem dX8_letThrough_39 : decode cX8_letThrough 39 = .ok (.iload_n 1, 1) := by decide +kernel
theorem dX8_letThrough_40 : decode cX8_letThrough 40 = .ok (.iaload, 1) := by decide +kernel
theorem dX8_letThrough_41 : decode cX8_letThrough 41 = .ok (.iconst (-1), 1) := by decide +kernel
theorem dX8_letThrough_42 : decode cX8_letThrough 42 = .ok (.if_icmp .eq 7, 3) := by decide +kernel
theorem dX8_letThrough_45 : decode cX8_letThrough 45 = .ok (.iconst 1, 1) := by decide +kernel
theorem dX8_letThrough_46 : decode cX8_letThrough 46 = .ok (.goto 4, 3) := by decide +kernel
theorem dX8_letThrough_49 : decode cX8_letThrough 49 = .ok (.iconst 0, 1) := by decide +kernel
theorem dX8_letThrough_50 : decode cX8_letThrough 50 = .ok (.istore 4, 2) := by decide +kernel
theorem dX8_letThrough_52 : decode cX8_letThrough 52 = .ok (.iload 4, 2) := by decide +kernel
theorem dX8_letThrough_54 : decode cX8_letThrough 54 = .ok (.ifCond .eq 41, 3) := by decide +kernel
theorem dX8_letThrough_57 : decode cX8_letThrough 57 = .ok (.aload_n 0, 1) := by decide +kernel
theorem dX8_letThrough_58 : decode cX8_letThrough 58 = .ok (.getfield 7, 3) := by decide +kernel
theorem dX8_letThrough_61 : decode cX8_letThrough 61 = .ok (.iload_n 2, 1) := by decide +kernel
theorem dX8_letThrough_62 : decode cX8_letThrough 62 = .ok (.iaload, 1) := by decide +kernel
theorem dX8_letThrough_63 : decode cX8_letThrough 63 = .ok (.aload_n 0, 1) := by decide +kernel
theorem dX8_letThrough_64 : decode cX8_letThrough 64 = .ok (.getfield 7, 3) := by decide +kernel
theorem dX8_letThrough_67 : decode cX8_letThrough 67 = .ok (.aload_n 0, 1) := by decide +kernel
theorem dX8_letThrough_68 : decode cX8_letThrough 68 = .ok (.getfield 62, 3) := by decide +kernel
theorem dX8_letThrough_71 : decode cX8_letThrough 71 = .ok (.iload_n 1, 1) := by decide +kernel
theorem dX8_letThrough_72 : decode cX8_letThrough 72 = .ok (.iaload, 1) := by decide +kernel
theorem dX8_letThrough_73 : decode cX8_letThrough 73 = .ok (.iaload, 1) := by decide +kernel
theorem dX8_letThrough_74 : decode cX8_letThrough 74 = .ok (.if_icmp .eq 21, 3) := by decide +kernel
theorem dX8_letThrough_77 : decode cX8_letThrough 77 = .ok (.aload_n 0, 1) := by decide +kernel
theorem dX8_letThrough_78 : decode cX8_letThrough 78 = .ok (.iload_n 2, 1) := by decide +kernel
theorem dX8_letThrough_79 : decode cX8_letThrough 79 = .ok (.aload_n 0, 1) := by decide +kernel
theorem dX8_letThrough_80 : decode cX8_letThrough 80 = .ok (.getfield 65, 3) := by decide +kernel
theorem dX8_letThrough_83 : decode cX8_letThrough 83 = .ok (.iload_n 1, 1) := by decide +kernel
theorem dX8_letThrough_84 : decode cX8_letThrough 84 = .ok (.iaload, 1) := by decide +kernel
theorem dX8_letThrough_85 : decode cX8_letThrough 85 = .ok (.invokevirtual 156, 3) := by decide +kernel
theorem dX8_letThrough_88 : decode cX8_letThrough 88 = .ok (.ifCond .eq 7, 3) := by decide +kernel
theorem dX8_letThrough_91 : decode cX8_letThrough 91 = .ok (.iconst 1, 1) := by decide +kernel
theorem dX8_letThrough_92 : decode cX8_letThrough 92 = .ok (.goto 4, 3) := by decide +kernel
theorem dX8_letThrough_95 : decode cX8_letThrough 95 = .ok (.iconst 0, 1) := by decide +kernel
theorem dX8_letThrough_96 : decode cX8_letThrough 96 = .ok (.istore 4, 2) := by decide +kernel
theorem dX8_letThrough_98 : decode cX8_letThrough 98 = .ok (.aload_n 0, 1) := by decide +kernel
theorem dX8_letThrough_99 : decode cX8_letThrough 99 = .ok (.iload_n 3, 1) := by decide +kernel
theorem dX8_letThrough_100 : decode cX8_letThrough 100 = .ok (.iload 4, 2) := by decide +kernel
theorem dX8_letThrough_102 : decode cX8_letThrough 102 = .ok (.iconst 1, 1) := by decide +kernel
theorem dX8_letThrough_103 : decode cX8_letThrough 103 = .ok (.invokevirtual 123, 3) := by decide +kernel
theorem dX8_letThrough_106 : decode cX8_letThrough 106 = .ok (.ifCond .ne 5, 3) := by decide +kernel
theorem dX8_letThrough_109 : decode cX8_letThrough 109 = .ok (.iconst 0, 1) := by decide +kernel
theorem dX8_letThrough_110 : decode cX8_letThrough 110 = .ok (.ireturn, 1) := by decide +kernel
theorem dX8_letThrough_111 : decode cX8_letThrough 111 = .ok (.aload_n 0, 1) := by decide +kernel
theorem dX8_letThrough_112 : decode cX8_letThrough 112 = .ok (.getfield 119, 3) := by decide +kernel
theorem dX8_letThrough_115 : decode cX8_letThrough 115 = .ok (.aload_n 0, 1) := by decide +kernel
theorem dX8_letThrough_116 : decode cX8_letThrough 116 = .ok (.getfield 74, 3) := by decide +kernel
theorem dX8_letThrough_119 : decode cX8_letThrough 119 = .ok (.iload_n 1, 1) := by decide +kernel
theorem dX8_letThrough_120 : decode cX8_letThrough 120 = .ok (.iaload, 1) := by decide +kernel
theorem dX8_letThrough_121 : decode cX8_letThrough 121 = .ok (.isub, 1) := by decide +kernel
theorem dX8_letThrough_122 : decode cX8_letThrough 122 = .ok (.istore 5, 2) := by decide +kernel
theorem dX8_letThrough_124 : decode cX8_letThrough 124 = .ok (.aload_n 0, 1) := by decide +kernel
theorem dX8_letThrough_125 : decode cX8_letThrough 125 = .ok (.getfield 74, 3) := by decide +kernel
theorem dX8_letThrough_128 : decode cX8_letThrough 128 = .ok (.iload_n 1, 1) := by decide +kernel
theorem dX8_letThrough_129 : decode cX8_letThrough 129 = .ok (.iconst (-1), 1) := by decide +kernel
theorem dX8_letThrough_130 : decode cX8_letThrough 130 = .ok (.iastore, 1) := by decide +kernel
theorem dX8_letThrough_131 : decode cX8_letThrough 131 = .ok (.aload_n 0, 1) := by decide +kernel
theorem dX8_letThrough_132 : decode cX8_letThrough 132 = .ok (.getfield 77, 3) := by decide +kernel
theorem dX8_letThrough_135 : decode cX8_letThrough 135 = .ok (.iload_n 1, 1) := by decide +kernel
theorem dX8_letThrough_136 : decode cX8_letThrough 136 = .ok (.dup2, 1) := by decide +kernel
theorem dX8_letThrough_137 : decode cX8_letThrough 137 = .ok (.iaload, 1) := by decide +kernel
theorem dX8_letThrough_138 : decode cX8_letThrough 138 = .ok (.iconst 1, 1) := by decide +kernel
theorem dX8_letThrough_139 : decode cX8_letThrough 139 = .ok (.iadd, 1) := by decide +kernel
theorem dX8_letThrough_140 : decode cX8_letThrough 140 = .ok (.iastore, 1) := by decide +kernel
theorem dX8_letThrough_141 : decode cX8_letThrough 141 = .ok (.aload_n 0, 1) := by decide +kernel
theorem dX8_letThrough_142 : decode cX8_letThrough 142 = .ok (.bipush 8, 2) := by decide +kernel
theorem dX8_letThrough_144 : decode cX8_letThrough 144 = .ok (.iload_n 2, 1) := by decide +kernel
theorem dX8_letThrough_145 : decode cX8_letThrough 145 = .ok (.aload_n 0, 1) := by decide +kernel
theorem dX8_letThrough_146 : decode cX8_letThrough 146 = .ok (.getfield 65, 3) := by decide +kernel
theorem dX8_letThrough_149 : decode cX8_letThrough 149 = .ok (.iload_n 1, 1) := by decide +kernel
theorem dX8_letThrough_150 : decode cX8_letThrough 150 = .ok (.iaload, 1) := by decide +kernel
theorem dX8_letThrough_151 : decode cX8_letThrough 151 = .ok (.invokevirtual 130, 3) := by decide +kernel
theorem dX8_letThrough_154 : decode cX8_letThrough 154 = .ok (.iload 5, 2) := by decide +kernel
theorem dX8_letThrough_156 : decode cX8_letThrough 156 = .ok (.ireturn, 1) := by decide +kernel
theorem dX8_close_0 : decode cX8_close 0 = .ok (.aload_n 0, 1) := by decide +kernel
theorem dX8_close_1 : decode cX8_close 1 = .ok (.iload_n 1, 1) := by decide +kernel
theorem dX8_close_2 : decode cX8_close 2 = .ok (.invokevirtual 178, 3) := by decide +kernel
theorem dX8_close_5 : decode cX8_close 5 = .ok (.istore_n 2, 1) := by decide +kernel
theorem dX8_close_6 : decode cX8_close 6 = .ok (.aload_n 0, 1) := by decide +kernel
theorem dX8_close_7 : decode cX8_close 7 = .ok (.iload_n 2, 1) := by decide +kernel
theorem dX8_close_8 : decode cX8_close 8 = .ok (.iload_n 2, 1) := by decide +kernel
theorem dX8_close_9 : decode cX8_close 9 = .ok (.ifCond .eq 16, 3) := by decide +kernel
theorem dX8_close_12 : decode cX8_close 12 = .ok (.aload_n 0, 1) := by decide +kernel
theorem dX8_close_13 : decode cX8_close 13 = .ok (.getfield 68, 3) := by decide +kernel
theorem dX8_close_16 : decode cX8_close 16 = .ok (.iload_n 1, 1) := by decide +kernel
theorem dX8_close_17 : decode cX8_close 17 = .ok (.baload, 1) := by decide +kernel
theorem dX8_close_18 : decode cX8_close 18 = .ok (.ifCond .eq 7, 3) := by decide +kernel
theorem dX8_close_21 : decode cX8_close 21 = .ok (.iconst 1, 1) := by decide +kernel
theorem dX8_close_22 : decode cX8_close 22 = .ok (.goto 4, 3) := by decide +kernel
theorem dX8_close_25 : decode cX8_close 25 = .ok (.iconst 0, 1) := by decide +kernel
theorem dX8_close_26 : decode cX8_close 26 = .ok (.iconst 1, 1) := by decide +kernel
theorem dX8_close_27 : decode cX8_close 27 = .ok (.invokevirtual 123, 3) := by decide +kernel
theorem dX8_close_30 : decode cX8_close 30 = .ok (.ifCond .ne 5, 3) := by decide +kernel
theorem dX8_close_33 : decode cX8_close 33 = .ok (.iconst 0, 1) := by decide +kernel
theorem dX8_close_34 : decode cX8_close 34 = .ok (.ireturn, 1) := by decide +kernel
theorem dX8_close_35 : decode cX8_close 35 = .ok (.aload_n 0, 1) := by decide +kernel
theorem dX8_close_36 : decode cX8_close 36 = .ok (.iload_n 1, 1) := by decide +kernel
theorem dX8_close_37 : decode cX8_close 37 = .ok (.invokevirtual 137, 3) := by decide +kernel
theorem dX8_close_40 : decode cX8_close 40 = .ok (.aload_n 0, 1) := by decide +kernel
theorem dX8_close_41 : decode cX8_close 41 = .ok (.getfield 77, 3) := by decide +kernel
theorem dX8_close_44 : decode cX8_close 44 = .ok (.iload_n 1, 1) := by decide +kernel
theorem dX8_close_45 : decode cX8_close 45 = .ok (.iaload, 1) := by decide +kernel
theorem dX8_close_46 : decode cX8_close 46 = .ok (.ireturn, 1) := by decide +kernel
theorem dX8_isOpen_0 : decode cX8_isOpen 0 = .ok (.aload_n 0, 1) := by decide +kernel
theorem dX8_isOpen_1 : decode cX8_isOpen 1 = .ok (.aload_n 0, 1) := by decide +kernel
theorem dX8_isOpen_2 : decode cX8_isOpen 2 = .ok (.iload_n 1, 1) := by decide +kernel
theorem dX8_isOpen_3 : decode cX8_isOpen 3 = .ok (.invokevirtual 178, 3) := by decide +kernel
theorem dX8_isOpen_6 : decode cX8_isOpen 6 = .ok (.iconst 1, 1) := by decide +kernel
theorem dX8_isOpen_7 : decode cX8_isOpen 7 = .ok (.iconst 1, 1) := by decide +kernel
theorem dX8_isOpen_8 : decode cX8_isOpen 8 = .ok (.invokevirtual 123, 3) := by decide +kernel
theorem dX8_isOpen_11 : decode cX8_isOpen 11 = .ok (.ifCond .eq 16, 3) := by decide +kernel
theorem dX8_isOpen_14 : decode cX8_isOpen 14 = .ok (.aload_n 0, 1) := by decide +kernel
theorem dX8_isOpen_15 : decode cX8_isOpen 15 = .ok (.getfield 68, 3) := by decide +kernel
theorem dX8_isOpen_18 : decode cX8_isOpen 18 = .ok (.iload_n 1, 1) := by decide +kernel
theorem dX8_isOpen_19 : decode cX8_isOpen 19 = .ok (.baload, 1) := by decide +kernel
theorem dX8_isOpen_20 : decode cX8_isOpen 20 = .ok (.ifCond .eq 7, 3) := by decide +kernel
theorem dX8_isOpen_23 : decode cX8_isOpen 23 = .ok (.iconst 1, 1) := by decide +kernel
theorem dX8_isOpen_24 : decode cX8_isOpen 24 = .ok (.goto 4, 3) := by decide +kernel
theorem dX8_isOpen_27 : decode cX8_isOpen 27 = .ok (.iconst 0, 1) := by decide +kernel
theorem dX8_isOpen_28 : decode cX8_isOpen 28 = .ok (.ireturn, 1) := by decide +kernel
theorem dX8_openSessions_0 : decode cX8_openSessions 0 = .ok (.aload_n 0, 1) := by decide +kernel
theorem dX8_openSessions_1 : decode cX8_openSessions 1 = .ok (.iconst 0, 1) := by decide +kernel
theorem dX8_openSessions_2 : decode cX8_openSessions 2 = .ok (.putfield 86, 3) := by decide +kernel
theorem dX8_openSessions_5 : decode cX8_openSessions 5 = .ok (.iconst 0, 1) := by decide +kernel
theorem dX8_openSessions_6 : decode cX8_openSessions 6 = .ok (.istore_n 1, 1) := by decide +kernel
theorem dX8_openSessions_7 : decode cX8_openSessions 7 = .ok (.iconst 0, 1) := by decide +kernel
theorem dX8_openSessions_8 : decode cX8_openSessions 8 = .ok (.istore_n 2, 1) := by decide +kernel
theorem dX8_openSessions_9 : decode cX8_openSessions 9 = .ok (.iload_n 2, 1) := by decide +kernel
theorem dX8_openSessions_10 : decode cX8_openSessions 10 = .ok (.aload_n 0, 1) := by decide +kernel
theorem dX8_openSessions_11 : decode cX8_openSessions 11 = .ok (.getfield 113, 3) := by decide +kernel
theorem dX8_openSessions_14 : decode cX8_openSessions 14 = .ok (.if_icmp .ge 26, 3) := by decide +kernel
theorem dX8_openSessions_17 : decode cX8_openSessions 17 = .ok (.iload_n 1, 1) := by decide +kernel
theorem dX8_openSessions_18 : decode cX8_openSessions 18 = .ok (.aload_n 0, 1) := by decide +kernel
theorem dX8_openSessions_19 : decode cX8_openSessions 19 = .ok (.getfield 68, 3) := by decide +kernel
theorem dX8_openSessions_22 : decode cX8_openSessions 22 = .ok (.iload_n 2, 1) := by decide +kernel
theorem dX8_openSessions_23 : decode cX8_openSessions 23 = .ok (.baload, 1) := by decide +kernel
theorem dX8_openSessions_24 : decode cX8_openSessions 24 = .ok (.ifCond .eq 7, 3) := by decide +kernel
theorem dX8_openSessions_27 : decode cX8_openSessions 27 = .ok (.iconst 1, 1) := by decide +kernel
theorem dX8_openSessions_28 : decode cX8_openSessions 28 = .ok (.goto 4, 3) := by decide +kernel
theorem dX8_openSessions_31 : decode cX8_openSessions 31 = .ok (.iconst 0, 1) := by decide +kernel
theorem dX8_openSessions_32 : decode cX8_openSessions 32 = .ok (.iadd, 1) := by decide +kernel
theorem dX8_openSessions_33 : decode cX8_openSessions 33 = .ok (.istore_n 1, 1) := by decide +kernel
theorem dX8_openSessions_34 : decode cX8_openSessions 34 = .ok (.iinc 2 1, 3) := by decide +kernel
theorem dX8_openSessions_37 : decode cX8_openSessions 37 = .ok (.goto (-28), 3) := by decide +kernel
theorem dX8_openSessions_40 : decode cX8_openSessions 40 = .ok (.iload_n 1, 1) := by decide +kernel
theorem dX8_openSessions_41 : decode cX8_openSessions 41 = .ok (.ireturn, 1) := by decide +kernel
theorem dX8_pass_0 : decode cX8_pass 0 = .ok (.iload_n 1, 1) := by decide +kernel
theorem dX8_pass_1 : decode cX8_pass 1 = .ok (.iconst 1, 1) := by decide +kernel
theorem dX8_pass_2 : decode cX8_pass 2 = .ok (.sipush 3000, 3) := by decide +kernel
theorem dX8_pass_5 : decode cX8_pass 5 = .ok (.invokestatic 93, 3) := by decide +kernel
theorem dX8_pass_8 : decode cX8_pass 8 = .ok (.istore_n 2, 1) := by decide +kernel
theorem dX8_pass_9 : decode cX8_pass 9 = .ok (.aload_n 0, 1) := by decide +kernel
theorem dX8_pass_10 : decode cX8_pass 10 = .ok (.iload_n 2, 1) := by decide +kernel
theorem dX8_pass_11 : decode cX8_pass 11 = .ok (.iload_n 2, 1) := by decide +kernel
theorem dX8_pass_12 : decode cX8_pass 12 = .ok (.ifCond .eq 18, 3) := by decide +kernel
theorem dX8_pass_15 : decode cX8_pass 15 = .ok (.aload_n 0, 1) := by decide +kernel
theorem dX8_pass_16 : decode cX8_pass 16 = .ok (.getfield 119, 3) := by decide +kernel
theorem dX8_pass_19 : decode cX8_pass 19 = .ok (.iload_n 1, 1) := by decide +kernel
theorem dX8_pass_20 : decode cX8_pass 20 = .ok (.iadd, 1) := by decide +kernel
theorem dX8_pass_21 : decode cX8_pass 21 = .ok (.ldc 177, 2) := by decide +kernel
theorem dX8_pass_23 : decode cX8_pass 23 = .ok (.if_icmp .gt 7, 3) := by decide +kernel
theorem dX8_pass_26 : decode cX8_pass 26 = .ok (.iconst 1, 1) := by decide +kernel
theorem dX8_pass_27 : decode cX8_pass 27 = .ok (.goto 4, 3) := by decide +kernel
theorem dX8_pass_30 : decode cX8_pass 30 = .ok (.iconst 0, 1) := by decide +kernel
theorem dX8_pass_31 : decode cX8_pass 31 = .ok (.iconst 1, 1) := by decide +kernel
theorem dX8_pass_32 : decode cX8_pass 32 = .ok (.invokevirtual 123, 3) := by decide +kernel
theorem dX8_pass_35 : decode cX8_pass 35 = .ok (.ifCond .ne 5, 3) := by decide +kernel
theorem dX8_pass_38 : decode cX8_pass 38 = .ok (.iconst 0, 1) := by decide +kernel
theorem dX8_pass_39 : decode cX8_pass 39 = .ok (.ireturn, 1) := by decide +kernel
theorem dX8_pass_40 : decode cX8_pass 40 = .ok (.iconst 0, 1) := by decide +kernel
theorem dX8_pass_41 : decode cX8_pass 41 = .ok (.istore_n 3, 1) := by decide +kernel
theorem dX8_pass_42 : decode cX8_pass 42 = .ok (.iconst 0, 1) := by decide +kernel
theorem dX8_pass_43 : decode cX8_pass 43 = .ok (.istore 4, 2) := by decide +kernel
theorem dX8_pass_45 : decode cX8_pass 45 = .ok (.iload 4, 2) := by decide +kernel
theorem dX8_pass_47 : decode cX8_pass 47 = .ok (.iload_n 1, 1) := by decide +kernel
theorem dX8_pass_48 : decode cX8_pass 48 = .ok (.if_icmp .ge 27, 3) := by decide +kernel
theorem dX8_pass_51 : decode cX8_pass 51 = .ok (.aload_n 0, 1) := by decide +kernel
theorem dX8_pass_52 : decode cX8_pass 52 = .ok (.dup, 1) := by decide +kernel
theorem dX8_pass_53 : decode cX8_pass 53 = .ok (.getfield 119, 3) := by decide +kernel
theorem dX8_pass_56 : decode cX8_pass 56 = .ok (.iconst 1, 1) := by decide +kernel
theorem dX8_pass_57 : decode cX8_pass 57 = .ok (.iadd, 1) := by decide +kernel
theorem dX8_pass_58 : decode cX8_pass 58 = .ok (.putfield 119, 3) := by decide +kernel
theorem dX8_pass_61 : decode cX8_pass 61 = .ok (.iload_n 3, 1) := by decide +kernel
theorem dX8_pass_62 : decode cX8_pass 62 = .ok (.aload_n 0, 1) := by decide +kernel
theorem dX8_pass_63 : decode cX8_pass 63 = .ok (.iconst (-1), 1) := by decide +kernel
theorem dX8_pass_64 : decode cX8_pass 64 = .ok (.invokevirtual 148, 3) := by decide +kernel
theorem dX8_pass_67 : decode cX8_pass 67 = .ok (.iadd, 1) := by decide +kernel
theorem dX8_pass_68 : decode cX8_pass 68 = .ok (.istore_n 3, 1) := by decide +kernel
theorem dX8_pass_69 : decode cX8_pass 69 = .ok (.iinc 4 1, 3) := by decide +kernel
theorem dX8_pass_72 : decode cX8_pass 72 = .ok (.goto (-27), 3) := by decide +kernel
theorem dX8_pass_75 : decode cX8_pass 75 = .ok (.iconst 0, 1) := by decide +kernel
theorem dX8_pass_76 : decode cX8_pass 76 = .ok (.istore 4, 2) := by decide +kernel
theorem dX8_pass_78 : decode cX8_pass 78 = .ok (.iload 4, 2) := by decide +kernel
theorem dX8_pass_80 : decode cX8_pass 80 = .ok (.aload_n 0, 1) := by decide +kernel
theorem dX8_pass_81 : decode cX8_pass 81 = .ok (.getfield 107, 3) := by decide +kernel
theorem dX8_pass_84 : decode cX8_pass 84 = .ok (.if_icmp .ge 54, 3) := by decide +kernel
theorem dX8_pass_87 : decode cX8_pass 87 = .ok (.aload_n 0, 1) := by decide +kernel
theorem dX8_pass_88 : decode cX8_pass 88 = .ok (.getfield 44, 3) := by decide +kernel
theorem dX8_pass_91 : decode cX8_pass 91 = .ok (.iload 4, 2) := by decide +kernel
theorem dX8_pass_93 : decode cX8_pass 93 = .ok (.aload_n 0, 1) := by decide +kernel
theorem dX8_pass_94 : decode cX8_pass 94 = .ok (.getfield 44, 3) := by decide +kernel
theorem dX8_pass_97 : decode cX8_pass 97 = .ok (.iload 4, 2) := by decide +kernel
theorem dX8_pass_99 : decode cX8_pass 99 = .ok (.iaload, 1) := by decide +kernel
theorem dX8_pass_100 : decode cX8_pass 100 = .ok (.ifCond .ne 24, 3) := by decide +kernel
theorem dX8_pass_103 : decode cX8_pass 103 = .ok (.aload_n 0, 1) := by decide +kernel
theorem dX8_pass_104 : decode cX8_pass 104 = .ok (.getfield 119, 3) := by decide +kernel
theorem dX8_pass_107 : decode cX8_pass 107 = .ok (.aload_n 0, 1) := by decide +kernel
theorem dX8_pass_108 : decode cX8_pass 108 = .ok (.getfield 41, 3) := by decide +kernel
theorem dX8_pass_111 : decode cX8_pass 111 = .ok (.iload 4, 2) := by decide +kernel
theorem dX8_pass_113 : decode cX8_pass 113 = .ok (.iaload, 1) := by decide +kernel
theorem dX8_pass_114 : decode cX8_pass 114 = .ok (.isub, 1) := by decide +kernel
theorem dX8_pass_115 : decode cX8_pass 115 = .ok (.bipush 60, 2) := by decide +kernel
theorem dX8_pass_117 : decode cX8_pass 117 = .ok (.if_icmp .lt 7, 3) := by decide +kernel
theorem dX8_pass_120 : decode cX8_pass 120 = .ok (.iconst 3, 1) := by decide +kernel
theorem dX8_pass_121 : decode cX8_pass 121 = .ok (.goto 10, 3) := by decide +kernel
theorem dX8_pass_124 : decode cX8_pass 124 = .ok (.aload_n 0, 1) := by decide +kernel
theorem dX8_pass_125 : decode cX8_pass 125 = .ok (.getfield 44, 3) := by decide +kernel
theorem dX8_pass_128 : decode cX8_pass 128 = .ok (.iload 4, 2) := by decide +kernel
theorem dX8_pass_130 : decode cX8_pass 130 = .ok (.iaload, 1) := by decide +kernel
theorem dX8_pass_131 : decode cX8_pass 131 = .ok (.iastore, 1) := by decide +kernel
theorem dX8_pass_132 : decode cX8_pass 132 = .ok (.iinc 4 1, 3) := by decide +kernel
theorem dX8_pass_135 : decode cX8_pass 135 = .ok (.goto (-57), 3) := by decide +kernel
theorem dX8_pass_138 : decode cX8_pass 138 = .ok (.iload_n 3, 1) := by decide +kernel
theorem dX8_pass_139 : decode cX8_pass 139 = .ok (.ireturn, 1) := by decide +kernel
theorem dX8_clock_0 : decode cX8_clock 0 = .ok (.aload_n 0, 1) := by decide +kernel
theorem dX8_clock_1 : decode cX8_clock 1 = .ok (.iconst 0, 1) := by decide +kernel
theorem dX8_clock_2 : decode cX8_clock 2 = .ok (.putfield 86, 3) := by decide +kernel
theorem dX8_clock_5 : decode cX8_clock 5 = .ok (.aload_n 0, 1) := by decide +kernel
theorem dX8_clock_6 : decode cX8_clock 6 = .ok (.getfield 119, 3) := by decide +kernel
theorem dX8_clock_9 : decode cX8_clock 9 = .ok (.ireturn, 1) := by decide +kernel
theorem dX8_steps_0 : decode cX8_steps 0 = .ok (.aload_n 0, 1) := by decide +kernel
theorem dX8_steps_1 : decode cX8_steps 1 = .ok (.iconst 0, 1) := by decide +kernel
theorem dX8_steps_2 : decode cX8_steps 2 = .ok (.putfield 86, 3) := by decide +kernel
theorem dX8_steps_5 : decode cX8_steps 5 = .ok (.aload_n 0, 1) := by decide +kernel
theorem dX8_steps_6 : decode cX8_steps 6 = .ok (.getfield 116, 3) := by decide +kernel
theorem dX8_steps_9 : decode cX8_steps 9 = .ok (.ireturn, 1) := by decide +kernel
theorem dX8_kind_0 : decode cX8_kind 0 = .ok (.aload_n 0, 1) := by decide +kernel
theorem dX8_kind_1 : decode cX8_kind 1 = .ok (.iload_n 1, 1) := by decide +kernel
theorem dX8_kind_2 : decode cX8_kind 2 = .ok (.iconst 0, 1) := by decide +kernel
theorem dX8_kind_3 : decode cX8_kind 3 = .ok (.aload_n 0, 1) := by decide +kernel
theorem dX8_kind_4 : decode cX8_kind 4 = .ok (.getfield 116, 3) := by decide +kernel
theorem dX8_kind_7 : decode cX8_kind 7 = .ok (.iconst 1, 1) := by decide +kernel
theorem dX8_kind_8 : decode cX8_kind 8 = .ok (.isub, 1) := by decide +kernel
theorem dX8_kind_9 : decode cX8_kind 9 = .ok (.invokestatic 93, 3) := by decide +kernel
theorem dX8_kind_12 : decode cX8_kind 12 = .ok (.iconst 1, 1) := by decide +kernel
theorem dX8_kind_13 : decode cX8_kind 13 = .ok (.iconst 1, 1) := by decide +kernel
theorem dX8_kind_14 : decode cX8_kind 14 = .ok (.invokevirtual 123, 3) := by decide +kernel
theorem dX8_kind_17 : decode cX8_kind 17 = .ok (.ifCond .eq 12, 3) := by decide +kernel
theorem dX8_kind_20 : decode cX8_kind 20 = .ok (.aload_n 0, 1) := by decide +kernel
theorem dX8_kind_21 : decode cX8_kind 21 = .ok (.getfield 80, 3) := by decide +kernel
theorem dX8_kind_24 : decode cX8_kind 24 = .ok (.iload_n 1, 1) := by decide +kernel
theorem dX8_kind_25 : decode cX8_kind 25 = .ok (.iaload, 1) := by decide +kernel
theorem dX8_kind_26 : decode cX8_kind 26 = .ok (.goto 4, 3) := by decide +kernel
theorem dX8_kind_29 : decode cX8_kind 29 = .ok (.iconst 0, 1) := by decide +kernel
theorem dX8_kind_30 : decode cX8_kind 30 = .ok (.ireturn, 1) := by decide +kernel
theorem dX8_seal_0 : decode cX8_seal 0 = .ok (.aload_n 0, 1) := by decide +kernel
theorem dX8_seal_1 : decode cX8_seal 1 = .ok (.iload_n 1, 1) := by decide +kernel
theorem dX8_seal_2 : decode cX8_seal 2 = .ok (.iconst 0, 1) := by decide +kernel
theorem dX8_seal_3 : decode cX8_seal 3 = .ok (.aload_n 0, 1) := by decide +kernel
theorem dX8_seal_4 : decode cX8_seal 4 = .ok (.getfield 116, 3) := by decide +kernel
theorem dX8_seal_7 : decode cX8_seal 7 = .ok (.iconst 1, 1) := by decide +kernel
theorem dX8_seal_8 : decode cX8_seal 8 = .ok (.isub, 1) := by decide +kernel
theorem dX8_seal_9 : decode cX8_seal 9 = .ok (.invokestatic 93, 3) := by decide +kernel
theorem dX8_seal_12 : decode cX8_seal 12 = .ok (.iconst 1, 1) := by decide +kernel
theorem dX8_seal_13 : decode cX8_seal 13 = .ok (.iconst 1, 1) := by decide +kernel
theorem dX8_seal_14 : decode cX8_seal 14 = .ok (.invokevirtual 123, 3) := by decide +kernel
theorem dX8_seal_17 : decode cX8_seal 17 = .ok (.ifCond .eq 12, 3) := by decide +kernel
theorem dX8_seal_20 : decode cX8_seal 20 = .ok (.aload_n 0, 1) := by decide +kernel
theorem dX8_seal_21 : decode cX8_seal 21 = .ok (.getfield 83, 3) := by decide +kernel
theorem dX8_seal_24 : decode cX8_seal 24 = .ok (.iload_n 1, 1) := by decide +kernel
theorem dX8_seal_25 : decode cX8_seal 25 = .ok (.iaload, 1) := by decide +kernel
theorem dX8_seal_26 : decode cX8_seal 26 = .ok (.goto 4, 3) := by decide +kernel
theorem dX8_seal_29 : decode cX8_seal 29 = .ok (.iconst 0, 1) := by decide +kernel
theorem dX8_seal_30 : decode cX8_seal 30 = .ok (.ireturn, 1) := by decide +kernel
